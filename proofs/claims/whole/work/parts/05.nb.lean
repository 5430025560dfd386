theorem inlX0 : ∀ w ∈ wsX00, w ∈ wsL_law := fun _ h => List.mem_append_left _ (List.mem_append_right _ h)
theorem inlX1 : ∀ w ∈ wsX10, w ∈ wsL_law := fun _ h => List.mem_append_left _ (List.mem_append_left _ (List.mem_append_left _ (List.mem_append_right _ h)))
theorem inlX2 : ∀ w ∈ wsX20, w ∈ wsL_law := fun _ h => List.mem_append_left _ (List.mem_append_left _ (List.mem_append_right _ h))
theorem inlX3 : ∀ w ∈ wsX30, w ∈ wsL_law := fun _ h => List.mem_append_left _ (List.mem_append_left _ (List.mem_append_left _ (List.mem_append_left _ (List.mem_append_left _ (List.mem_append_right _ h)))))
theorem inlX4 : ∀ w ∈ wsX40, w ∈ wsL_law := fun _ h => List.mem_append_left _ (List.mem_append_left _ (List.mem_append_left _ (List.mem_append_left _ (List.mem_append_right _ h))))
theorem inJ6 : ∀ w ∈ wsJ60, w ∈ lw_tbl := by decide +kernel
theorem inJ9 : ∀ w ∈ wsJ90, w ∈ lw_tbl := by decide +kernel
theorem inJ0 : ∀ w ∈ wsJ00, w ∈ lw_tbl := by decide +kernel
theorem inJ1 : ∀ w ∈ wsJ10, w ∈ lw_tbl := by decide +kernel
theorem inJ2 : ∀ w ∈ wsJ20, w ∈ lw_tbl := by decide +kernel
theorem inJ10 : ∀ w ∈ wsJ100, w ∈ lw_tbl := by decide +kernel
theorem inJ3 : ∀ w ∈ wsJ30, w ∈ lw_tbl := by decide +kernel
theorem dX0_init_0 : decode cX0_init 0 = .ok (.aload_n 0, 1) := by decide +kernel
theorem dX0_init_1 : decode cX0_init 1 = .ok (.invokespecial 3, 3) := by decide +kernel
theorem dX0_init_4 : decode cX0_init 4 = .ok (.aload_n 0, 1) := by decide +kernel
theorem dX0_init_5 : decode cX0_init 5 = .ok (.iconst (-1), 1) := by decide +kernel
theorem dX0_init_6 : decode cX0_init 6 = .ok (.putfield 11, 3) := by decide +kernel
theorem dX0_init_9 : decode cX0_init 9 = .ok (.aload_n 0, 1) := by decide +kernel
theorem dX0_init_10 : decode cX0_init 10 = .ok (.bipush 40, 2) := by decide +kernel
theorem dX0_init_12 : decode cX0_init 12 = .ok (.newarray .int, 2) := by decide +kernel
theorem dX0_init_14 : decode cX0_init 14 = .ok (.putfield 15, 3) := by decide +kernel
theorem dX0_init_17 : decode cX0_init 17 = .ok (.return_, 1) := by decide +kernel
theorem dX0_renew_0 : decode cX0_renew 0 = .ok (.aload_n 0, 1) := by decide +kernel
theorem dX0_renew_1 : decode cX0_renew 1 = .ok (.iload_n 1, 1) := by decide +kernel
theorem dX0_renew_2 : decode cX0_renew 2 = .ok (.putfield 11, 3) := by decide +kernel
theorem dX0_renew_5 : decode cX0_renew 5 = .ok (.aload_n 0, 1) := by decide +kernel
theorem dX0_renew_6 : decode cX0_renew 6 = .ok (.iload_n 2, 1) := by decide +kernel
theorem dX0_renew_7 : decode cX0_renew 7 = .ok (.putfield 19, 3) := by decide +kernel
theorem dX0_renew_10 : decode cX0_renew 10 = .ok (.iconst 0, 1) := by decide +kernel
theorem dX0_renew_11 : decode cX0_renew 11 = .ok (.istore_n 3, 1) := by decide +kernel
theorem dX0_renew_12 : decode cX0_renew 12 = .ok (.iload_n 3, 1) := by decide +kernel
theorem dX0_renew_13 : decode cX0_renew 13 = .ok (.bipush 40, 2) := by decide +kernel
theorem dX0_renew_15 : decode cX0_renew 15 = .ok (.if_icmp .ge 16, 3) := by decide +kernel
theorem dX0_renew_18 : decode cX0_renew 18 = .ok (.aload_n 0, 1) := by decide +kernel
theorem dX0_renew_19 : decode cX0_renew 19 = .ok (.getfield 15, 3) := by decide +kernel
theorem dX0_renew_22 : decode cX0_renew 22 = .ok (.iload_n 3, 1) := by decide +kernel
theorem dX0_renew_23 : decode cX0_renew 23 = .ok (.iconst 0, 1) := by decide +kernel
theorem dX0_renew_24 : decode cX0_renew 24 = .ok (.iastore, 1) := by decide +kernel
theorem dX0_renew_25 : decode cX0_renew 25 = .ok (.iinc 3 1, 3) := by decide +kernel
theorem dX0_renew_28 : decode cX0_renew 28 = .ok (.goto (-16), 3) := by decide +kernel
theorem dX0_renew_31 : decode cX0_renew 31 = .ok (.return_, 1) := by decide +kernel
set_option maxRecDepth 20000 in
theorem ggX0_faultAt_X3_within : GoodIn wsX0_faultAt wsX3_within := goodIn_r _ [5] (by decide +kernel) (by decide +kernel)
set_option maxRecDepth 20000 in
theorem gX0_faultAt_X3_within_n22 : GoodIn wsX0_faultAt (wsX3_within) := ggX0_faultAt_X3_within
theorem dX0_faultAt_0 : decode cX0_faultAt 0 = .ok (.aload_n 0, 1) := by decide +kernel
theorem dX0_faultAt_1 : decode cX0_faultAt 1 = .ok (.getfield 11, 3) := by decide +kernel
theorem dX0_faultAt_4 : decode cX0_faultAt 4 = .ok (.iconst (-1), 1) := by decide +kernel
theorem dX0_faultAt_5 : decode cX0_faultAt 5 = .ok (.if_icmp .ne 5, 3) := by decide +kernel
theorem dX0_faultAt_8 : decode cX0_faultAt 8 = .ok (.iconst 1, 1) := by decide +kernel
theorem dX0_faultAt_9 : decode cX0_faultAt 9 = .ok (.ireturn, 1) := by decide +kernel
theorem dX0_faultAt_10 : decode cX0_faultAt 10 = .ok (.iload_n 1, 1) := by decide +kernel
theorem dX0_faultAt_11 : decode cX0_faultAt 11 = .ok (.iconst 0, 1) := by decide +kernel
theorem dX0_faultAt_12 : decode cX0_faultAt 12 = .ok (.aload_n 0, 1) := by decide +kernel
theorem dX0_faultAt_13 : decode cX0_faultAt 13 = .ok (.getfield 19, 3) := by decide +kernel
theorem dX0_faultAt_16 : decode cX0_faultAt 16 = .ok (.iconst 1, 1) := by decide +kernel
theorem dX0_faultAt_17 : decode cX0_faultAt 17 = .ok (.isub, 1) := by decide +kernel
theorem dX0_faultAt_18 : decode cX0_faultAt 18 = .ok (.invokestatic 22, 3) := by decide +kernel
theorem dX0_faultAt_21 : decode cX0_faultAt 21 = .ok (.ifCond .eq 7, 3) := by decide +kernel
theorem dX0_faultAt_24 : decode cX0_faultAt 24 = .ok (.iconst 0, 1) := by decide +kernel
theorem dX0_faultAt_25 : decode cX0_faultAt 25 = .ok (.goto 4, 3) := by decide +kernel
theorem dX0_faultAt_28 : decode cX0_faultAt 28 = .ok (.iconst 2, 1) := by decide +kernel
theorem dX0_faultAt_29 : decode cX0_faultAt 29 = .ok (.ireturn, 1) := by decide +kernel
set_option maxRecDepth 20000 in
theorem ggX0_faultOfPair_X0_faultAt : GoodIn wsX0_faultOfPair wsX0_faultAt := goodIn_r _ [6, 1, 7, 8, 9, 10, 11, 12, 13] (by decide +kernel) (by decide +kernel)
set_option maxRecDepth 20000 in
theorem gX0_faultOfPair_X0_faultAt : GoodIn wsX0_faultOfPair (wsV RX0 26 RX0 yX0_faultAt wsX0_faultAt) := goodIn_app (goodIn_of _ (by decide +kernel)) ggX0_faultOfPair_X0_faultAt
theorem dX0_faultOfPair_0 : decode cX0_faultOfPair 0 = .ok (.aload_n 0, 1) := by decide +kernel
theorem dX0_faultOfPair_1 : decode cX0_faultOfPair 1 = .ok (.getfield 11, 3) := by decide +kernel
theorem dX0_faultOfPair_4 : decode cX0_faultOfPair 4 = .ok (.iconst (-1), 1) := by decide +kernel
theorem dX0_faultOfPair_5 : decode cX0_faultOfPair 5 = .ok (.if_icmp .eq 13, 3) := by decide +kernel
theorem dX0_faultOfPair_8 : decode cX0_faultOfPair 8 = .ok (.aload_n 0, 1) := by decide +kernel
theorem dX0_faultOfPair_9 : decode cX0_faultOfPair 9 = .ok (.getfield 11, 3) := by decide +kernel
theorem dX0_faultOfPair_12 : decode cX0_faultOfPair 12 = .ok (.iload_n 1, 1) := by decide +kernel
theorem dX0_faultOfPair_13 : decode cX0_faultOfPair 13 = .ok (.if_icmp .eq 5, 3) := by decide +kernel
theorem dX0_faultOfPair_16 : decode cX0_faultOfPair 16 = .ok (.iconst 3, 1) := by decide +kernel
theorem dX0_faultOfPair_17 : decode cX0_faultOfPair 17 = .ok (.ireturn, 1) := by decide +kernel
theorem dX0_faultOfPair_18 : decode cX0_faultOfPair 18 = .ok (.aload_n 0, 1) := by decide +kernel
theorem dX0_faultOfPair_19 : decode cX0_faultOfPair 19 = .ok (.iload_n 2, 1) := by decide +kernel
theorem dX0_faultOfPair_20 : decode cX0_faultOfPair 20 = .ok (.invokevirtual 26, 3) := by decide +kernel
theorem dX0_faultOfPair_23 : decode cX0_faultOfPair 23 = .ok (.istore_n 3, 1) := by decide +kernel
theorem dX0_faultOfPair_24 : decode cX0_faultOfPair 24 = .ok (.iload_n 3, 1) := by decide +kernel
theorem dX0_faultOfPair_25 : decode cX0_faultOfPair 25 = .ok (.ifCond .eq 7, 3) := by decide +kernel
theorem dX0_faultOfPair_28 : decode cX0_faultOfPair 28 = .ok (.iload_n 3, 1) := by decide +kernel
theorem dX0_faultOfPair_29 : decode cX0_faultOfPair 29 = .ok (.goto 10, 3) := by decide +kernel
theorem dX0_faultOfPair_32 : decode cX0_faultOfPair 32 = .ok (.aload_n 0, 1) := by decide +kernel
theorem dX0_faultOfPair_33 : decode cX0_faultOfPair 33 = .ok (.iload_n 2, 1) := by decide +kernel
theorem dX0_faultOfPair_34 : decode cX0_faultOfPair 34 = .ok (.iconst 1, 1) := by decide +kernel
theorem dX0_faultOfPair_35 : decode cX0_faultOfPair 35 = .ok (.iadd, 1) := by decide +kernel
theorem dX0_faultOfPair_36 : decode cX0_faultOfPair 36 = .ok (.invokevirtual 26, 3) := by decide +kernel
theorem dX0_faultOfPair_39 : decode cX0_faultOfPair 39 = .ok (.ireturn, 1) := by decide +kernel
theorem dX0_setCell_0 : decode cX0_setCell 0 = .ok (.aload_n 0, 1) := by decide +kernel
theorem dX0_setCell_1 : decode cX0_setCell 1 = .ok (.getfield 15, 3) := by decide +kernel
theorem dX0_setCell_4 : decode cX0_setCell 4 = .ok (.iload_n 1, 1) := by decide +kernel
theorem dX0_setCell_5 : decode cX0_setCell 5 = .ok (.aload_n 0, 1) := by decide +kernel
theorem dX0_setCell_6 : decode cX0_setCell 6 = .ok (.getfield 11, 3) := by decide +kernel
theorem dX0_setCell_9 : decode cX0_setCell 9 = .ok (.ifCond .ne 8, 3) := by decide +kernel
theorem dX0_setCell_12 : decode cX0_setCell 12 = .ok (.iload_n 2, 1) := by decide +kernel
theorem dX0_setCell_13 : decode cX0_setCell 13 = .ok (.i2b, 1) := by decide +kernel
theorem dX0_setCell_14 : decode cX0_setCell 14 = .ok (.goto 17, 3) := by decide +kernel
theorem dX0_setCell_17 : decode cX0_setCell 17 = .ok (.aload_n 0, 1) := by decide +kernel
theorem dX0_setCell_18 : decode cX0_setCell 18 = .ok (.getfield 11, 3) := by decide +kernel
theorem dX0_setCell_21 : decode cX0_setCell 21 = .ok (.iconst 1, 1) := by decide +kernel
theorem dX0_setCell_22 : decode cX0_setCell 22 = .ok (.if_icmp .ne 8, 3) := by decide +kernel
theorem dX0_setCell_25 : decode cX0_setCell 25 = .ok (.iload_n 2, 1) := by decide +kernel
theorem dX0_setCell_26 : decode cX0_setCell 26 = .ok (.i2s, 1) := by decide +kernel
theorem dX0_setCell_27 : decode cX0_setCell 27 = .ok (.goto 4, 3) := by decide +kernel
theorem dX0_setCell_30 : decode cX0_setCell 30 = .ok (.iload_n 2, 1) := by decide +kernel
theorem dX0_setCell_31 : decode cX0_setCell 31 = .ok (.iastore, 1) := by decide +kernel
theorem dX0_setCell_32 : decode cX0_setCell 32 = .ok (.return_, 1) := by decide +kernel
theorem dX1_init_0 : decode cX1_init 0 = .ok (.aload_n 0, 1) := by decide +kernel
theorem dX1_init_1 : decode cX1_init 1 = .ok (.invokespecial 3, 3) := by decide +kernel
theorem dX1_init_4 : decode cX1_init 4 = .ok (.aload_n 0, 1) := by decide +kernel
theorem dX1_init_5 : decode cX1_init 5 = .ok (.sipush 160, 3) := by decide +kernel
theorem dX1_init_8 : decode cX1_init 8 = .ok (.newarray .byte, 2) := by decide +kernel
theorem dX1_init_10 : decode cX1_init 10 = .ok (.putfield 9, 3) := by decide +kernel
theorem dX1_init_13 : decode cX1_init 13 = .ok (.return_, 1) := by decide +kernel
theorem dX1_addByte_0 : decode cX1_addByte 0 = .ok (.aload_n 0, 1) := by decide +kernel
theorem dX1_addByte_1 : decode cX1_addByte 1 = .ok (.getfield 15, 3) := by decide +kernel
theorem dX1_addByte_4 : decode cX1_addByte 4 = .ok (.sipush 160, 3) := by decide +kernel
theorem dX1_addByte_7 : decode cX1_addByte 7 = .ok (.if_icmp .lt 5, 3) := by decide +kernel
theorem dX1_addByte_10 : decode cX1_addByte 10 = .ok (.iconst 0, 1) := by decide +kernel
theorem dX1_addByte_11 : decode cX1_addByte 11 = .ok (.ireturn, 1) := by decide +kernel
theorem dX1_addByte_12 : decode cX1_addByte 12 = .ok (.aload_n 0, 1) := by decide +kernel
theorem dX1_addByte_13 : decode cX1_addByte 13 = .ok (.getfield 9, 3) := by decide +kernel
theorem dX1_addByte_16 : decode cX1_addByte 16 = .ok (.aload_n 0, 1) := by decide +kernel
theorem dX1_addByte_17 : decode cX1_addByte 17 = .ok (.getfield 15, 3) := by decide +kernel
theorem dX1_addByte_20 : decode cX1_addByte 20 = .ok (.iload_n 1, 1) := by decide +kernel
theorem dX1_addByte_21 : decode cX1_addByte 21 = .ok (.i2b, 1) := by decide +kernel
theorem dX1_addByte_22 : decode cX1_addByte 22 = .ok (.bastore, 1) := by decide +kernel
theorem dX1_addByte_23 : decode cX1_addByte 23 = .ok (.aload_n 0, 1) := by decide +kernel
theorem dX1_addByte_24 : decode cX1_addByte 24 = .ok (.dup, 1) := by decide +kernel
theorem dX1_addByte_25 : decode cX1_addByte 25 = .ok (.getfield 15, 3) := by decide +kernel
theorem dX1_addByte_28 : decode cX1_addByte 28 = .ok (.iconst 1, 1) := by decide +kernel
theorem dX1_addByte_29 : decode cX1_addByte 29 = .ok (.iadd, 1) := by decide +kernel
theorem dX1_addByte_30 : decode cX1_addByte 30 = .ok (.putfield 15, 3) := by decide +kernel
theorem dX1_addByte_33 : decode cX1_addByte 33 = .ok (.iconst 1, 1) := by decide +kernel
theorem dX1_addByte_34 : decode cX1_addByte 34 = .ok (.ireturn, 1) := by decide +kernel
set_option maxRecDepth 20000 in
theorem ggX1_tell_X1_next : GoodIn wsX1_tell wsX1_next := goodIn_r _ [12, 1, 3, 13, 7, 6, 14, 15, 16, 17, 11, 18, 19, 20, 21, 22, 2, 147, 148, 149, 150, 151, 152, 153, 154, 155] (by decide +kernel) (by decide +kernel)
set_option maxRecDepth 20000 in
theorem gX1_tell_X1_next : GoodIn wsX1_tell (wsV RX1 35 RX1 yX1_next wsX1_next) := goodIn_app (goodIn_of _ (by decide +kernel)) ggX1_tell_X1_next
set_option maxRecDepth 20000 in
theorem ggX1_tell_X1_tellLine : GoodIn wsX1_tell wsX1_tellLine := goodIn_r _ [26, 6, 13, 27, 28, 29, 11, 30, 31, 32, 33, 34, 35, 36, 37, 3, 14, 38, 39, 40, 41, 42, 43, 44, 45, 46, 47, 48, 49, 50, 51, 52, 53, 54, 55, 56, 57, 58, 59, 60, 61, 62, 63, 64, 65, 66, 67, 68, 69, 70, 71, 72, 73, 74, 75, 76, 77, 78, 79, 80, 81, 82, 83, 84, 85, 86, 19, 20, 21, 22, 1, 2, 87, 88, 89, 90, 4, 91, 92, 93, 94, 95, 8, 9, 10, 12, 7, 15, 16, 17, 18, 96, 97, 98, 99, 100, 101, 102, 103, 104, 105, 106, 5, 107, 108, 109, 110, 111, 112, 113, 114, 115, 116, 117, 118, 119, 120, 121, 122, 123, 124, 125, 126, 127, 128, 129, 130, 131, 132, 133, 134, 135, 136, 137, 147, 148, 149, 150, 151, 152, 153, 154, 155, 156, 157, 158, 159, 160, 161, 162, 163, 164, 165, 166, 167, 168] (by decide +kernel) (by decide +kernel)
set_option maxRecDepth 20000 in
theorem gX1_tell_X1_tellLine : GoodIn wsX1_tell (wsV RX1 41 RX1 yX1_tellLine wsX1_tellLine) := goodIn_app (goodIn_of _ (by decide +kernel)) ggX1_tell_X1_tellLine
set_option maxRecDepth 20000 in
theorem ggX1_tell_X2_isWhole : GoodIn wsX1_tell wsX2_isWhole := goodIn_r _ [141, 142, 118, 119, 143, 144, 145, 116, 146, 129, 100, 101, 102, 156, 157, 158, 159, 160, 161, 162, 163, 164, 165, 166, 167, 168] (by decide +kernel) (by decide +kernel)
set_option maxRecDepth 20000 in
theorem gX1_tell_X2_isWhole : GoodIn wsX1_tell (wsV RX1 45 RX2 yX2_isWhole wsX2_isWhole) := goodIn_app (goodIn_of _ (by decide +kernel)) ggX1_tell_X2_isWhole
set_option maxRecDepth 20000 in
theorem ggX1_tell_X1_refuse : GoodIn wsX1_tell wsX1_refuse := goodIn_r _ [22, 1, 2, 147, 148, 149, 150, 151, 152, 153, 154, 155] (by decide +kernel) (by decide +kernel)
set_option maxRecDepth 20000 in
theorem gX1_tell_X1_refuse : GoodIn wsX1_tell (wsV RX1 51 RX1 yX1_refuse wsX1_refuse) := goodIn_app (goodIn_of _ (by decide +kernel)) ggX1_tell_X1_refuse
theorem dX1_tell_0 : decode cX1_tell 0 = .ok (.aload_n 0, 1) := by decide +kernel
theorem dX1_tell_1 : decode cX1_tell 1 = .ok (.iconst 0, 1) := by decide +kernel
theorem dX1_tell_2 : decode cX1_tell 2 = .ok (.putfield 19, 3) := by decide +kernel
theorem dX1_tell_5 : decode cX1_tell 5 = .ok (.aload_n 0, 1) := by decide +kernel
theorem dX1_tell_6 : decode cX1_tell 6 = .ok (.iconst 0, 1) := by decide +kernel
theorem dX1_tell_7 : decode cX1_tell 7 = .ok (.putfield 22, 3) := by decide +kernel
theorem dX1_tell_10 : decode cX1_tell 10 = .ok (.aload_n 0, 1) := by decide +kernel
theorem dX1_tell_11 : decode cX1_tell 11 = .ok (.iconst 0, 1) := by decide +kernel
theorem dX1_tell_12 : decode cX1_tell 12 = .ok (.putfield 25, 3) := by decide +kernel
theorem dX1_tell_15 : decode cX1_tell 15 = .ok (.aload_n 0, 1) := by decide +kernel
theorem dX1_tell_16 : decode cX1_tell 16 = .ok (.iconst 0, 1) := by decide +kernel
theorem dX1_tell_17 : decode cX1_tell 17 = .ok (.putfield 28, 3) := by decide +kernel
theorem dX1_tell_20 : decode cX1_tell 20 = .ok (.aload_n 0, 1) := by decide +kernel
theorem dX1_tell_21 : decode cX1_tell 21 = .ok (.iconst 0, 1) := by decide +kernel
theorem dX1_tell_22 : decode cX1_tell 22 = .ok (.putfield 32, 3) := by decide +kernel
theorem dX1_tell_25 : decode cX1_tell 25 = .ok (.iconst 0, 1) := by decide +kernel
theorem dX1_tell_26 : decode cX1_tell 26 = .ok (.istore_n 2, 1) := by decide +kernel
theorem dX1_tell_27 : decode cX1_tell 27 = .ok (.aload_n 0, 1) := by decide +kernel
theorem dX1_tell_28 : decode cX1_tell 28 = .ok (.invokevirtual 35, 3) := by decide +kernel
theorem dX1_tell_31 : decode cX1_tell 31 = .ok (.iconst 0, 1) := by decide +kernel
theorem dX1_tell_32 : decode cX1_tell 32 = .ok (.istore_n 3, 1) := by decide +kernel
theorem dX1_tell_33 : decode cX1_tell 33 = .ok (.iload_n 3, 1) := by decide +kernel
theorem dX1_tell_34 : decode cX1_tell 34 = .ok (.sipush 160, 3) := by decide +kernel
theorem dX1_tell_37 : decode cX1_tell 37 = .ok (.if_icmp .ge 35, 3) := by decide +kernel
theorem dX1_tell_40 : decode cX1_tell 40 = .ok (.aload_n 0, 1) := by decide +kernel
theorem dX1_tell_41 : decode cX1_tell 41 = .ok (.getfield 19, 3) := by decide +kernel
theorem dX1_tell_44 : decode cX1_tell 44 = .ok (.ifCond .ne 28, 3) := by decide +kernel
theorem dX1_tell_47 : decode cX1_tell 47 = .ok (.aload_n 0, 1) := by decide +kernel
theorem dX1_tell_48 : decode cX1_tell 48 = .ok (.getfield 38, 3) := by decide +kernel
theorem dX1_tell_51 : decode cX1_tell 51 = .ok (.ifCond .eq 21, 3) := by decide +kernel
theorem dX1_tell_54 : decode cX1_tell 54 = .ok (.aload_n 0, 1) := by decide +kernel
theorem dX1_tell_55 : decode cX1_tell 55 = .ok (.aload_n 1, 1) := by decide +kernel
theorem dX1_tell_56 : decode cX1_tell 56 = .ok (.invokevirtual 41, 3) := by decide +kernel
theorem dX1_tell_59 : decode cX1_tell 59 = .ok (.iinc 2 1, 3) := by decide +kernel
theorem dX1_tell_62 : decode cX1_tell 62 = .ok (.aload_n 0, 1) := by decide +kernel
theorem dX1_tell_63 : decode cX1_tell 63 = .ok (.invokevirtual 35, 3) := by decide +kernel
theorem dX1_tell_66 : decode cX1_tell 66 = .ok (.iinc 3 1, 3) := by decide +kernel
theorem dX1_tell_69 : decode cX1_tell 69 = .ok (.goto (-36), 3) := by decide +kernel
theorem dX1_tell_72 : decode cX1_tell 72 = .ok (.aload_n 0, 1) := by decide +kernel
theorem dX1_tell_73 : decode cX1_tell 73 = .ok (.getfield 19, 3) := by decide +kernel
theorem dX1_tell_76 : decode cX1_tell 76 = .ok (.ifCond .ne 24, 3) := by decide +kernel
theorem dX1_tell_79 : decode cX1_tell 79 = .ok (.aload_n 1, 1) := by decide +kernel
theorem dX1_tell_80 : decode cX1_tell 80 = .ok (.aload_n 0, 1) := by decide +kernel
theorem dX1_tell_81 : decode cX1_tell 81 = .ok (.getfield 32, 3) := by decide +kernel
theorem dX1_tell_84 : decode cX1_tell 84 = .ok (.invokevirtual 45, 3) := by decide +kernel
theorem dX1_tell_87 : decode cX1_tell 87 = .ok (.ifCond .ne 13, 3) := by decide +kernel
theorem dX1_tell_90 : decode cX1_tell 90 = .ok (.aload_n 0, 1) := by decide +kernel
theorem dX1_tell_91 : decode cX1_tell 91 = .ok (.bipush 6, 2) := by decide +kernel
theorem dX1_tell_93 : decode cX1_tell 93 = .ok (.aload_n 0, 1) := by decide +kernel
theorem dX1_tell_94 : decode cX1_tell 94 = .ok (.getfield 15, 3) := by decide +kernel
theorem dX1_tell_97 : decode cX1_tell 97 = .ok (.invokevirtual 51, 3) := by decide +kernel
theorem dX1_tell_100 : decode cX1_tell 100 = .ok (.iload_n 2, 1) := by decide +kernel
theorem dX1_tell_101 : decode cX1_tell 101 = .ok (.ireturn, 1) := by decide +kernel
set_option maxRecDepth 20000 in
theorem ggX1_tellLine_X1_lineNamed : GoodIn wsX1_tellLine wsX1_lineNamed := goodIn_r _ [7, 8, 9, 6, 10, 11, 12, 13, 14, 15, 2, 16, 17, 18, 19, 20, 21, 22, 23, 24, 25, 26, 27, 28, 29, 30, 31, 32, 33, 34, 35, 36, 37, 38, 39, 40, 41, 42, 43, 44, 45, 46, 47, 48, 49, 50, 51, 52, 53, 54, 55, 56, 57, 58, 59, 60, 61, 62, 63, 64, 65, 134, 135, 136, 137, 138, 139, 140, 141, 142] (by decide +kernel) (by decide +kernel)
set_option maxRecDepth 20000 in
theorem gX1_tellLine_X1_lineNamed : GoodIn wsX1_tellLine (wsV RX1 55 RX1 yX1_lineNamed wsX1_lineNamed) := goodIn_app (goodIn_of _ (by decide +kernel)) ggX1_tellLine_X1_lineNamed
set_option maxRecDepth 20000 in
theorem ggX1_tellLine_X1_refuse : GoodIn wsX1_tellLine wsX1_refuse := goodIn_r _ [69, 70, 71, 134, 135, 136, 137, 138, 139, 140, 141, 142] (by decide +kernel) (by decide +kernel)
set_option maxRecDepth 20000 in
theorem gX1_tellLine_X1_refuse : GoodIn wsX1_tellLine (wsV RX1 51 RX1 yX1_refuse wsX1_refuse) := goodIn_app (goodIn_of _ (by decide +kernel)) ggX1_tellLine_X1_refuse
set_option maxRecDepth 20000 in
theorem ggX1_tellLine_X1_tellSlump : GoodIn wsX1_tellLine wsX1_tellSlump := goodIn_r _ [75, 76, 2, 77, 66, 67, 68, 6, 69, 70, 71, 78, 79, 80, 81, 1, 82, 83, 84, 85, 15, 86, 16, 87, 88, 89, 90, 91, 92, 93, 94, 95, 96, 97, 134, 135, 136, 137, 138, 139, 140, 141, 142, 143, 144, 145, 146, 147, 148, 149, 150, 151, 152, 153, 154, 155] (by decide +kernel) (by decide +kernel)
set_option maxRecDepth 20000 in
theorem gX1_tellLine_X1_tellSlump : GoodIn wsX1_tellLine (wsV RX1 62 RX1 yX1_tellSlump wsX1_tellSlump) := goodIn_app (goodIn_of _ (by decide +kernel)) ggX1_tellLine_X1_tellSlump
set_option maxRecDepth 20000 in
theorem ggX1_tellLine_X1_tellCoin : GoodIn wsX1_tellLine wsX1_tellCoin := goodIn_r _ [101, 102, 2, 103, 66, 67, 68, 6, 69, 70, 71, 78, 79, 80, 81, 1, 82, 83, 84, 85, 15, 86, 16, 87, 88, 89, 90, 91, 92, 93, 94, 95, 96, 97, 134, 135, 136, 137, 138, 139, 140, 141, 142, 143, 144, 145, 146, 147, 148, 149, 150, 151, 152, 153, 154, 155] (by decide +kernel) (by decide +kernel)
set_option maxRecDepth 20000 in
theorem gX1_tellLine_X1_tellCoin : GoodIn wsX1_tellLine (wsV RX1 65 RX1 yX1_tellCoin wsX1_tellCoin) := goodIn_app (goodIn_of _ (by decide +kernel)) ggX1_tellLine_X1_tellCoin
set_option maxRecDepth 20000 in
theorem ggX1_tellLine_X1_tellGift : GoodIn wsX1_tellLine wsX1_tellGift := goodIn_r _ [107, 108, 2, 66, 67, 68, 6, 69, 70, 71, 78, 79, 80, 81, 1, 82, 83, 84, 85, 15, 86, 16, 87, 88, 89, 90, 91, 92, 93, 94, 95, 96, 97, 109, 110, 111, 112, 113, 114, 115, 143, 144, 145, 146, 147, 148, 149, 150, 151, 152, 153, 154, 155, 134, 135, 136, 137, 138, 139, 140, 141, 142] (by decide +kernel) (by decide +kernel)
set_option maxRecDepth 20000 in
theorem gX1_tellLine_X1_tellGift : GoodIn wsX1_tellLine (wsV RX1 68 RX1 yX1_tellGift wsX1_tellGift) := goodIn_app (goodIn_of _ (by decide +kernel)) ggX1_tellLine_X1_tellGift
set_option maxRecDepth 20000 in
theorem ggX1_tellLine_X1_tellOne : GoodIn wsX1_tellLine wsX1_tellOne := goodIn_r _ [119, 120, 2, 66, 67, 68, 6, 69, 70, 71, 78, 79, 80, 81, 1, 82, 83, 84, 85, 15, 86, 16, 87, 88, 89, 90, 91, 92, 93, 94, 95, 96, 97, 121, 122, 123, 112, 124, 125, 126, 127, 128, 129, 143, 144, 145, 146, 147, 148, 149, 150, 151, 152, 153, 154, 155, 134, 135, 136, 137, 138, 139, 140, 141, 142] (by decide +kernel) (by decide +kernel)
set_option maxRecDepth 20000 in
theorem gX1_tellLine_X1_tellOne : GoodIn wsX1_tellLine (wsV RX1 71 RX1 yX1_tellOne wsX1_tellOne) := goodIn_app (goodIn_of _ (by decide +kernel)) ggX1_tellLine_X1_tellOne
set_option maxRecDepth 20000 in
theorem ggX1_tellLine_X1_takeStop : GoodIn wsX1_tellLine wsX1_takeStop := goodIn_r _ [133, 1, 2, 82, 83, 84, 6, 85, 70, 15, 86, 16, 87, 88, 89, 90, 66, 67, 68, 69, 71, 134, 135, 136, 137, 138, 139, 140, 141, 142] (by decide +kernel) (by decide +kernel)
set_option maxRecDepth 20000 in
theorem gX1_tellLine_X1_takeStop : GoodIn wsX1_tellLine (wsV RX1 75 RX1 yX1_takeStop wsX1_takeStop) := goodIn_app (goodIn_of _ (by decide +kernel)) ggX1_tellLine_X1_takeStop
theorem dX1_tellLine_0 : decode cX1_tellLine 0 = .ok (.aload_n 0, 1) := by decide +kernel
theorem dX1_tellLine_1 : decode cX1_tellLine 1 = .ok (.getfield 38, 3) := by decide +kernel
theorem dX1_tellLine_4 : decode cX1_tellLine 4 = .ok (.iconst 1, 1) := by decide +kernel
theorem dX1_tellLine_5 : decode cX1_tellLine 5 = .ok (.if_icmp .ne 10, 3) := by decide +kernel
theorem dX1_tellLine_8 : decode cX1_tellLine 8 = .ok (.aload_n 0, 1) := by decide +kernel
theorem dX1_tellLine_9 : decode cX1_tellLine 9 = .ok (.invokevirtual 55, 3) := by decide +kernel
theorem dX1_tellLine_12 : decode cX1_tellLine 12 = .ok (.goto 5, 3) := by decide +kernel
theorem dX1_tellLine_15 : decode cX1_tellLine 15 = .ok (.bipush 7, 2) := by decide +kernel
theorem dX1_tellLine_17 : decode cX1_tellLine 17 = .ok (.istore_n 2, 1) := by decide +kernel
theorem dX1_tellLine_18 : decode cX1_tellLine 18 = .ok (.iload_n 2, 1) := by decide +kernel
theorem dX1_tellLine_19 : decode cX1_tellLine 19 = .ok (.bipush 7, 2) := by decide +kernel
theorem dX1_tellLine_21 : decode cX1_tellLine 21 = .ok (.if_icmp .ne 15, 3) := by decide +kernel
theorem dX1_tellLine_24 : decode cX1_tellLine 24 = .ok (.aload_n 0, 1) := by decide +kernel
theorem dX1_tellLine_25 : decode cX1_tellLine 25 = .ok (.iconst 2, 1) := by decide +kernel
theorem dX1_tellLine_26 : decode cX1_tellLine 26 = .ok (.aload_n 0, 1) := by decide +kernel
theorem dX1_tellLine_27 : decode cX1_tellLine 27 = .ok (.getfield 59, 3) := by decide +kernel
theorem dX1_tellLine_30 : decode cX1_tellLine 30 = .ok (.invokevirtual 51, 3) := by decide +kernel
theorem dX1_tellLine_33 : decode cX1_tellLine 33 = .ok (.goto 49, 3) := by decide +kernel
theorem dX1_tellLine_36 : decode cX1_tellLine 36 = .ok (.iload_n 2, 1) := by decide +kernel
theorem dX1_tellLine_37 : decode cX1_tellLine 37 = .ok (.iconst 4, 1) := by decide +kernel
theorem dX1_tellLine_38 : decode cX1_tellLine 38 = .ok (.if_icmp .ne 11, 3) := by decide +kernel
theorem dX1_tellLine_41 : decode cX1_tellLine 41 = .ok (.aload_n 0, 1) := by decide +kernel
theorem dX1_tellLine_42 : decode cX1_tellLine 42 = .ok (.aload_n 1, 1) := by decide +kernel
theorem dX1_tellLine_43 : decode cX1_tellLine 43 = .ok (.invokevirtual 62, 3) := by decide +kernel
theorem dX1_tellLine_46 : decode cX1_tellLine 46 = .ok (.goto 36, 3) := by decide +kernel
theorem dX1_tellLine_49 : decode cX1_tellLine 49 = .ok (.iload_n 2, 1) := by decide +kernel
theorem dX1_tellLine_50 : decode cX1_tellLine 50 = .ok (.iconst 5, 1) := by decide +kernel
theorem dX1_tellLine_51 : decode cX1_tellLine 51 = .ok (.if_icmp .ne 11, 3) := by decide +kernel
theorem dX1_tellLine_54 : decode cX1_tellLine 54 = .ok (.aload_n 0, 1) := by decide +kernel
theorem dX1_tellLine_55 : decode cX1_tellLine 55 = .ok (.aload_n 1, 1) := by decide +kernel
theorem dX1_tellLine_56 : decode cX1_tellLine 56 = .ok (.invokevirtual 65, 3) := by decide +kernel
theorem dX1_tellLine_59 : decode cX1_tellLine 59 = .ok (.goto 23, 3) := by decide +kernel
theorem dX1_tellLine_62 : decode cX1_tellLine 62 = .ok (.iload_n 2, 1) := by decide +kernel
theorem dX1_tellLine_63 : decode cX1_tellLine 63 = .ok (.bipush 6, 2) := by decide +kernel
theorem dX1_tellLine_65 : decode cX1_tellLine 65 = .ok (.if_icmp .ne 11, 3) := by decide +kernel
theorem dX1_tellLine_68 : decode cX1_tellLine 68 = .ok (.aload_n 0, 1) := by decide +kernel
theorem dX1_tellLine_69 : decode cX1_tellLine 69 = .ok (.aload_n 1, 1) := by decide +kernel
theorem dX1_tellLine_70 : decode cX1_tellLine 70 = .ok (.invokevirtual 68, 3) := by decide +kernel
theorem dX1_tellLine_73 : decode cX1_tellLine 73 = .ok (.goto 9, 3) := by decide +kernel
theorem dX1_tellLine_76 : decode cX1_tellLine 76 = .ok (.aload_n 0, 1) := by decide +kernel
theorem dX1_tellLine_77 : decode cX1_tellLine 77 = .ok (.aload_n 1, 1) := by decide +kernel
theorem dX1_tellLine_78 : decode cX1_tellLine 78 = .ok (.iload_n 2, 1) := by decide +kernel
theorem dX1_tellLine_79 : decode cX1_tellLine 79 = .ok (.invokevirtual 71, 3) := by decide +kernel
theorem dX1_tellLine_82 : decode cX1_tellLine 82 = .ok (.aload_n 0, 1) := by decide +kernel
theorem dX1_tellLine_83 : decode cX1_tellLine 83 = .ok (.invokevirtual 75, 3) := by decide +kernel
theorem dX1_tellLine_86 : decode cX1_tellLine 86 = .ok (.return_, 1) := by decide +kernel
set_option maxRecDepth 20000 in
theorem ggX1_tellOne_X1_refuse : GoodIn wsX1_tellOne wsX1_refuse := goodIn_r _ [7, 8, 9, 56, 57, 58, 59, 60, 61, 62, 63, 64] (by decide +kernel) (by decide +kernel)
set_option maxRecDepth 20000 in
theorem gX1_tellOne_X1_refuse : GoodIn wsX1_tellOne (wsV RX1 51 RX1 yX1_refuse wsX1_refuse) := goodIn_app (goodIn_of _ (by decide +kernel)) ggX1_tellOne_X1_refuse
set_option maxRecDepth 20000 in
theorem ggX1_tellOne_X1_takeNumber : GoodIn wsX1_tellOne wsX1_takeNumber := goodIn_r _ [13, 14, 2, 15, 16, 17, 6, 18, 8, 19, 20, 21, 22, 23, 24, 25, 3, 4, 5, 7, 9, 26, 27, 28, 29, 30, 31, 32, 56, 57, 58, 59, 60, 61, 62, 63, 64] (by decide +kernel) (by decide +kernel)
set_option maxRecDepth 20000 in
theorem gX1_tellOne_X1_takeNumber : GoodIn wsX1_tellOne (wsV RX1 81 RX1 yX1_takeNumber wsX1_takeNumber) := goodIn_app (goodIn_of _ (by decide +kernel)) ggX1_tellOne_X1_takeNumber
set_option maxRecDepth 20000 in
theorem ggX1_tellOne_X2_addOne : GoodIn wsX1_tellOne wsX2_addOne := goodIn_r _ [37, 38, 39, 40, 41, 42, 43, 44, 45, 46, 47, 48, 49, 50, 51, 52, 53, 54, 55] (by decide +kernel) (by decide +kernel)
set_option maxRecDepth 20000 in
theorem gX1_tellOne_X2_addOne : GoodIn wsX1_tellOne (wsV RX1 85 RX2 yX2_addOne wsX2_addOne) := goodIn_app (goodIn_of _ (by decide +kernel)) ggX1_tellOne_X2_addOne
theorem dX1_tellOne_0 : decode cX1_tellOne 0 = .ok (.aload_n 1, 1) := by decide +kernel
theorem dX1_tellOne_1 : decode cX1_tellOne 1 = .ok (.getfield 78, 3) := by decide +kernel
theorem dX1_tellOne_4 : decode cX1_tellOne 4 = .ok (.iconst 5, 1) := by decide +kernel
theorem dX1_tellOne_5 : decode cX1_tellOne 5 = .ok (.if_icmp .lt 12, 3) := by decide +kernel
theorem dX1_tellOne_8 : decode cX1_tellOne 8 = .ok (.aload_n 0, 1) := by decide +kernel
theorem dX1_tellOne_9 : decode cX1_tellOne 9 = .ok (.iconst 5, 1) := by decide +kernel
theorem dX1_tellOne_10 : decode cX1_tellOne 10 = .ok (.aload_n 0, 1) := by decide +kernel
theorem dX1_tellOne_11 : decode cX1_tellOne 11 = .ok (.getfield 59, 3) := by decide +kernel
theorem dX1_tellOne_14 : decode cX1_tellOne 14 = .ok (.invokevirtual 51, 3) := by decide +kernel
theorem dX1_tellOne_17 : decode cX1_tellOne 17 = .ok (.aload_n 0, 1) := by decide +kernel
theorem dX1_tellOne_18 : decode cX1_tellOne 18 = .ok (.iconst 0, 1) := by decide +kernel
theorem dX1_tellOne_19 : decode cX1_tellOne 19 = .ok (.bipush 99, 2) := by decide +kernel
theorem dX1_tellOne_21 : decode cX1_tellOne 21 = .ok (.invokevirtual 81, 3) := by decide +kernel
theorem dX1_tellOne_24 : decode cX1_tellOne 24 = .ok (.istore_n 3, 1) := by decide +kernel
theorem dX1_tellOne_25 : decode cX1_tellOne 25 = .ok (.aload_n 0, 1) := by decide +kernel
theorem dX1_tellOne_26 : decode cX1_tellOne 26 = .ok (.iconst 0, 1) := by decide +kernel
theorem dX1_tellOne_27 : decode cX1_tellOne 27 = .ok (.bipush 20, 2) := by decide +kernel
theorem dX1_tellOne_29 : decode cX1_tellOne 29 = .ok (.invokevirtual 81, 3) := by decide +kernel
theorem dX1_tellOne_32 : decode cX1_tellOne 32 = .ok (.istore 4, 2) := by decide +kernel
theorem dX1_tellOne_34 : decode cX1_tellOne 34 = .ok (.aload_n 1, 1) := by decide +kernel
theorem dX1_tellOne_35 : decode cX1_tellOne 35 = .ok (.iload_n 2, 1) := by decide +kernel
theorem dX1_tellOne_36 : decode cX1_tellOne 36 = .ok (.iload_n 3, 1) := by decide +kernel
theorem dX1_tellOne_37 : decode cX1_tellOne 37 = .ok (.iload 4, 2) := by decide +kernel
theorem dX1_tellOne_39 : decode cX1_tellOne 39 = .ok (.invokevirtual 85, 3) := by decide +kernel
theorem dX1_tellOne_42 : decode cX1_tellOne 42 = .ok (.return_, 1) := by decide +kernel
set_option maxRecDepth 20000 in
theorem ggX1_tellSlump_X1_refuse : GoodIn wsX1_tellSlump wsX1_refuse := goodIn_r _ [8, 9, 10, 34, 35, 36, 37, 38, 39, 40, 41, 42] (by decide +kernel) (by decide +kernel)
set_option maxRecDepth 20000 in
theorem gX1_tellSlump_X1_refuse : GoodIn wsX1_tellSlump (wsV RX1 51 RX1 yX1_refuse wsX1_refuse) := goodIn_app (goodIn_of _ (by decide +kernel)) ggX1_tellSlump_X1_refuse
set_option maxRecDepth 20000 in
theorem ggX1_tellSlump_X1_takeNumber : GoodIn wsX1_tellSlump wsX1_takeNumber := goodIn_r _ [14, 15, 2, 16, 17, 18, 7, 19, 9, 20, 21, 22, 23, 24, 25, 26, 4, 5, 6, 8, 10, 27, 28, 29, 30, 31, 32, 33, 34, 35, 36, 37, 38, 39, 40, 41, 42] (by decide +kernel) (by decide +kernel)
set_option maxRecDepth 20000 in
theorem gX1_tellSlump_X1_takeNumber : GoodIn wsX1_tellSlump (wsV RX1 81 RX1 yX1_takeNumber wsX1_takeNumber) := goodIn_app (goodIn_of _ (by decide +kernel)) ggX1_tellSlump_X1_takeNumber
theorem dX1_tellSlump_0 : decode cX1_tellSlump 0 = .ok (.aload_n 0, 1) := by decide +kernel
theorem dX1_tellSlump_1 : decode cX1_tellSlump 1 = .ok (.getfield 28, 3) := by decide +kernel
theorem dX1_tellSlump_4 : decode cX1_tellSlump 4 = .ok (.ifCond .eq 12, 3) := by decide +kernel
theorem dX1_tellSlump_7 : decode cX1_tellSlump 7 = .ok (.aload_n 0, 1) := by decide +kernel
theorem dX1_tellSlump_8 : decode cX1_tellSlump 8 = .ok (.iconst 4, 1) := by decide +kernel
theorem dX1_tellSlump_9 : decode cX1_tellSlump 9 = .ok (.aload_n 0, 1) := by decide +kernel
theorem dX1_tellSlump_10 : decode cX1_tellSlump 10 = .ok (.getfield 59, 3) := by decide +kernel
theorem dX1_tellSlump_13 : decode cX1_tellSlump 13 = .ok (.invokevirtual 51, 3) := by decide +kernel
theorem dX1_tellSlump_16 : decode cX1_tellSlump 16 = .ok (.aload_n 0, 1) := by decide +kernel
theorem dX1_tellSlump_17 : decode cX1_tellSlump 17 = .ok (.iconst 1, 1) := by decide +kernel
theorem dX1_tellSlump_18 : decode cX1_tellSlump 18 = .ok (.putfield 28, 3) := by decide +kernel
theorem dX1_tellSlump_21 : decode cX1_tellSlump 21 = .ok (.aload_n 1, 1) := by decide +kernel
theorem dX1_tellSlump_22 : decode cX1_tellSlump 22 = .ok (.aload_n 0, 1) := by decide +kernel
theorem dX1_tellSlump_23 : decode cX1_tellSlump 23 = .ok (.iconst 0, 1) := by decide +kernel
theorem dX1_tellSlump_24 : decode cX1_tellSlump 24 = .ok (.bipush 9, 2) := by decide +kernel
theorem dX1_tellSlump_26 : decode cX1_tellSlump 26 = .ok (.invokevirtual 81, 3) := by decide +kernel
theorem dX1_tellSlump_29 : decode cX1_tellSlump 29 = .ok (.putfield 89, 3) := by decide +kernel
theorem dX1_tellSlump_32 : decode cX1_tellSlump 32 = .ok (.return_, 1) := by decide +kernel
set_option maxRecDepth 20000 in
theorem ggX1_tellCoin_X1_refuse : GoodIn wsX1_tellCoin wsX1_refuse := goodIn_r _ [8, 9, 10, 34, 35, 36, 37, 38, 39, 40, 41, 42] (by decide +kernel) (by decide +kernel)
set_option maxRecDepth 20000 in
theorem gX1_tellCoin_X1_refuse : GoodIn wsX1_tellCoin (wsV RX1 51 RX1 yX1_refuse wsX1_refuse) := goodIn_app (goodIn_of _ (by decide +kernel)) ggX1_tellCoin_X1_refuse
set_option maxRecDepth 20000 in
theorem ggX1_tellCoin_X1_takeNumber : GoodIn wsX1_tellCoin wsX1_takeNumber := goodIn_r _ [14, 15, 2, 16, 17, 18, 7, 19, 9, 20, 21, 22, 23, 24, 25, 26, 4, 5, 6, 8, 10, 27, 28, 29, 30, 31, 32, 33, 34, 35, 36, 37, 38, 39, 40, 41, 42] (by decide +kernel) (by decide +kernel)
set_option maxRecDepth 20000 in
theorem gX1_tellCoin_X1_takeNumber : GoodIn wsX1_tellCoin (wsV RX1 81 RX1 yX1_takeNumber wsX1_takeNumber) := goodIn_app (goodIn_of _ (by decide +kernel)) ggX1_tellCoin_X1_takeNumber
theorem dX1_tellCoin_0 : decode cX1_tellCoin 0 = .ok (.aload_n 0, 1) := by decide +kernel
theorem dX1_tellCoin_1 : decode cX1_tellCoin 1 = .ok (.getfield 32, 3) := by decide +kernel
theorem dX1_tellCoin_4 : decode cX1_tellCoin 4 = .ok (.ifCond .eq 12, 3) := by decide +kernel
theorem dX1_tellCoin_7 : decode cX1_tellCoin 7 = .ok (.aload_n 0, 1) := by decide +kernel
theorem dX1_tellCoin_8 : decode cX1_tellCoin 8 = .ok (.iconst 4, 1) := by decide +kernel
theorem dX1_tellCoin_9 : decode cX1_tellCoin 9 = .ok (.aload_n 0, 1) := by decide +kernel
theorem dX1_tellCoin_10 : decode cX1_tellCoin 10 = .ok (.getfield 59, 3) := by decide +kernel
theorem dX1_tellCoin_13 : decode cX1_tellCoin 13 = .ok (.invokevirtual 51, 3) := by decide +kernel
theorem dX1_tellCoin_16 : decode cX1_tellCoin 16 = .ok (.aload_n 0, 1) := by decide +kernel
theorem dX1_tellCoin_17 : decode cX1_tellCoin 17 = .ok (.iconst 1, 1) := by decide +kernel
theorem dX1_tellCoin_18 : decode cX1_tellCoin 18 = .ok (.putfield 32, 3) := by decide +kernel
theorem dX1_tellCoin_21 : decode cX1_tellCoin 21 = .ok (.aload_n 1, 1) := by decide +kernel
theorem dX1_tellCoin_22 : decode cX1_tellCoin 22 = .ok (.aload_n 0, 1) := by decide +kernel
theorem dX1_tellCoin_23 : decode cX1_tellCoin 23 = .ok (.iconst 0, 1) := by decide +kernel
theorem dX1_tellCoin_24 : decode cX1_tellCoin 24 = .ok (.iconst 4, 1) := by decide +kernel
theorem dX1_tellCoin_25 : decode cX1_tellCoin 25 = .ok (.invokevirtual 81, 3) := by decide +kernel
theorem dX1_tellCoin_28 : decode cX1_tellCoin 28 = .ok (.putfield 92, 3) := by decide +kernel
theorem dX1_tellCoin_31 : decode cX1_tellCoin 31 = .ok (.return_, 1) := by decide +kernel
set_option maxRecDepth 20000 in
theorem ggX1_tellGift_X1_refuse : GoodIn wsX1_tellGift wsX1_refuse := goodIn_r _ [7, 8, 9, 53, 54, 55, 56, 57, 58, 59, 60, 61] (by decide +kernel) (by decide +kernel)
set_option maxRecDepth 20000 in
theorem gX1_tellGift_X1_refuse : GoodIn wsX1_tellGift (wsV RX1 51 RX1 yX1_refuse wsX1_refuse) := goodIn_app (goodIn_of _ (by decide +kernel)) ggX1_tellGift_X1_refuse
set_option maxRecDepth 20000 in
theorem ggX1_tellGift_X1_takeNumber : GoodIn wsX1_tellGift wsX1_takeNumber := goodIn_r _ [13, 14, 2, 15, 16, 17, 6, 18, 8, 19, 20, 21, 22, 23, 24, 25, 3, 4, 5, 7, 9, 26, 27, 28, 29, 30, 31, 32, 53, 54, 55, 56, 57, 58, 59, 60, 61] (by decide +kernel) (by decide +kernel)
set_option maxRecDepth 20000 in
theorem gX1_tellGift_X1_takeNumber : GoodIn wsX1_tellGift (wsV RX1 81 RX1 yX1_takeNumber wsX1_takeNumber) := goodIn_app (goodIn_of _ (by decide +kernel)) ggX1_tellGift_X1_takeNumber
set_option maxRecDepth 20000 in
theorem ggX1_tellGift_X2_addGift : GoodIn wsX1_tellGift wsX2_addGift := goodIn_r _ [37, 38, 39, 40, 41, 42, 43, 44, 45, 46, 47, 48, 49, 50, 51, 52] (by decide +kernel) (by decide +kernel)
set_option maxRecDepth 20000 in
theorem gX1_tellGift_X2_addGift : GoodIn wsX1_tellGift (wsV RX1 98 RX2 yX2_addGift wsX2_addGift) := goodIn_app (goodIn_of _ (by decide +kernel)) ggX1_tellGift_X2_addGift
theorem dX1_tellGift_0 : decode cX1_tellGift 0 = .ok (.aload_n 1, 1) := by decide +kernel
theorem dX1_tellGift_1 : decode cX1_tellGift 1 = .ok (.getfield 95, 3) := by decide +kernel
theorem dX1_tellGift_4 : decode cX1_tellGift 4 = .ok (.iconst 4, 1) := by decide +kernel
theorem dX1_tellGift_5 : decode cX1_tellGift 5 = .ok (.if_icmp .lt 12, 3) := by decide +kernel
theorem dX1_tellGift_8 : decode cX1_tellGift 8 = .ok (.aload_n 0, 1) := by decide +kernel
theorem dX1_tellGift_9 : decode cX1_tellGift 9 = .ok (.iconst 5, 1) := by decide +kernel
theorem dX1_tellGift_10 : decode cX1_tellGift 10 = .ok (.aload_n 0, 1) := by decide +kernel
theorem dX1_tellGift_11 : decode cX1_tellGift 11 = .ok (.getfield 59, 3) := by decide +kernel
theorem dX1_tellGift_14 : decode cX1_tellGift 14 = .ok (.invokevirtual 51, 3) := by decide +kernel
theorem dX1_tellGift_17 : decode cX1_tellGift 17 = .ok (.aload_n 0, 1) := by decide +kernel
theorem dX1_tellGift_18 : decode cX1_tellGift 18 = .ok (.iconst 0, 1) := by decide +kernel
theorem dX1_tellGift_19 : decode cX1_tellGift 19 = .ok (.bipush 20, 2) := by decide +kernel
theorem dX1_tellGift_21 : decode cX1_tellGift 21 = .ok (.invokevirtual 81, 3) := by decide +kernel
theorem dX1_tellGift_24 : decode cX1_tellGift 24 = .ok (.istore_n 2, 1) := by decide +kernel
theorem dX1_tellGift_25 : decode cX1_tellGift 25 = .ok (.aload_n 0, 1) := by decide +kernel
theorem dX1_tellGift_26 : decode cX1_tellGift 26 = .ok (.iconst 0, 1) := by decide +kernel
theorem dX1_tellGift_27 : decode cX1_tellGift 27 = .ok (.iconst 4, 1) := by decide +kernel
theorem dX1_tellGift_28 : decode cX1_tellGift 28 = .ok (.invokevirtual 81, 3) := by decide +kernel
theorem dX1_tellGift_31 : decode cX1_tellGift 31 = .ok (.istore_n 3, 1) := by decide +kernel
theorem dX1_tellGift_32 : decode cX1_tellGift 32 = .ok (.aload_n 0, 1) := by decide +kernel
theorem dX1_tellGift_33 : decode cX1_tellGift 33 = .ok (.iconst 0, 1) := by decide +kernel
theorem dX1_tellGift_34 : decode cX1_tellGift 34 = .ok (.iconst 4, 1) := by decide +kernel
theorem dX1_tellGift_35 : decode cX1_tellGift 35 = .ok (.invokevirtual 81, 3) := by decide +kernel
theorem dX1_tellGift_38 : decode cX1_tellGift 38 = .ok (.istore 4, 2) := by decide +kernel
theorem dX1_tellGift_40 : decode cX1_tellGift 40 = .ok (.iload_n 3, 1) := by decide +kernel
theorem dX1_tellGift_41 : decode cX1_tellGift 41 = .ok (.iload 4, 2) := by decide +kernel
theorem dX1_tellGift_43 : decode cX1_tellGift 43 = .ok (.if_icmp .ne 12, 3) := by decide +kernel
theorem dX1_tellGift_46 : decode cX1_tellGift 46 = .ok (.aload_n 0, 1) := by decide +kernel
theorem dX1_tellGift_47 : decode cX1_tellGift 47 = .ok (.iconst 3, 1) := by decide +kernel
theorem dX1_tellGift_48 : decode cX1_tellGift 48 = .ok (.aload_n 0, 1) := by decide +kernel
theorem dX1_tellGift_49 : decode cX1_tellGift 49 = .ok (.getfield 59, 3) := by decide +kernel
theorem dX1_tellGift_52 : decode cX1_tellGift 52 = .ok (.invokevirtual 51, 3) := by decide +kernel
theorem dX1_tellGift_55 : decode cX1_tellGift 55 = .ok (.aload_n 1, 1) := by decide +kernel
theorem dX1_tellGift_56 : decode cX1_tellGift 56 = .ok (.iload_n 2, 1) := by decide +kernel
theorem dX1_tellGift_57 : decode cX1_tellGift 57 = .ok (.iload_n 3, 1) := by decide +kernel
theorem dX1_tellGift_58 : decode cX1_tellGift 58 = .ok (.iload 4, 2) := by decide +kernel
theorem dX1_tellGift_60 : decode cX1_tellGift 60 = .ok (.aload_n 0, 1) := by decide +kernel
theorem dX1_tellGift_61 : decode cX1_tellGift 61 = .ok (.iconst 1, 1) := by decide +kernel
theorem dX1_tellGift_62 : decode cX1_tellGift 62 = .ok (.bipush 20, 2) := by decide +kernel
theorem dX1_tellGift_64 : decode cX1_tellGift 64 = .ok (.invokevirtual 81, 3) := by decide +kernel
theorem dX1_tellGift_67 : decode cX1_tellGift 67 = .ok (.invokevirtual 98, 3) := by decide +kernel
theorem dX1_tellGift_70 : decode cX1_tellGift 70 = .ok (.pop, 1) := by decide +kernel
theorem dX1_tellGift_71 : decode cX1_tellGift 71 = .ok (.return_, 1) := by decide +kernel
theorem dX1_refuse_0 : decode cX1_refuse 0 = .ok (.aload_n 0, 1) := by decide +kernel
theorem dX1_refuse_1 : decode cX1_refuse 1 = .ok (.getfield 19, 3) := by decide +kernel
theorem dX1_refuse_4 : decode cX1_refuse 4 = .ok (.ifCond .ne 13, 3) := by decide +kernel
theorem dX1_refuse_7 : decode cX1_refuse 7 = .ok (.aload_n 0, 1) := by decide +kernel
theorem dX1_refuse_8 : decode cX1_refuse 8 = .ok (.iload_n 1, 1) := by decide +kernel
theorem dX1_refuse_9 : decode cX1_refuse 9 = .ok (.putfield 19, 3) := by decide +kernel
theorem dX1_refuse_12 : decode cX1_refuse 12 = .ok (.aload_n 0, 1) := by decide +kernel
theorem dX1_refuse_13 : decode cX1_refuse 13 = .ok (.iload_n 2, 1) := by decide +kernel
theorem dX1_refuse_14 : decode cX1_refuse 14 = .ok (.putfield 22, 3) := by decide +kernel
theorem dX1_refuse_17 : decode cX1_refuse 17 = .ok (.return_, 1) := by decide +kernel
set_option maxRecDepth 20000 in
theorem ggX1_takeNumber_X1_next : GoodIn wsX1_takeNumber wsX1_next := goodIn_r _ [7, 8, 9, 2, 10, 1, 11, 12, 13, 14, 6, 15, 16, 17, 18, 19, 20, 28, 29, 30, 31, 32, 33, 34, 35, 36] (by decide +kernel) (by decide +kernel)
set_option maxRecDepth 20000 in
theorem gX1_takeNumber_X1_next : GoodIn wsX1_takeNumber (wsV RX1 35 RX1 yX1_next wsX1_next) := goodIn_app (goodIn_of _ (by decide +kernel)) ggX1_takeNumber_X1_next
set_option maxRecDepth 20000 in
theorem ggX1_takeNumber_X1_refuse : GoodIn wsX1_takeNumber wsX1_refuse := goodIn_r _ [19, 8, 20, 28, 29, 30, 31, 32, 33, 34, 35, 36] (by decide +kernel) (by decide +kernel)
set_option maxRecDepth 20000 in
theorem gX1_takeNumber_X1_refuse : GoodIn wsX1_takeNumber (wsV RX1 51 RX1 yX1_refuse wsX1_refuse) := goodIn_app (goodIn_of _ (by decide +kernel)) ggX1_takeNumber_X1_refuse
set_option maxRecDepth 20000 in
theorem ggX1_takeNumber_X1_numberRead : GoodIn wsX1_takeNumber wsX1_numberRead := goodIn_r _ [24, 2, 9, 11, 28, 29, 30, 31, 32, 33, 34, 35, 36] (by decide +kernel) (by decide +kernel)
set_option maxRecDepth 20000 in
theorem gX1_takeNumber_X1_numberRead : GoodIn wsX1_takeNumber (wsV RX1 102 RX1 yX1_numberRead wsX1_numberRead) := goodIn_app (goodIn_of _ (by decide +kernel)) ggX1_takeNumber_X1_numberRead
set_option maxRecDepth 20000 in
theorem ggX1_takeNumber_X3_within : GoodIn wsX1_takeNumber wsX3_within := goodIn_r _ [27] (by decide +kernel) (by decide +kernel)
set_option maxRecDepth 20000 in
theorem gX1_takeNumber_X3_within_n105 : GoodIn wsX1_takeNumber (wsX3_within) := ggX1_takeNumber_X3_within
theorem dX1_takeNumber_0 : decode cX1_takeNumber 0 = .ok (.aload_n 0, 1) := by decide +kernel
theorem dX1_takeNumber_1 : decode cX1_takeNumber 1 = .ok (.invokevirtual 35, 3) := by decide +kernel
theorem dX1_takeNumber_4 : decode cX1_takeNumber 4 = .ok (.aload_n 0, 1) := by decide +kernel
theorem dX1_takeNumber_5 : decode cX1_takeNumber 5 = .ok (.getfield 38, 3) := by decide +kernel
theorem dX1_takeNumber_8 : decode cX1_takeNumber 8 = .ok (.iconst 2, 1) := by decide +kernel
theorem dX1_takeNumber_9 : decode cX1_takeNumber 9 = .ok (.if_icmp .eq 14, 3) := by decide +kernel
theorem dX1_takeNumber_12 : decode cX1_takeNumber 12 = .ok (.aload_n 0, 1) := by decide +kernel
theorem dX1_takeNumber_13 : decode cX1_takeNumber 13 = .ok (.iconst 2, 1) := by decide +kernel
theorem dX1_takeNumber_14 : decode cX1_takeNumber 14 = .ok (.aload_n 0, 1) := by decide +kernel
theorem dX1_takeNumber_15 : decode cX1_takeNumber 15 = .ok (.getfield 59, 3) := by decide +kernel
theorem dX1_takeNumber_18 : decode cX1_takeNumber 18 = .ok (.invokevirtual 51, 3) := by decide +kernel
theorem dX1_takeNumber_21 : decode cX1_takeNumber 21 = .ok (.iload_n 1, 1) := by decide +kernel
theorem dX1_takeNumber_22 : decode cX1_takeNumber 22 = .ok (.ireturn, 1) := by decide +kernel
theorem dX1_takeNumber_23 : decode cX1_takeNumber 23 = .ok (.aload_n 0, 1) := by decide +kernel
theorem dX1_takeNumber_24 : decode cX1_takeNumber 24 = .ok (.invokevirtual 102, 3) := by decide +kernel
theorem dX1_takeNumber_27 : decode cX1_takeNumber 27 = .ok (.istore_n 3, 1) := by decide +kernel
theorem dX1_takeNumber_28 : decode cX1_takeNumber 28 = .ok (.iload_n 3, 1) := by decide +kernel
theorem dX1_takeNumber_29 : decode cX1_takeNumber 29 = .ok (.iload_n 1, 1) := by decide +kernel
theorem dX1_takeNumber_30 : decode cX1_takeNumber 30 = .ok (.iload_n 2, 1) := by decide +kernel
theorem dX1_takeNumber_31 : decode cX1_takeNumber 31 = .ok (.invokestatic 105, 3) := by decide +kernel
theorem dX1_takeNumber_34 : decode cX1_takeNumber 34 = .ok (.ifCond .ne 12, 3) := by decide +kernel
theorem dX1_takeNumber_37 : decode cX1_takeNumber 37 = .ok (.aload_n 0, 1) := by decide +kernel
theorem dX1_takeNumber_38 : decode cX1_takeNumber 38 = .ok (.iconst 3, 1) := by decide +kernel
theorem dX1_takeNumber_39 : decode cX1_takeNumber 39 = .ok (.aload_n 0, 1) := by decide +kernel
theorem dX1_takeNumber_40 : decode cX1_takeNumber 40 = .ok (.getfield 59, 3) := by decide +kernel
theorem dX1_takeNumber_43 : decode cX1_takeNumber 43 = .ok (.invokevirtual 51, 3) := by decide +kernel
theorem dX1_takeNumber_46 : decode cX1_takeNumber 46 = .ok (.iload_n 3, 1) := by decide +kernel
theorem dX1_takeNumber_47 : decode cX1_takeNumber 47 = .ok (.ireturn, 1) := by decide +kernel
set_option maxRecDepth 20000 in
theorem ggX1_takeStop_X1_next : GoodIn wsX1_takeStop wsX1_next := goodIn_r _ [7, 8, 9, 2, 10, 1, 11, 12, 13, 14, 6, 15, 16, 17, 18, 19, 20, 21, 22, 23, 24, 25, 26, 27, 28, 29] (by decide +kernel) (by decide +kernel)
set_option maxRecDepth 20000 in
theorem gX1_takeStop_X1_next : GoodIn wsX1_takeStop (wsV RX1 35 RX1 yX1_next wsX1_next) := goodIn_app (goodIn_of _ (by decide +kernel)) ggX1_takeStop_X1_next
set_option maxRecDepth 20000 in
theorem ggX1_takeStop_X1_refuse : GoodIn wsX1_takeStop wsX1_refuse := goodIn_r _ [19, 8, 20, 21, 22, 23, 24, 25, 26, 27, 28, 29] (by decide +kernel) (by decide +kernel)
set_option maxRecDepth 20000 in
theorem gX1_takeStop_X1_refuse : GoodIn wsX1_takeStop (wsV RX1 51 RX1 yX1_refuse wsX1_refuse) := goodIn_app (goodIn_of _ (by decide +kernel)) ggX1_takeStop_X1_refuse
theorem dX1_takeStop_0 : decode cX1_takeStop 0 = .ok (.aload_n 0, 1) := by decide +kernel
theorem dX1_takeStop_1 : decode cX1_takeStop 1 = .ok (.invokevirtual 35, 3) := by decide +kernel
theorem dX1_takeStop_4 : decode cX1_takeStop 4 = .ok (.aload_n 0, 1) := by decide +kernel
theorem dX1_takeStop_5 : decode cX1_takeStop 5 = .ok (.getfield 38, 3) := by decide +kernel
theorem dX1_takeStop_8 : decode cX1_takeStop 8 = .ok (.iconst 3, 1) := by decide +kernel
theorem dX1_takeStop_9 : decode cX1_takeStop 9 = .ok (.if_icmp .eq 12, 3) := by decide +kernel
theorem dX1_takeStop_12 : decode cX1_takeStop 12 = .ok (.aload_n 0, 1) := by decide +kernel
theorem dX1_takeStop_13 : decode cX1_takeStop 13 = .ok (.iconst 2, 1) := by decide +kernel
theorem dX1_takeStop_14 : decode cX1_takeStop 14 = .ok (.aload_n 0, 1) := by decide +kernel
theorem dX1_takeStop_15 : decode cX1_takeStop 15 = .ok (.getfield 59, 3) := by decide +kernel
theorem dX1_takeStop_18 : decode cX1_takeStop 18 = .ok (.invokevirtual 51, 3) := by decide +kernel
theorem dX1_takeStop_21 : decode cX1_takeStop 21 = .ok (.return_, 1) := by decide +kernel
set_option maxRecDepth 20000 in
theorem ggX1_next_X1_endOfRun : GoodIn wsX1_next wsX1_endOfRun := goodIn_r _ [11, 4, 6, 17, 18, 19, 20, 21, 22, 23, 24, 25] (by decide +kernel) (by decide +kernel)
set_option maxRecDepth 20000 in
theorem gX1_next_X1_endOfRun : GoodIn wsX1_next (wsV RX1 109 RX1 yX1_endOfRun wsX1_endOfRun) := goodIn_app (goodIn_of _ (by decide +kernel)) ggX1_next_X1_endOfRun
set_option maxRecDepth 20000 in
theorem ggX1_next_X1_refuse : GoodIn wsX1_next wsX1_refuse := goodIn_r _ [15, 1, 16, 17, 18, 19, 20, 21, 22, 23, 24, 25] (by decide +kernel) (by decide +kernel)
set_option maxRecDepth 20000 in
theorem gX1_next_X1_refuse : GoodIn wsX1_next (wsV RX1 51 RX1 yX1_refuse wsX1_refuse) := goodIn_app (goodIn_of _ (by decide +kernel)) ggX1_next_X1_refuse
theorem dX1_next_0 : decode cX1_next 0 = .ok (.aload_n 0, 1) := by decide +kernel
theorem dX1_next_1 : decode cX1_next 1 = .ok (.getfield 19, 3) := by decide +kernel
theorem dX1_next_4 : decode cX1_next 4 = .ok (.ifCond .eq 4, 3) := by decide +kernel
theorem dX1_next_7 : decode cX1_next 7 = .ok (.return_, 1) := by decide +kernel
theorem dX1_next_8 : decode cX1_next 8 = .ok (.aload_n 0, 1) := by decide +kernel
theorem dX1_next_9 : decode cX1_next 9 = .ok (.aload_n 0, 1) := by decide +kernel
theorem dX1_next_10 : decode cX1_next 10 = .ok (.aload_n 0, 1) := by decide +kernel
theorem dX1_next_11 : decode cX1_next 11 = .ok (.getfield 25, 3) := by decide +kernel
theorem dX1_next_14 : decode cX1_next 14 = .ok (.bipush 32, 2) := by decide +kernel
theorem dX1_next_16 : decode cX1_next 16 = .ok (.bipush 32, 2) := by decide +kernel
theorem dX1_next_18 : decode cX1_next 18 = .ok (.invokevirtual 109, 3) := by decide +kernel
theorem dX1_next_21 : decode cX1_next 21 = .ok (.putfield 59, 3) := by decide +kernel
theorem dX1_next_24 : decode cX1_next 24 = .ok (.aload_n 0, 1) := by decide +kernel
theorem dX1_next_25 : decode cX1_next 25 = .ok (.aload_n 0, 1) := by decide +kernel
theorem dX1_next_26 : decode cX1_next 26 = .ok (.getfield 59, 3) := by decide +kernel
theorem dX1_next_29 : decode cX1_next 29 = .ok (.bipush 97, 2) := by decide +kernel
theorem dX1_next_31 : decode cX1_next 31 = .ok (.bipush 122, 2) := by decide +kernel
theorem dX1_next_33 : decode cX1_next 33 = .ok (.invokevirtual 109, 3) := by decide +kernel
theorem dX1_next_36 : decode cX1_next 36 = .ok (.istore_n 1, 1) := by decide +kernel
theorem dX1_next_37 : decode cX1_next 37 = .ok (.aload_n 0, 1) := by decide +kernel
theorem dX1_next_38 : decode cX1_next 38 = .ok (.aload_n 0, 1) := by decide +kernel
theorem dX1_next_39 : decode cX1_next 39 = .ok (.getfield 59, 3) := by decide +kernel
theorem dX1_next_42 : decode cX1_next 42 = .ok (.bipush 48, 2) := by decide +kernel
theorem dX1_next_44 : decode cX1_next 44 = .ok (.bipush 57, 2) := by decide +kernel
theorem dX1_next_46 : decode cX1_next 46 = .ok (.invokevirtual 109, 3) := by decide +kernel
theorem dX1_next_49 : decode cX1_next 49 = .ok (.istore_n 2, 1) := by decide +kernel
theorem dX1_next_50 : decode cX1_next 50 = .ok (.aload_n 0, 1) := by decide +kernel
theorem dX1_next_51 : decode cX1_next 51 = .ok (.getfield 59, 3) := by decide +kernel
theorem dX1_next_54 : decode cX1_next 54 = .ok (.aload_n 0, 1) := by decide +kernel
theorem dX1_next_55 : decode cX1_next 55 = .ok (.getfield 15, 3) := by decide +kernel
theorem dX1_next_58 : decode cX1_next 58 = .ok (.if_icmp .lt 19, 3) := by decide +kernel
theorem dX1_next_61 : decode cX1_next 61 = .ok (.aload_n 0, 1) := by decide +kernel
theorem dX1_next_62 : decode cX1_next 62 = .ok (.iconst 0, 1) := by decide +kernel
theorem dX1_next_63 : decode cX1_next 63 = .ok (.putfield 38, 3) := by decide +kernel
theorem dX1_next_66 : decode cX1_next 66 = .ok (.aload_n 0, 1) := by decide +kernel
theorem dX1_next_67 : decode cX1_next 67 = .ok (.aload_n 0, 1) := by decide +kernel
theorem dX1_next_68 : decode cX1_next 68 = .ok (.getfield 59, 3) := by decide +kernel
theorem dX1_next_71 : decode cX1_next 71 = .ok (.putfield 25, 3) := by decide +kernel
theorem dX1_next_74 : decode cX1_next 74 = .ok (.goto 105, 3) := by decide +kernel
theorem dX1_next_77 : decode cX1_next 77 = .ok (.iload_n 1, 1) := by decide +kernel
theorem dX1_next_78 : decode cX1_next 78 = .ok (.aload_n 0, 1) := by decide +kernel
theorem dX1_next_79 : decode cX1_next 79 = .ok (.getfield 59, 3) := by decide +kernel
theorem dX1_next_82 : decode cX1_next 82 = .ok (.if_icmp .le 16, 3) := by decide +kernel
theorem dX1_next_85 : decode cX1_next 85 = .ok (.aload_n 0, 1) := by decide +kernel
theorem dX1_next_86 : decode cX1_next 86 = .ok (.iconst 1, 1) := by decide +kernel
theorem dX1_next_87 : decode cX1_next 87 = .ok (.putfield 38, 3) := by decide +kernel
theorem dX1_next_90 : decode cX1_next 90 = .ok (.aload_n 0, 1) := by decide +kernel
theorem dX1_next_91 : decode cX1_next 91 = .ok (.iload_n 1, 1) := by decide +kernel
theorem dX1_next_92 : decode cX1_next 92 = .ok (.putfield 25, 3) := by decide +kernel
theorem dX1_next_95 : decode cX1_next 95 = .ok (.goto 84, 3) := by decide +kernel
theorem dX1_next_98 : decode cX1_next 98 = .ok (.iload_n 2, 1) := by decide +kernel
theorem dX1_next_99 : decode cX1_next 99 = .ok (.aload_n 0, 1) := by decide +kernel
theorem dX1_next_100 : decode cX1_next 100 = .ok (.getfield 59, 3) := by decide +kernel
theorem dX1_next_103 : decode cX1_next 103 = .ok (.if_icmp .le 38, 3) := by decide +kernel
theorem dX1_next_106 : decode cX1_next 106 = .ok (.aload_n 0, 1) := by decide +kernel
theorem dX1_next_107 : decode cX1_next 107 = .ok (.iconst 2, 1) := by decide +kernel
theorem dX1_next_108 : decode cX1_next 108 = .ok (.putfield 38, 3) := by decide +kernel
theorem dX1_next_111 : decode cX1_next 111 = .ok (.aload_n 0, 1) := by decide +kernel
theorem dX1_next_112 : decode cX1_next 112 = .ok (.iload_n 2, 1) := by decide +kernel
theorem dX1_next_113 : decode cX1_next 113 = .ok (.putfield 25, 3) := by decide +kernel
theorem dX1_next_116 : decode cX1_next 116 = .ok (.aload_n 0, 1) := by decide +kernel
theorem dX1_next_117 : decode cX1_next 117 = .ok (.getfield 25, 3) := by decide +kernel
theorem dX1_next_120 : decode cX1_next 120 = .ok (.aload_n 0, 1) := by decide +kernel
theorem dX1_next_121 : decode cX1_next 121 = .ok (.getfield 59, 3) := by decide +kernel
theorem dX1_next_124 : decode cX1_next 124 = .ok (.isub, 1) := by decide +kernel
theorem dX1_next_125 : decode cX1_next 125 = .ok (.iconst 2, 1) := by decide +kernel
theorem dX1_next_126 : decode cX1_next 126 = .ok (.if_icmp .le 53, 3) := by decide +kernel
theorem dX1_next_129 : decode cX1_next 129 = .ok (.aload_n 0, 1) := by decide +kernel
theorem dX1_next_130 : decode cX1_next 130 = .ok (.iconst 1, 1) := by decide +kernel
theorem dX1_next_131 : decode cX1_next 131 = .ok (.aload_n 0, 1) := by decide +kernel
theorem dX1_next_132 : decode cX1_next 132 = .ok (.getfield 59, 3) := by decide +kernel
theorem dX1_next_135 : decode cX1_next 135 = .ok (.invokevirtual 51, 3) := by decide +kernel
theorem dX1_next_138 : decode cX1_next 138 = .ok (.goto 41, 3) := by decide +kernel
theorem dX1_next_141 : decode cX1_next 141 = .ok (.aload_n 0, 1) := by decide +kernel
theorem dX1_next_142 : decode cX1_next 142 = .ok (.iconst 3, 1) := by decide +kernel
theorem dX1_next_143 : decode cX1_next 143 = .ok (.putfield 38, 3) := by decide +kernel
theorem dX1_next_146 : decode cX1_next 146 = .ok (.aload_n 0, 1) := by decide +kernel
theorem dX1_next_147 : decode cX1_next 147 = .ok (.aload_n 0, 1) := by decide +kernel
theorem dX1_next_148 : decode cX1_next 148 = .ok (.getfield 59, 3) := by decide +kernel
theorem dX1_next_151 : decode cX1_next 151 = .ok (.iconst 1, 1) := by decide +kernel
theorem dX1_next_152 : decode cX1_next 152 = .ok (.iadd, 1) := by decide +kernel
theorem dX1_next_153 : decode cX1_next 153 = .ok (.putfield 25, 3) := by decide +kernel
theorem dX1_next_156 : decode cX1_next 156 = .ok (.aload_n 0, 1) := by decide +kernel
theorem dX1_next_157 : decode cX1_next 157 = .ok (.getfield 9, 3) := by decide +kernel
theorem dX1_next_160 : decode cX1_next 160 = .ok (.aload_n 0, 1) := by decide +kernel
theorem dX1_next_161 : decode cX1_next 161 = .ok (.getfield 59, 3) := by decide +kernel
theorem dX1_next_164 : decode cX1_next 164 = .ok (.baload, 1) := by decide +kernel
theorem dX1_next_165 : decode cX1_next 165 = .ok (.bipush 59, 2) := by decide +kernel
theorem dX1_next_167 : decode cX1_next 167 = .ok (.if_icmp .eq 12, 3) := by decide +kernel
theorem dX1_next_170 : decode cX1_next 170 = .ok (.aload_n 0, 1) := by decide +kernel
theorem dX1_next_171 : decode cX1_next 171 = .ok (.iconst 1, 1) := by decide +kernel
theorem dX1_next_172 : decode cX1_next 172 = .ok (.aload_n 0, 1) := by decide +kernel
theorem dX1_next_173 : decode cX1_next 173 = .ok (.getfield 59, 3) := by decide +kernel
theorem dX1_next_176 : decode cX1_next 176 = .ok (.invokevirtual 51, 3) := by decide +kernel
theorem dX1_next_179 : decode cX1_next 179 = .ok (.return_, 1) := by decide +kernel
theorem dX1_endOfRun_0 : decode cX1_endOfRun 0 = .ok (.iload_n 1, 1) := by decide +kernel
theorem dX1_endOfRun_1 : decode cX1_endOfRun 1 = .ok (.istore 4, 2) := by decide +kernel
theorem dX1_endOfRun_3 : decode cX1_endOfRun 3 = .ok (.iload 4, 2) := by decide +kernel
theorem dX1_endOfRun_5 : decode cX1_endOfRun 5 = .ok (.aload_n 0, 1) := by decide +kernel
theorem dX1_endOfRun_6 : decode cX1_endOfRun 6 = .ok (.getfield 15, 3) := by decide +kernel
theorem dX1_endOfRun_9 : decode cX1_endOfRun 9 = .ok (.if_icmp .ge 31, 3) := by decide +kernel
theorem dX1_endOfRun_12 : decode cX1_endOfRun 12 = .ok (.aload_n 0, 1) := by decide +kernel
theorem dX1_endOfRun_13 : decode cX1_endOfRun 13 = .ok (.getfield 9, 3) := by decide +kernel
theorem dX1_endOfRun_16 : decode cX1_endOfRun 16 = .ok (.iload 4, 2) := by decide +kernel
theorem dX1_endOfRun_18 : decode cX1_endOfRun 18 = .ok (.baload, 1) := by decide +kernel
theorem dX1_endOfRun_19 : decode cX1_endOfRun 19 = .ok (.iload_n 2, 1) := by decide +kernel
theorem dX1_endOfRun_20 : decode cX1_endOfRun 20 = .ok (.if_icmp .lt 20, 3) := by decide +kernel
theorem dX1_endOfRun_23 : decode cX1_endOfRun 23 = .ok (.aload_n 0, 1) := by decide +kernel
theorem dX1_endOfRun_24 : decode cX1_endOfRun 24 = .ok (.getfield 9, 3) := by decide +kernel
theorem dX1_endOfRun_27 : decode cX1_endOfRun 27 = .ok (.iload 4, 2) := by decide +kernel
theorem dX1_endOfRun_29 : decode cX1_endOfRun 29 = .ok (.baload, 1) := by decide +kernel
theorem dX1_endOfRun_30 : decode cX1_endOfRun 30 = .ok (.iload_n 3, 1) := by decide +kernel
theorem dX1_endOfRun_31 : decode cX1_endOfRun 31 = .ok (.if_icmp .gt 9, 3) := by decide +kernel
theorem dX1_endOfRun_34 : decode cX1_endOfRun 34 = .ok (.iinc 4 1, 3) := by decide +kernel
theorem dX1_endOfRun_37 : decode cX1_endOfRun 37 = .ok (.goto (-34), 3) := by decide +kernel
theorem dX1_endOfRun_40 : decode cX1_endOfRun 40 = .ok (.iload 4, 2) := by decide +kernel
theorem dX1_endOfRun_42 : decode cX1_endOfRun 42 = .ok (.ireturn, 1) := by decide +kernel
theorem dX1_numberRead_0 : decode cX1_numberRead 0 = .ok (.iconst 0, 1) := by decide +kernel
theorem dX1_numberRead_1 : decode cX1_numberRead 1 = .ok (.istore_n 1, 1) := by decide +kernel
theorem dX1_numberRead_2 : decode cX1_numberRead 2 = .ok (.aload_n 0, 1) := by decide +kernel
theorem dX1_numberRead_3 : decode cX1_numberRead 3 = .ok (.getfield 59, 3) := by decide +kernel
theorem dX1_numberRead_6 : decode cX1_numberRead 6 = .ok (.istore_n 2, 1) := by decide +kernel
theorem dX1_numberRead_7 : decode cX1_numberRead 7 = .ok (.iload_n 2, 1) := by decide +kernel
theorem dX1_numberRead_8 : decode cX1_numberRead 8 = .ok (.aload_n 0, 1) := by decide +kernel
theorem dX1_numberRead_9 : decode cX1_numberRead 9 = .ok (.getfield 25, 3) := by decide +kernel
theorem dX1_numberRead_12 : decode cX1_numberRead 12 = .ok (.if_icmp .ge 24, 3) := by decide +kernel
theorem dX1_numberRead_15 : decode cX1_numberRead 15 = .ok (.iload_n 1, 1) := by decide +kernel
theorem dX1_numberRead_16 : decode cX1_numberRead 16 = .ok (.bipush 10, 2) := by decide +kernel
theorem dX1_numberRead_18 : decode cX1_numberRead 18 = .ok (.imul, 1) := by decide +kernel
theorem dX1_numberRead_19 : decode cX1_numberRead 19 = .ok (.aload_n 0, 1) := by decide +kernel
theorem dX1_numberRead_20 : decode cX1_numberRead 20 = .ok (.getfield 9, 3) := by decide +kernel
theorem dX1_numberRead_23 : decode cX1_numberRead 23 = .ok (.iload_n 2, 1) := by decide +kernel
theorem dX1_numberRead_24 : decode cX1_numberRead 24 = .ok (.baload, 1) := by decide +kernel
theorem dX1_numberRead_25 : decode cX1_numberRead 25 = .ok (.iadd, 1) := by decide +kernel
theorem dX1_numberRead_26 : decode cX1_numberRead 26 = .ok (.bipush 48, 2) := by decide +kernel
theorem dX1_numberRead_28 : decode cX1_numberRead 28 = .ok (.isub, 1) := by decide +kernel
theorem dX1_numberRead_29 : decode cX1_numberRead 29 = .ok (.istore_n 1, 1) := by decide +kernel
theorem dX1_numberRead_30 : decode cX1_numberRead 30 = .ok (.iinc 2 1, 3) := by decide +kernel
theorem dX1_numberRead_33 : decode cX1_numberRead 33 = .ok (.goto (-26), 3) := by decide +kernel
theorem dX1_numberRead_36 : decode cX1_numberRead 36 = .ok (.iload_n 1, 1) := by decide +kernel
theorem dX1_numberRead_37 : decode cX1_numberRead 37 = .ok (.ireturn, 1) := by decide +kernel
set_option maxRecDepth 20000 in
theorem ggX1_lineNamed_X1_nameOf : GoodIn wsX1_lineNamed wsX1_nameOf := goodIn_r _ [4] (by decide +kernel) (by decide +kernel)
set_option maxRecDepth 20000 in
theorem gX1_lineNamed_X1_nameOf : GoodIn wsX1_lineNamed (va_wsS RX1 113 yX1_nameOf wsX1_nameOf) := goodIn_app (goodIn_of _ (by decide +kernel)) ggX1_lineNamed_X1_nameOf
set_option maxRecDepth 20000 in
theorem ggX1_lineNamed_X1_isNamed : GoodIn wsX1_lineNamed wsX1_isNamed := goodIn_r _ [8, 9, 10, 11, 12, 13, 14, 15, 16, 17, 18, 19, 20, 21, 22, 23, 24, 25, 26, 27, 28, 29, 30, 31, 32, 33, 34, 35, 36, 37, 38, 39, 40, 41, 42, 43, 44, 45, 46, 47, 48, 49, 50, 51, 52, 53, 54, 55, 56, 57, 58, 59, 60, 61, 62, 63, 64, 65, 66, 67, 68, 69] (by decide +kernel) (by decide +kernel)
set_option maxRecDepth 20000 in
theorem gX1_lineNamed_X1_isNamed : GoodIn wsX1_lineNamed (wsV RX1 117 RX1 yX1_isNamed wsX1_isNamed) := goodIn_app (goodIn_of _ (by decide +kernel)) ggX1_lineNamed_X1_isNamed
theorem dX1_lineNamed_0 : decode cX1_lineNamed 0 = .ok (.iconst 0, 1) := by decide +kernel
theorem dX1_lineNamed_1 : decode cX1_lineNamed 1 = .ok (.istore_n 1, 1) := by decide +kernel
theorem dX1_lineNamed_2 : decode cX1_lineNamed 2 = .ok (.iload_n 1, 1) := by decide +kernel
theorem dX1_lineNamed_3 : decode cX1_lineNamed 3 = .ok (.bipush 7, 2) := by decide +kernel
theorem dX1_lineNamed_5 : decode cX1_lineNamed 5 = .ok (.if_icmp .ge 22, 3) := by decide +kernel
theorem dX1_lineNamed_8 : decode cX1_lineNamed 8 = .ok (.aload_n 0, 1) := by decide +kernel
theorem dX1_lineNamed_9 : decode cX1_lineNamed 9 = .ok (.iload_n 1, 1) := by decide +kernel
theorem dX1_lineNamed_10 : decode cX1_lineNamed 10 = .ok (.invokestatic 113, 3) := by decide +kernel
theorem dX1_lineNamed_13 : decode cX1_lineNamed 13 = .ok (.invokevirtual 117, 3) := by decide +kernel
theorem dX1_lineNamed_16 : decode cX1_lineNamed 16 = .ok (.ifCond .eq 5, 3) := by decide +kernel
theorem dX1_lineNamed_19 : decode cX1_lineNamed 19 = .ok (.iload_n 1, 1) := by decide +kernel
theorem dX1_lineNamed_20 : decode cX1_lineNamed 20 = .ok (.ireturn, 1) := by decide +kernel
theorem dX1_lineNamed_21 : decode cX1_lineNamed 21 = .ok (.iinc 1 1, 3) := by decide +kernel
theorem dX1_lineNamed_24 : decode cX1_lineNamed 24 = .ok (.goto (-22), 3) := by decide +kernel
theorem dX1_lineNamed_27 : decode cX1_lineNamed 27 = .ok (.bipush 7, 2) := by decide +kernel
theorem dX1_lineNamed_29 : decode cX1_lineNamed 29 = .ok (.ireturn, 1) := by decide +kernel
theorem dX1_nameOf_0 : decode cX1_nameOf 0 = .ok (.iload_n 0, 1) := by decide +kernel
theorem dX1_nameOf_1 : decode cX1_nameOf 1 = .ok (.tableswitch 57 0 5 #[39, 42, 45, 48, 51, 54], 39) := by decide +kernel
theorem dX1_nameOf_40 : decode cX1_nameOf 40 = .ok (.ldc 121, 2) := by decide +kernel
theorem dX1_nameOf_42 : decode cX1_nameOf 42 = .ok (.areturn, 1) := by decide +kernel
theorem dX1_nameOf_43 : decode cX1_nameOf 43 = .ok (.ldc 123, 2) := by decide +kernel
theorem dX1_nameOf_45 : decode cX1_nameOf 45 = .ok (.areturn, 1) := by decide +kernel
theorem dX1_nameOf_46 : decode cX1_nameOf 46 = .ok (.ldc 125, 2) := by decide +kernel
theorem dX1_nameOf_48 : decode cX1_nameOf 48 = .ok (.areturn, 1) := by decide +kernel
theorem dX1_nameOf_49 : decode cX1_nameOf 49 = .ok (.ldc 127, 2) := by decide +kernel
theorem dX1_nameOf_51 : decode cX1_nameOf 51 = .ok (.areturn, 1) := by decide +kernel
theorem dX1_nameOf_52 : decode cX1_nameOf 52 = .ok (.ldc 129, 2) := by decide +kernel
theorem dX1_nameOf_54 : decode cX1_nameOf 54 = .ok (.areturn, 1) := by decide +kernel
theorem dX1_nameOf_55 : decode cX1_nameOf 55 = .ok (.ldc 131, 2) := by decide +kernel
theorem dX1_nameOf_57 : decode cX1_nameOf 57 = .ok (.areturn, 1) := by decide +kernel
theorem dX1_nameOf_58 : decode cX1_nameOf 58 = .ok (.ldc 133, 2) := by decide +kernel
theorem dX1_nameOf_60 : decode cX1_nameOf 60 = .ok (.areturn, 1) := by decide +kernel
set_option maxRecDepth 20000 in
theorem ggX1_isNamed_J0_length_8abf5 : GoodIn wsX1_isNamed wsJ0_length_8abf5 := goodIn_r _ [8, 9, 10, 11, 12, 7, 13, 14, 15] (by decide +kernel) (by decide +kernel)
set_option maxRecDepth 20000 in
theorem gX1_isNamed_J0_length_8abf5 : GoodIn wsX1_isNamed (wsV RX1 135 RJ0 yJ0_length_8abf5 wsJ0_length_8abf5) := goodIn_app (goodIn_of _ (by decide +kernel)) ggX1_isNamed_J0_length_8abf5
set_option maxRecDepth 20000 in
theorem ggX1_isNamed_J0_charAt_5068e : GoodIn wsX1_isNamed wsJ0_charAt_5068e := goodIn_r _ [19, 9, 20, 21, 22, 7, 23, 14, 15, 24, 25, 26, 27, 28, 29, 30, 31, 32, 33, 34, 35, 36, 37, 38, 39, 40, 41, 42, 43, 44, 45, 46, 47, 48, 49, 50, 51, 52] (by decide +kernel) (by decide +kernel)
set_option maxRecDepth 20000 in
theorem gX1_isNamed_J0_charAt_5068e : GoodIn wsX1_isNamed (wsV RX1 139 RJ0 yJ0_charAt_5068e wsJ0_charAt_5068e) := goodIn_app (goodIn_of _ (by decide +kernel)) ggX1_isNamed_J0_charAt_5068e
theorem dX1_isNamed_0 : decode cX1_isNamed 0 = .ok (.aload_n 0, 1) := by decide +kernel
theorem dX1_isNamed_1 : decode cX1_isNamed 1 = .ok (.getfield 25, 3) := by decide +kernel
theorem dX1_isNamed_4 : decode cX1_isNamed 4 = .ok (.aload_n 0, 1) := by decide +kernel
theorem dX1_isNamed_5 : decode cX1_isNamed 5 = .ok (.getfield 59, 3) := by decide +kernel
theorem dX1_isNamed_8 : decode cX1_isNamed 8 = .ok (.isub, 1) := by decide +kernel
theorem dX1_isNamed_9 : decode cX1_isNamed 9 = .ok (.aload_n 1, 1) := by decide +kernel
theorem dX1_isNamed_10 : decode cX1_isNamed 10 = .ok (.invokevirtual 135, 3) := by decide +kernel
theorem dX1_isNamed_13 : decode cX1_isNamed 13 = .ok (.if_icmp .eq 5, 3) := by decide +kernel
theorem dX1_isNamed_16 : decode cX1_isNamed 16 = .ok (.iconst 0, 1) := by decide +kernel
theorem dX1_isNamed_17 : decode cX1_isNamed 17 = .ok (.ireturn, 1) := by decide +kernel
theorem dX1_isNamed_18 : decode cX1_isNamed 18 = .ok (.iconst 0, 1) := by decide +kernel
theorem dX1_isNamed_19 : decode cX1_isNamed 19 = .ok (.istore_n 2, 1) := by decide +kernel
theorem dX1_isNamed_20 : decode cX1_isNamed 20 = .ok (.iload_n 2, 1) := by decide +kernel
theorem dX1_isNamed_21 : decode cX1_isNamed 21 = .ok (.aload_n 1, 1) := by decide +kernel
theorem dX1_isNamed_22 : decode cX1_isNamed 22 = .ok (.invokevirtual 135, 3) := by decide +kernel
theorem dX1_isNamed_25 : decode cX1_isNamed 25 = .ok (.if_icmp .ge 30, 3) := by decide +kernel
theorem dX1_isNamed_28 : decode cX1_isNamed 28 = .ok (.aload_n 0, 1) := by decide +kernel
theorem dX1_isNamed_29 : decode cX1_isNamed 29 = .ok (.getfield 9, 3) := by decide +kernel
theorem dX1_isNamed_32 : decode cX1_isNamed 32 = .ok (.aload_n 0, 1) := by decide +kernel
theorem dX1_isNamed_33 : decode cX1_isNamed 33 = .ok (.getfield 59, 3) := by decide +kernel
theorem dX1_isNamed_36 : decode cX1_isNamed 36 = .ok (.iload_n 2, 1) := by decide +kernel
theorem dX1_isNamed_37 : decode cX1_isNamed 37 = .ok (.iadd, 1) := by decide +kernel
theorem dX1_isNamed_38 : decode cX1_isNamed 38 = .ok (.baload, 1) := by decide +kernel
theorem dX1_isNamed_39 : decode cX1_isNamed 39 = .ok (.aload_n 1, 1) := by decide +kernel
theorem dX1_isNamed_40 : decode cX1_isNamed 40 = .ok (.iload_n 2, 1) := by decide +kernel
theorem dX1_isNamed_41 : decode cX1_isNamed 41 = .ok (.invokevirtual 139, 3) := by decide +kernel
theorem dX1_isNamed_44 : decode cX1_isNamed 44 = .ok (.if_icmp .eq 5, 3) := by decide +kernel
theorem dX1_isNamed_47 : decode cX1_isNamed 47 = .ok (.iconst 0, 1) := by decide +kernel
theorem dX1_isNamed_48 : decode cX1_isNamed 48 = .ok (.ireturn, 1) := by decide +kernel
theorem dX1_isNamed_49 : decode cX1_isNamed 49 = .ok (.iinc 2 1, 3) := by decide +kernel
theorem dX1_isNamed_52 : decode cX1_isNamed 52 = .ok (.goto (-32), 3) := by decide +kernel
theorem dX1_isNamed_55 : decode cX1_isNamed 55 = .ok (.iconst 1, 1) := by decide +kernel
theorem dX1_isNamed_56 : decode cX1_isNamed 56 = .ok (.ireturn, 1) := by decide +kernel
theorem dX2_init_0 : decode cX2_init 0 = .ok (.aload_n 0, 1) := by decide +kernel
theorem dX2_init_1 : decode cX2_init 1 = .ok (.invokespecial 3, 3) := by decide +kernel
theorem dX2_init_4 : decode cX2_init 4 = .ok (.aload_n 0, 1) := by decide +kernel
theorem dX2_init_5 : decode cX2_init 5 = .ok (.iconst 5, 1) := by decide +kernel
theorem dX2_init_6 : decode cX2_init 6 = .ok (.newarray .int, 2) := by decide +kernel
theorem dX2_init_8 : decode cX2_init 8 = .ok (.putfield 9, 3) := by decide +kernel
theorem dX2_init_11 : decode cX2_init 11 = .ok (.aload_n 0, 1) := by decide +kernel
theorem dX2_init_12 : decode cX2_init 12 = .ok (.iconst 5, 1) := by decide +kernel
theorem dX2_init_13 : decode cX2_init 13 = .ok (.newarray .int, 2) := by decide +kernel
theorem dX2_init_15 : decode cX2_init 15 = .ok (.putfield 15, 3) := by decide +kernel
theorem dX2_init_18 : decode cX2_init 18 = .ok (.aload_n 0, 1) := by decide +kernel
theorem dX2_init_19 : decode cX2_init 19 = .ok (.iconst 5, 1) := by decide +kernel
theorem dX2_init_20 : decode cX2_init 20 = .ok (.newarray .int, 2) := by decide +kernel
theorem dX2_init_22 : decode cX2_init 22 = .ok (.putfield 18, 3) := by decide +kernel
theorem dX2_init_25 : decode cX2_init 25 = .ok (.aload_n 0, 1) := by decide +kernel
theorem dX2_init_26 : decode cX2_init 26 = .ok (.iconst 5, 1) := by decide +kernel
theorem dX2_init_27 : decode cX2_init 27 = .ok (.newarray .int, 2) := by decide +kernel
theorem dX2_init_29 : decode cX2_init 29 = .ok (.putfield 21, 3) := by decide +kernel
theorem dX2_init_32 : decode cX2_init 32 = .ok (.aload_n 0, 1) := by decide +kernel
theorem dX2_init_33 : decode cX2_init 33 = .ok (.bipush 16, 2) := by decide +kernel
theorem dX2_init_35 : decode cX2_init 35 = .ok (.newarray .int, 2) := by decide +kernel
theorem dX2_init_37 : decode cX2_init 37 = .ok (.putfield 24, 3) := by decide +kernel
theorem dX2_init_40 : decode cX2_init 40 = .ok (.aload_n 0, 1) := by decide +kernel
theorem dX2_init_41 : decode cX2_init 41 = .ok (.bipush 6, 2) := by decide +kernel
theorem dX2_init_43 : decode cX2_init 43 = .ok (.newarray .int, 2) := by decide +kernel
theorem dX2_init_45 : decode cX2_init 45 = .ok (.putfield 27, 3) := by decide +kernel
theorem dX2_init_48 : decode cX2_init 48 = .ok (.aload_n 0, 1) := by decide +kernel
theorem dX2_init_49 : decode cX2_init 49 = .ok (.bipush 6, 2) := by decide +kernel
theorem dX2_init_51 : decode cX2_init 51 = .ok (.newarray .int, 2) := by decide +kernel
theorem dX2_init_53 : decode cX2_init 53 = .ok (.putfield 30, 3) := by decide +kernel
theorem dX2_init_56 : decode cX2_init 56 = .ok (.return_, 1) := by decide +kernel
theorem dX2_clear_0 : decode cX2_clear 0 = .ok (.aload_n 0, 1) := by decide +kernel
theorem dX2_clear_1 : decode cX2_clear 1 = .ok (.iconst 0, 1) := by decide +kernel
theorem dX2_clear_2 : decode cX2_clear 2 = .ok (.putfield 33, 3) := by decide +kernel
theorem dX2_clear_5 : decode cX2_clear 5 = .ok (.aload_n 0, 1) := by decide +kernel
theorem dX2_clear_6 : decode cX2_clear 6 = .ok (.iconst 0, 1) := by decide +kernel
theorem dX2_clear_7 : decode cX2_clear 7 = .ok (.putfield 37, 3) := by decide +kernel
theorem dX2_clear_10 : decode cX2_clear 10 = .ok (.aload_n 0, 1) := by decide +kernel
theorem dX2_clear_11 : decode cX2_clear 11 = .ok (.iconst 0, 1) := by decide +kernel
theorem dX2_clear_12 : decode cX2_clear 12 = .ok (.putfield 40, 3) := by decide +kernel
theorem dX2_clear_15 : decode cX2_clear 15 = .ok (.aload_n 0, 1) := by decide +kernel
theorem dX2_clear_16 : decode cX2_clear 16 = .ok (.iconst 0, 1) := by decide +kernel
theorem dX2_clear_17 : decode cX2_clear 17 = .ok (.putfield 43, 3) := by decide +kernel
theorem dX2_clear_20 : decode cX2_clear 20 = .ok (.aload_n 0, 1) := by decide +kernel
theorem dX2_clear_21 : decode cX2_clear 21 = .ok (.iconst 0, 1) := by decide +kernel
theorem dX2_clear_22 : decode cX2_clear 22 = .ok (.putfield 46, 3) := by decide +kernel
theorem dX2_clear_25 : decode cX2_clear 25 = .ok (.aload_n 0, 1) := by decide +kernel
theorem dX2_clear_26 : decode cX2_clear 26 = .ok (.iconst 0, 1) := by decide +kernel
theorem dX2_clear_27 : decode cX2_clear 27 = .ok (.putfield 49, 3) := by decide +kernel
theorem dX2_clear_30 : decode cX2_clear 30 = .ok (.return_, 1) := by decide +kernel
theorem dX2_become_0 : decode cX2_become 0 = .ok (.aload_n 0, 1) := by decide +kernel
theorem dX2_become_1 : decode cX2_become 1 = .ok (.aload_n 1, 1) := by decide +kernel
theorem dX2_become_2 : decode cX2_become 2 = .ok (.getfield 33, 3) := by decide +kernel
theorem dX2_become_5 : decode cX2_become 5 = .ok (.putfield 33, 3) := by decide +kernel
theorem dX2_become_8 : decode cX2_become 8 = .ok (.aload_n 0, 1) := by decide +kernel
theorem dX2_become_9 : decode cX2_become 9 = .ok (.aload_n 1, 1) := by decide +kernel
theorem dX2_become_10 : decode cX2_become 10 = .ok (.getfield 37, 3) := by decide +kernel
theorem dX2_become_13 : decode cX2_become 13 = .ok (.putfield 37, 3) := by decide +kernel
theorem dX2_become_16 : decode cX2_become 16 = .ok (.aload_n 0, 1) := by decide +kernel
theorem dX2_become_17 : decode cX2_become 17 = .ok (.aload_n 1, 1) := by decide +kernel
theorem dX2_become_18 : decode cX2_become 18 = .ok (.getfield 40, 3) := by decide +kernel
theorem dX2_become_21 : decode cX2_become 21 = .ok (.putfield 40, 3) := by decide +kernel
theorem dX2_become_24 : decode cX2_become 24 = .ok (.aload_n 0, 1) := by decide +kernel
theorem dX2_become_25 : decode cX2_become 25 = .ok (.aload_n 1, 1) := by decide +kernel
theorem dX2_become_26 : decode cX2_become 26 = .ok (.getfield 43, 3) := by decide +kernel
theorem dX2_become_29 : decode cX2_become 29 = .ok (.putfield 43, 3) := by decide +kernel
theorem dX2_become_32 : decode cX2_become 32 = .ok (.aload_n 0, 1) := by decide +kernel
theorem dX2_become_33 : decode cX2_become 33 = .ok (.aload_n 1, 1) := by decide +kernel
theorem dX2_become_34 : decode cX2_become 34 = .ok (.getfield 46, 3) := by decide +kernel
theorem dX2_become_37 : decode cX2_become 37 = .ok (.putfield 46, 3) := by decide +kernel
theorem dX2_become_40 : decode cX2_become 40 = .ok (.aload_n 0, 1) := by decide +kernel
theorem dX2_become_41 : decode cX2_become 41 = .ok (.aload_n 1, 1) := by decide +kernel
theorem dX2_become_42 : decode cX2_become 42 = .ok (.getfield 49, 3) := by decide +kernel
theorem dX2_become_45 : decode cX2_become 45 = .ok (.putfield 49, 3) := by decide +kernel
theorem dX2_become_48 : decode cX2_become 48 = .ok (.aload_n 1, 1) := by decide +kernel
theorem dX2_become_49 : decode cX2_become 49 = .ok (.getfield 9, 3) := by decide +kernel
theorem dX2_become_52 : decode cX2_become 52 = .ok (.iconst 0, 1) := by decide +kernel
theorem dX2_become_53 : decode cX2_become 53 = .ok (.aload_n 0, 1) := by decide +kernel
theorem dX2_become_54 : decode cX2_become 54 = .ok (.getfield 9, 3) := by decide +kernel
theorem dX2_become_57 : decode cX2_become 57 = .ok (.iconst 0, 1) := by decide +kernel
theorem dX2_become_58 : decode cX2_become 58 = .ok (.aload_n 0, 1) := by decide +kernel
theorem dX2_become_59 : decode cX2_become 59 = .ok (.getfield 33, 3) := by decide +kernel
theorem dX2_become_62 : decode cX2_become 62 = .ok (.invokestatic 52, 3) := by decide +kernel
theorem dX2_become_65 : decode cX2_become 65 = .ok (.aload_n 1, 1) := by decide +kernel
theorem dX2_become_66 : decode cX2_become 66 = .ok (.getfield 15, 3) := by decide +kernel
theorem dX2_become_69 : decode cX2_become 69 = .ok (.iconst 0, 1) := by decide +kernel
theorem dX2_become_70 : decode cX2_become 70 = .ok (.aload_n 0, 1) := by decide +kernel
theorem dX2_become_71 : decode cX2_become 71 = .ok (.getfield 15, 3) := by decide +kernel
theorem dX2_become_74 : decode cX2_become 74 = .ok (.iconst 0, 1) := by decide +kernel
theorem dX2_become_75 : decode cX2_become 75 = .ok (.aload_n 0, 1) := by decide +kernel
theorem dX2_become_76 : decode cX2_become 76 = .ok (.getfield 33, 3) := by decide +kernel
theorem dX2_become_79 : decode cX2_become 79 = .ok (.invokestatic 52, 3) := by decide +kernel
theorem dX2_become_82 : decode cX2_become 82 = .ok (.aload_n 1, 1) := by decide +kernel
theorem dX2_become_83 : decode cX2_become 83 = .ok (.getfield 18, 3) := by decide +kernel
theorem dX2_become_86 : decode cX2_become 86 = .ok (.iconst 0, 1) := by decide +kernel
theorem dX2_become_87 : decode cX2_become 87 = .ok (.aload_n 0, 1) := by decide +kernel
theorem dX2_become_88 : decode cX2_become 88 = .ok (.getfield 18, 3) := by decide +kernel
theorem dX2_become_91 : decode cX2_become 91 = .ok (.iconst 0, 1) := by decide +kernel
theorem dX2_become_92 : decode cX2_become 92 = .ok (.aload_n 0, 1) := by decide +kernel
theorem dX2_become_93 : decode cX2_become 93 = .ok (.getfield 33, 3) := by decide +kernel
theorem dX2_become_96 : decode cX2_become 96 = .ok (.invokestatic 52, 3) := by decide +kernel
theorem dX2_become_99 : decode cX2_become 99 = .ok (.aload_n 1, 1) := by decide +kernel
theorem dX2_become_100 : decode cX2_become 100 = .ok (.getfield 21, 3) := by decide +kernel
theorem dX2_become_103 : decode cX2_become 103 = .ok (.iconst 0, 1) := by decide +kernel
theorem dX2_become_104 : decode cX2_become 104 = .ok (.aload_n 0, 1) := by decide +kernel
theorem dX2_become_105 : decode cX2_become 105 = .ok (.getfield 21, 3) := by decide +kernel
theorem dX2_become_108 : decode cX2_become 108 = .ok (.iconst 0, 1) := by decide +kernel
theorem dX2_become_109 : decode cX2_become 109 = .ok (.aload_n 0, 1) := by decide +kernel
theorem dX2_become_110 : decode cX2_become 110 = .ok (.getfield 33, 3) := by decide +kernel
theorem dX2_become_113 : decode cX2_become 113 = .ok (.invokestatic 52, 3) := by decide +kernel
theorem dX2_become_116 : decode cX2_become 116 = .ok (.aload_n 1, 1) := by decide +kernel
theorem dX2_become_117 : decode cX2_become 117 = .ok (.getfield 24, 3) := by decide +kernel
theorem dX2_become_120 : decode cX2_become 120 = .ok (.iconst 0, 1) := by decide +kernel
theorem dX2_become_121 : decode cX2_become 121 = .ok (.aload_n 0, 1) := by decide +kernel
theorem dX2_become_122 : decode cX2_become 122 = .ok (.getfield 24, 3) := by decide +kernel
theorem dX2_become_125 : decode cX2_become 125 = .ok (.iconst 0, 1) := by decide +kernel
theorem dX2_become_126 : decode cX2_become 126 = .ok (.aload_n 0, 1) := by decide +kernel
theorem dX2_become_127 : decode cX2_become 127 = .ok (.getfield 46, 3) := by decide +kernel
theorem dX2_become_130 : decode cX2_become 130 = .ok (.iconst 4, 1) := by decide +kernel
theorem dX2_become_131 : decode cX2_become 131 = .ok (.imul, 1) := by decide +kernel
theorem dX2_become_132 : decode cX2_become 132 = .ok (.invokestatic 52, 3) := by decide +kernel
theorem dX2_become_135 : decode cX2_become 135 = .ok (.aload_n 1, 1) := by decide +kernel
theorem dX2_become_136 : decode cX2_become 136 = .ok (.getfield 27, 3) := by decide +kernel
theorem dX2_become_139 : decode cX2_become 139 = .ok (.iconst 0, 1) := by decide +kernel
theorem dX2_become_140 : decode cX2_become 140 = .ok (.aload_n 0, 1) := by decide +kernel
theorem dX2_become_141 : decode cX2_become 141 = .ok (.getfield 27, 3) := by decide +kernel
theorem dX2_become_144 : decode cX2_become 144 = .ok (.iconst 0, 1) := by decide +kernel
theorem dX2_become_145 : decode cX2_become 145 = .ok (.aload_n 0, 1) := by decide +kernel
theorem dX2_become_146 : decode cX2_become 146 = .ok (.getfield 49, 3) := by decide +kernel
theorem dX2_become_149 : decode cX2_become 149 = .ok (.invokestatic 52, 3) := by decide +kernel
theorem dX2_become_152 : decode cX2_become 152 = .ok (.aload_n 1, 1) := by decide +kernel
theorem dX2_become_153 : decode cX2_become 153 = .ok (.getfield 30, 3) := by decide +kernel
theorem dX2_become_156 : decode cX2_become 156 = .ok (.iconst 0, 1) := by decide +kernel
theorem dX2_become_157 : decode cX2_become 157 = .ok (.aload_n 0, 1) := by decide +kernel
theorem dX2_become_158 : decode cX2_become 158 = .ok (.getfield 30, 3) := by decide +kernel
theorem dX2_become_161 : decode cX2_become 161 = .ok (.iconst 0, 1) := by decide +kernel
theorem dX2_become_162 : decode cX2_become 162 = .ok (.aload_n 0, 1) := by decide +kernel
theorem dX2_become_163 : decode cX2_become 163 = .ok (.getfield 49, 3) := by decide +kernel
theorem dX2_become_166 : decode cX2_become 166 = .ok (.invokestatic 52, 3) := by decide +kernel
theorem dX2_become_169 : decode cX2_become 169 = .ok (.return_, 1) := by decide +kernel
set_option maxRecDepth 20000 in
theorem ggX2_has_X3_within : GoodIn wsX2_has wsX3_within := goodIn_r _ [4] (by decide +kernel) (by decide +kernel)
set_option maxRecDepth 20000 in
theorem gX2_has_X3_within_n58 : GoodIn wsX2_has (wsX3_within) := ggX2_has_X3_within
theorem dX2_has_0 : decode cX2_has 0 = .ok (.iload_n 1, 1) := by decide +kernel
theorem dX2_has_1 : decode cX2_has 1 = .ok (.iconst 0, 1) := by decide +kernel
theorem dX2_has_2 : decode cX2_has 2 = .ok (.aload_n 0, 1) := by decide +kernel
theorem dX2_has_3 : decode cX2_has 3 = .ok (.getfield 33, 3) := by decide +kernel
theorem dX2_has_6 : decode cX2_has 6 = .ok (.iconst 1, 1) := by decide +kernel
theorem dX2_has_7 : decode cX2_has 7 = .ok (.isub, 1) := by decide +kernel
theorem dX2_has_8 : decode cX2_has 8 = .ok (.invokestatic 58, 3) := by decide +kernel
theorem dX2_has_11 : decode cX2_has 11 = .ok (.ireturn, 1) := by decide +kernel
theorem dX2_addOne_0 : decode cX2_addOne 0 = .ok (.aload_n 0, 1) := by decide +kernel
theorem dX2_addOne_1 : decode cX2_addOne 1 = .ok (.getfield 33, 3) := by decide +kernel
theorem dX2_addOne_4 : decode cX2_addOne 4 = .ok (.iconst 5, 1) := by decide +kernel
theorem dX2_addOne_5 : decode cX2_addOne 5 = .ok (.if_icmp .ge 53, 3) := by decide +kernel
theorem dX2_addOne_8 : decode cX2_addOne 8 = .ok (.aload_n 0, 1) := by decide +kernel
theorem dX2_addOne_9 : decode cX2_addOne 9 = .ok (.getfield 9, 3) := by decide +kernel
theorem dX2_addOne_12 : decode cX2_addOne 12 = .ok (.aload_n 0, 1) := by decide +kernel
theorem dX2_addOne_13 : decode cX2_addOne 13 = .ok (.getfield 33, 3) := by decide +kernel
theorem dX2_addOne_16 : decode cX2_addOne 16 = .ok (.iload_n 1, 1) := by decide +kernel
theorem dX2_addOne_17 : decode cX2_addOne 17 = .ok (.iastore, 1) := by decide +kernel
theorem dX2_addOne_18 : decode cX2_addOne 18 = .ok (.aload_n 0, 1) := by decide +kernel
theorem dX2_addOne_19 : decode cX2_addOne 19 = .ok (.getfield 15, 3) := by decide +kernel
theorem dX2_addOne_22 : decode cX2_addOne 22 = .ok (.aload_n 0, 1) := by decide +kernel
theorem dX2_addOne_23 : decode cX2_addOne 23 = .ok (.getfield 33, 3) := by decide +kernel
theorem dX2_addOne_26 : decode cX2_addOne 26 = .ok (.iload_n 2, 1) := by decide +kernel
theorem dX2_addOne_27 : decode cX2_addOne 27 = .ok (.iastore, 1) := by decide +kernel
theorem dX2_addOne_28 : decode cX2_addOne 28 = .ok (.aload_n 0, 1) := by decide +kernel
theorem dX2_addOne_29 : decode cX2_addOne 29 = .ok (.getfield 18, 3) := by decide +kernel
theorem dX2_addOne_32 : decode cX2_addOne 32 = .ok (.aload_n 0, 1) := by decide +kernel
theorem dX2_addOne_33 : decode cX2_addOne 33 = .ok (.getfield 33, 3) := by decide +kernel
theorem dX2_addOne_36 : decode cX2_addOne 36 = .ok (.iload_n 3, 1) := by decide +kernel
theorem dX2_addOne_37 : decode cX2_addOne 37 = .ok (.iastore, 1) := by decide +kernel
theorem dX2_addOne_38 : decode cX2_addOne 38 = .ok (.aload_n 0, 1) := by decide +kernel
theorem dX2_addOne_39 : decode cX2_addOne 39 = .ok (.getfield 21, 3) := by decide +kernel
theorem dX2_addOne_42 : decode cX2_addOne 42 = .ok (.aload_n 0, 1) := by decide +kernel
theorem dX2_addOne_43 : decode cX2_addOne 43 = .ok (.getfield 33, 3) := by decide +kernel
theorem dX2_addOne_46 : decode cX2_addOne 46 = .ok (.iconst 0, 1) := by decide +kernel
theorem dX2_addOne_47 : decode cX2_addOne 47 = .ok (.iastore, 1) := by decide +kernel
theorem dX2_addOne_48 : decode cX2_addOne 48 = .ok (.aload_n 0, 1) := by decide +kernel
theorem dX2_addOne_49 : decode cX2_addOne 49 = .ok (.dup, 1) := by decide +kernel
theorem dX2_addOne_50 : decode cX2_addOne 50 = .ok (.getfield 33, 3) := by decide +kernel
theorem dX2_addOne_53 : decode cX2_addOne 53 = .ok (.iconst 1, 1) := by decide +kernel
theorem dX2_addOne_54 : decode cX2_addOne 54 = .ok (.iadd, 1) := by decide +kernel
theorem dX2_addOne_55 : decode cX2_addOne 55 = .ok (.putfield 33, 3) := by decide +kernel
theorem dX2_addOne_58 : decode cX2_addOne 58 = .ok (.return_, 1) := by decide +kernel
theorem dX2_addGift_0 : decode cX2_addGift 0 = .ok (.aload_n 0, 1) := by decide +kernel
theorem dX2_addGift_1 : decode cX2_addGift 1 = .ok (.getfield 46, 3) := by decide +kernel
theorem dX2_addGift_4 : decode cX2_addGift 4 = .ok (.iconst 4, 1) := by decide +kernel
theorem dX2_addGift_5 : decode cX2_addGift 5 = .ok (.if_icmp .lt 5, 3) := by decide +kernel
theorem dX2_addGift_8 : decode cX2_addGift 8 = .ok (.iconst 0, 1) := by decide +kernel
theorem dX2_addGift_9 : decode cX2_addGift 9 = .ok (.ireturn, 1) := by decide +kernel
theorem dX2_addGift_10 : decode cX2_addGift 10 = .ok (.aload_n 0, 1) := by decide +kernel
theorem dX2_addGift_11 : decode cX2_addGift 11 = .ok (.getfield 46, 3) := by decide +kernel
theorem dX2_addGift_14 : decode cX2_addGift 14 = .ok (.iconst 4, 1) := by decide +kernel
theorem dX2_addGift_15 : decode cX2_addGift 15 = .ok (.imul, 1) := by decide +kernel
theorem dX2_addGift_16 : decode cX2_addGift 16 = .ok (.istore 5, 2) := by decide +kernel
theorem dX2_addGift_18 : decode cX2_addGift 18 = .ok (.aload_n 0, 1) := by decide +kernel
theorem dX2_addGift_19 : decode cX2_addGift 19 = .ok (.getfield 24, 3) := by decide +kernel
theorem dX2_addGift_22 : decode cX2_addGift 22 = .ok (.iload 5, 2) := by decide +kernel
theorem dX2_addGift_24 : decode cX2_addGift 24 = .ok (.iload_n 1, 1) := by decide +kernel
theorem dX2_addGift_25 : decode cX2_addGift 25 = .ok (.iastore, 1) := by decide +kernel
theorem dX2_addGift_26 : decode cX2_addGift 26 = .ok (.aload_n 0, 1) := by decide +kernel
theorem dX2_addGift_27 : decode cX2_addGift 27 = .ok (.getfield 24, 3) := by decide +kernel
theorem dX2_addGift_30 : decode cX2_addGift 30 = .ok (.iload 5, 2) := by decide +kernel
theorem dX2_addGift_32 : decode cX2_addGift 32 = .ok (.iconst 1, 1) := by decide +kernel
theorem dX2_addGift_33 : decode cX2_addGift 33 = .ok (.iadd, 1) := by decide +kernel
theorem dX2_addGift_34 : decode cX2_addGift 34 = .ok (.iload_n 2, 1) := by decide +kernel
theorem dX2_addGift_35 : decode cX2_addGift 35 = .ok (.iastore, 1) := by decide +kernel
theorem dX2_addGift_36 : decode cX2_addGift 36 = .ok (.aload_n 0, 1) := by decide +kernel
theorem dX2_addGift_37 : decode cX2_addGift 37 = .ok (.getfield 24, 3) := by decide +kernel
theorem dX2_addGift_40 : decode cX2_addGift 40 = .ok (.iload 5, 2) := by decide +kernel
theorem dX2_addGift_42 : decode cX2_addGift 42 = .ok (.iconst 2, 1) := by decide +kernel
theorem dX2_addGift_43 : decode cX2_addGift 43 = .ok (.iadd, 1) := by decide +kernel
theorem dX2_addGift_44 : decode cX2_addGift 44 = .ok (.iload_n 3, 1) := by decide +kernel
theorem dX2_addGift_45 : decode cX2_addGift 45 = .ok (.iastore, 1) := by decide +kernel
theorem dX2_addGift_46 : decode cX2_addGift 46 = .ok (.aload_n 0, 1) := by decide +kernel
theorem dX2_addGift_47 : decode cX2_addGift 47 = .ok (.getfield 24, 3) := by decide +kernel
theorem dX2_addGift_50 : decode cX2_addGift 50 = .ok (.iload 5, 2) := by decide +kernel
theorem dX2_addGift_52 : decode cX2_addGift 52 = .ok (.iconst 3, 1) := by decide +kernel
theorem dX2_addGift_53 : decode cX2_addGift 53 = .ok (.iadd, 1) := by decide +kernel
theorem dX2_addGift_54 : decode cX2_addGift 54 = .ok (.iload 4, 2) := by decide +kernel
theorem dX2_addGift_56 : decode cX2_addGift 56 = .ok (.iastore, 1) := by decide +kernel
theorem dX2_addGift_57 : decode cX2_addGift 57 = .ok (.aload_n 0, 1) := by decide +kernel
theorem dX2_addGift_58 : decode cX2_addGift 58 = .ok (.dup, 1) := by decide +kernel
theorem dX2_addGift_59 : decode cX2_addGift 59 = .ok (.getfield 46, 3) := by decide +kernel
theorem dX2_addGift_62 : decode cX2_addGift 62 = .ok (.iconst 1, 1) := by decide +kernel
theorem dX2_addGift_63 : decode cX2_addGift 63 = .ok (.iadd, 1) := by decide +kernel
theorem dX2_addGift_64 : decode cX2_addGift 64 = .ok (.putfield 46, 3) := by decide +kernel
theorem dX2_addGift_67 : decode cX2_addGift 67 = .ok (.iconst 1, 1) := by decide +kernel
theorem dX2_addGift_68 : decode cX2_addGift 68 = .ok (.ireturn, 1) := by decide +kernel
theorem dX2_addSeen_0 : decode cX2_addSeen 0 = .ok (.aload_n 0, 1) := by decide +kernel
theorem dX2_addSeen_1 : decode cX2_addSeen 1 = .ok (.getfield 49, 3) := by decide +kernel
theorem dX2_addSeen_4 : decode cX2_addSeen 4 = .ok (.bipush 6, 2) := by decide +kernel
theorem dX2_addSeen_6 : decode cX2_addSeen 6 = .ok (.if_icmp .lt 5, 3) := by decide +kernel
theorem dX2_addSeen_9 : decode cX2_addSeen 9 = .ok (.iconst 0, 1) := by decide +kernel
theorem dX2_addSeen_10 : decode cX2_addSeen 10 = .ok (.ireturn, 1) := by decide +kernel
theorem dX2_addSeen_11 : decode cX2_addSeen 11 = .ok (.aload_n 0, 1) := by decide +kernel
theorem dX2_addSeen_12 : decode cX2_addSeen 12 = .ok (.getfield 27, 3) := by decide +kernel
theorem dX2_addSeen_15 : decode cX2_addSeen 15 = .ok (.aload_n 0, 1) := by decide +kernel
theorem dX2_addSeen_16 : decode cX2_addSeen 16 = .ok (.getfield 49, 3) := by decide +kernel
theorem dX2_addSeen_19 : decode cX2_addSeen 19 = .ok (.iload_n 1, 1) := by decide +kernel
theorem dX2_addSeen_20 : decode cX2_addSeen 20 = .ok (.iastore, 1) := by decide +kernel
theorem dX2_addSeen_21 : decode cX2_addSeen 21 = .ok (.aload_n 0, 1) := by decide +kernel
theorem dX2_addSeen_22 : decode cX2_addSeen 22 = .ok (.getfield 30, 3) := by decide +kernel
theorem dX2_addSeen_25 : decode cX2_addSeen 25 = .ok (.aload_n 0, 1) := by decide +kernel
theorem dX2_addSeen_26 : decode cX2_addSeen 26 = .ok (.getfield 49, 3) := by decide +kernel
theorem dX2_addSeen_29 : decode cX2_addSeen 29 = .ok (.iload_n 2, 1) := by decide +kernel
theorem dX2_addSeen_30 : decode cX2_addSeen 30 = .ok (.iastore, 1) := by decide +kernel
theorem dX2_addSeen_31 : decode cX2_addSeen 31 = .ok (.aload_n 0, 1) := by decide +kernel
theorem dX2_addSeen_32 : decode cX2_addSeen 32 = .ok (.dup, 1) := by decide +kernel
theorem dX2_addSeen_33 : decode cX2_addSeen 33 = .ok (.getfield 49, 3) := by decide +kernel
theorem dX2_addSeen_36 : decode cX2_addSeen 36 = .ok (.iconst 1, 1) := by decide +kernel
theorem dX2_addSeen_37 : decode cX2_addSeen 37 = .ok (.iadd, 1) := by decide +kernel
theorem dX2_addSeen_38 : decode cX2_addSeen 38 = .ok (.putfield 49, 3) := by decide +kernel
theorem dX2_addSeen_41 : decode cX2_addSeen 41 = .ok (.iconst 1, 1) := by decide +kernel
theorem dX2_addSeen_42 : decode cX2_addSeen 42 = .ok (.ireturn, 1) := by decide +kernel
set_option maxRecDepth 20000 in
theorem ggX2_isWhole_X2_has : GoodIn wsX2_isWhole wsX2_has := goodIn_r _ [8, 9, 10, 11, 12, 13, 14, 15, 16, 17, 18, 19, 20, 21, 22, 23, 24, 25] (by decide +kernel) (by decide +kernel)
set_option maxRecDepth 20000 in
theorem gX2_isWhole_X2_has : GoodIn wsX2_isWhole (wsV RX2 62 RX2 yX2_has wsX2_has) := goodIn_app (goodIn_of _ (by decide +kernel)) ggX2_isWhole_X2_has
theorem dX2_isWhole_0 : decode cX2_isWhole 0 = .ok (.iload_n 1, 1) := by decide +kernel
theorem dX2_isWhole_1 : decode cX2_isWhole 1 = .ok (.ifCond .eq 16, 3) := by decide +kernel
theorem dX2_isWhole_4 : decode cX2_isWhole 4 = .ok (.aload_n 0, 1) := by decide +kernel
theorem dX2_isWhole_5 : decode cX2_isWhole 5 = .ok (.aload_n 0, 1) := by decide +kernel
theorem dX2_isWhole_6 : decode cX2_isWhole 6 = .ok (.getfield 43, 3) := by decide +kernel
theorem dX2_isWhole_9 : decode cX2_isWhole 9 = .ok (.invokevirtual 62, 3) := by decide +kernel
theorem dX2_isWhole_12 : decode cX2_isWhole 12 = .ok (.ifCond .ne 5, 3) := by decide +kernel
theorem dX2_isWhole_15 : decode cX2_isWhole 15 = .ok (.iconst 0, 1) := by decide +kernel
theorem dX2_isWhole_16 : decode cX2_isWhole 16 = .ok (.ireturn, 1) := by decide +kernel
theorem dX2_isWhole_17 : decode cX2_isWhole 17 = .ok (.iconst 0, 1) := by decide +kernel
theorem dX2_isWhole_18 : decode cX2_isWhole 18 = .ok (.istore_n 2, 1) := by decide +kernel
theorem dX2_isWhole_19 : decode cX2_isWhole 19 = .ok (.iload_n 2, 1) := by decide +kernel
theorem dX2_isWhole_20 : decode cX2_isWhole 20 = .ok (.aload_n 0, 1) := by decide +kernel
theorem dX2_isWhole_21 : decode cX2_isWhole 21 = .ok (.getfield 46, 3) := by decide +kernel
theorem dX2_isWhole_24 : decode cX2_isWhole 24 = .ok (.if_icmp .ge 45, 3) := by decide +kernel
theorem dX2_isWhole_27 : decode cX2_isWhole 27 = .ok (.aload_n 0, 1) := by decide +kernel
theorem dX2_isWhole_28 : decode cX2_isWhole 28 = .ok (.aload_n 0, 1) := by decide +kernel
theorem dX2_isWhole_29 : decode cX2_isWhole 29 = .ok (.getfield 24, 3) := by decide +kernel
theorem dX2_isWhole_32 : decode cX2_isWhole 32 = .ok (.iload_n 2, 1) := by decide +kernel
theorem dX2_isWhole_33 : decode cX2_isWhole 33 = .ok (.iconst 4, 1) := by decide +kernel
theorem dX2_isWhole_34 : decode cX2_isWhole 34 = .ok (.imul, 1) := by decide +kernel
theorem dX2_isWhole_35 : decode cX2_isWhole 35 = .ok (.iconst 1, 1) := by decide +kernel
theorem dX2_isWhole_36 : decode cX2_isWhole 36 = .ok (.iadd, 1) := by decide +kernel
theorem dX2_isWhole_37 : decode cX2_isWhole 37 = .ok (.iaload, 1) := by decide +kernel
theorem dX2_isWhole_38 : decode cX2_isWhole 38 = .ok (.invokevirtual 62, 3) := by decide +kernel
theorem dX2_isWhole_41 : decode cX2_isWhole 41 = .ok (.ifCond .eq 20, 3) := by decide +kernel
theorem dX2_isWhole_44 : decode cX2_isWhole 44 = .ok (.aload_n 0, 1) := by decide +kernel
theorem dX2_isWhole_45 : decode cX2_isWhole 45 = .ok (.aload_n 0, 1) := by decide +kernel
theorem dX2_isWhole_46 : decode cX2_isWhole 46 = .ok (.getfield 24, 3) := by decide +kernel
theorem dX2_isWhole_49 : decode cX2_isWhole 49 = .ok (.iload_n 2, 1) := by decide +kernel
theorem dX2_isWhole_50 : decode cX2_isWhole 50 = .ok (.iconst 4, 1) := by decide +kernel
theorem dX2_isWhole_51 : decode cX2_isWhole 51 = .ok (.imul, 1) := by decide +kernel
theorem dX2_isWhole_52 : decode cX2_isWhole 52 = .ok (.iconst 2, 1) := by decide +kernel
theorem dX2_isWhole_53 : decode cX2_isWhole 53 = .ok (.iadd, 1) := by decide +kernel
theorem dX2_isWhole_54 : decode cX2_isWhole 54 = .ok (.iaload, 1) := by decide +kernel
theorem dX2_isWhole_55 : decode cX2_isWhole 55 = .ok (.invokevirtual 62, 3) := by decide +kernel
theorem dX2_isWhole_58 : decode cX2_isWhole 58 = .ok (.ifCond .ne 5, 3) := by decide +kernel
theorem dX2_isWhole_61 : decode cX2_isWhole 61 = .ok (.iconst 0, 1) := by decide +kernel
theorem dX2_isWhole_62 : decode cX2_isWhole 62 = .ok (.ireturn, 1) := by decide +kernel
theorem dX2_isWhole_63 : decode cX2_isWhole 63 = .ok (.iinc 2 1, 3) := by decide +kernel
theorem dX2_isWhole_66 : decode cX2_isWhole 66 = .ok (.goto (-47), 3) := by decide +kernel
theorem dX2_isWhole_69 : decode cX2_isWhole 69 = .ok (.iconst 1, 1) := by decide +kernel
theorem dX2_isWhole_70 : decode cX2_isWhole 70 = .ok (.ireturn, 1) := by decide +kernel
theorem dX2_holderOrNone_0 : decode cX2_holderOrNone 0 = .ok (.aload_n 0, 1) := by decide +kernel
theorem dX2_holderOrNone_1 : decode cX2_holderOrNone 1 = .ok (.getfield 33, 3) := by decide +kernel
theorem dX2_holderOrNone_4 : decode cX2_holderOrNone 4 = .ok (.ifCond .ne 8, 3) := by decide +kernel
theorem dX2_holderOrNone_7 : decode cX2_holderOrNone 7 = .ok (.bipush (-4), 2) := by decide +kernel
theorem dX2_holderOrNone_9 : decode cX2_holderOrNone 9 = .ok (.goto 7, 3) := by decide +kernel
theorem dX2_holderOrNone_12 : decode cX2_holderOrNone 12 = .ok (.aload_n 0, 1) := by decide +kernel
theorem dX2_holderOrNone_13 : decode cX2_holderOrNone 13 = .ok (.getfield 43, 3) := by decide +kernel
theorem dX2_holderOrNone_16 : decode cX2_holderOrNone 16 = .ok (.ireturn, 1) := by decide +kernel
theorem dX2_meansOfAll_0 : decode cX2_meansOfAll 0 = .ok (.iconst 0, 1) := by decide +kernel
theorem dX2_meansOfAll_1 : decode cX2_meansOfAll 1 = .ok (.istore_n 1, 1) := by decide +kernel
theorem dX2_meansOfAll_2 : decode cX2_meansOfAll 2 = .ok (.iconst 0, 1) := by decide +kernel
theorem dX2_meansOfAll_3 : decode cX2_meansOfAll 3 = .ok (.istore_n 2, 1) := by decide +kernel
theorem dX2_meansOfAll_4 : decode cX2_meansOfAll 4 = .ok (.iload_n 2, 1) := by decide +kernel
theorem dX2_meansOfAll_5 : decode cX2_meansOfAll 5 = .ok (.aload_n 0, 1) := by decide +kernel
theorem dX2_meansOfAll_6 : decode cX2_meansOfAll 6 = .ok (.getfield 33, 3) := by decide +kernel
theorem dX2_meansOfAll_9 : decode cX2_meansOfAll 9 = .ok (.if_icmp .ge 18, 3) := by decide +kernel
theorem dX2_meansOfAll_12 : decode cX2_meansOfAll 12 = .ok (.iload_n 1, 1) := by decide +kernel
theorem dX2_meansOfAll_13 : decode cX2_meansOfAll 13 = .ok (.aload_n 0, 1) := by decide +kernel
theorem dX2_meansOfAll_14 : decode cX2_meansOfAll 14 = .ok (.getfield 15, 3) := by decide +kernel
theorem dX2_meansOfAll_17 : decode cX2_meansOfAll 17 = .ok (.iload_n 2, 1) := by decide +kernel
theorem dX2_meansOfAll_18 : decode cX2_meansOfAll 18 = .ok (.iaload, 1) := by decide +kernel
theorem dX2_meansOfAll_19 : decode cX2_meansOfAll 19 = .ok (.iadd, 1) := by decide +kernel
theorem dX2_meansOfAll_20 : decode cX2_meansOfAll 20 = .ok (.istore_n 1, 1) := by decide +kernel
theorem dX2_meansOfAll_21 : decode cX2_meansOfAll 21 = .ok (.iinc 2 1, 3) := by decide +kernel
theorem dX2_meansOfAll_24 : decode cX2_meansOfAll 24 = .ok (.goto (-20), 3) := by decide +kernel
theorem dX2_meansOfAll_27 : decode cX2_meansOfAll 27 = .ok (.iload_n 1, 1) := by decide +kernel
theorem dX2_meansOfAll_28 : decode cX2_meansOfAll 28 = .ok (.ireturn, 1) := by decide +kernel
theorem dX2_keptByAll_0 : decode cX2_keptByAll 0 = .ok (.iconst 0, 1) := by decide +kernel
theorem dX2_keptByAll_1 : decode cX2_keptByAll 1 = .ok (.istore_n 1, 1) := by decide +kernel
theorem dX2_keptByAll_2 : decode cX2_keptByAll 2 = .ok (.iconst 0, 1) := by decide +kernel
theorem dX2_keptByAll_3 : decode cX2_keptByAll 3 = .ok (.istore_n 2, 1) := by decide +kernel
theorem dX2_keptByAll_4 : decode cX2_keptByAll 4 = .ok (.iload_n 2, 1) := by decide +kernel
theorem dX2_keptByAll_5 : decode cX2_keptByAll 5 = .ok (.aload_n 0, 1) := by decide +kernel
theorem dX2_keptByAll_6 : decode cX2_keptByAll 6 = .ok (.getfield 33, 3) := by decide +kernel
theorem dX2_keptByAll_9 : decode cX2_keptByAll 9 = .ok (.if_icmp .ge 18, 3) := by decide +kernel
theorem dX2_keptByAll_12 : decode cX2_keptByAll 12 = .ok (.iload_n 1, 1) := by decide +kernel
theorem dX2_keptByAll_13 : decode cX2_keptByAll 13 = .ok (.aload_n 0, 1) := by decide +kernel
theorem dX2_keptByAll_14 : decode cX2_keptByAll 14 = .ok (.getfield 21, 3) := by decide +kernel
theorem dX2_keptByAll_17 : decode cX2_keptByAll 17 = .ok (.iload_n 2, 1) := by decide +kernel
theorem dX2_keptByAll_18 : decode cX2_keptByAll 18 = .ok (.iaload, 1) := by decide +kernel
theorem dX2_keptByAll_19 : decode cX2_keptByAll 19 = .ok (.iadd, 1) := by decide +kernel
theorem dX2_keptByAll_20 : decode cX2_keptByAll 20 = .ok (.istore_n 1, 1) := by decide +kernel
theorem dX2_keptByAll_21 : decode cX2_keptByAll 21 = .ok (.iinc 2 1, 3) := by decide +kernel
theorem dX2_keptByAll_24 : decode cX2_keptByAll 24 = .ok (.goto (-20), 3) := by decide +kernel
theorem dX2_keptByAll_27 : decode cX2_keptByAll 27 = .ok (.iload_n 1, 1) := by decide +kernel
theorem dX2_keptByAll_28 : decode cX2_keptByAll 28 = .ok (.ireturn, 1) := by decide +kernel
theorem dX2_isRuined_0 : decode cX2_isRuined 0 = .ok (.aload_n 0, 1) := by decide +kernel
theorem dX2_isRuined_1 : decode cX2_isRuined 1 = .ok (.getfield 15, 3) := by decide +kernel
theorem dX2_isRuined_4 : decode cX2_isRuined 4 = .ok (.iload_n 1, 1) := by decide +kernel
theorem dX2_isRuined_5 : decode cX2_isRuined 5 = .ok (.iaload, 1) := by decide +kernel
theorem dX2_isRuined_6 : decode cX2_isRuined 6 = .ok (.ifCond .ne 7, 3) := by decide +kernel
theorem dX2_isRuined_9 : decode cX2_isRuined 9 = .ok (.iconst 1, 1) := by decide +kernel
theorem dX2_isRuined_10 : decode cX2_isRuined 10 = .ok (.goto 4, 3) := by decide +kernel
theorem dX2_isRuined_13 : decode cX2_isRuined 13 = .ok (.iconst 0, 1) := by decide +kernel
theorem dX2_isRuined_14 : decode cX2_isRuined 14 = .ok (.ireturn, 1) := by decide +kernel
set_option maxRecDepth 20000 in
theorem ggX2_ruinedBits_X2_isRuined : GoodIn wsX2_ruinedBits wsX2_isRuined := goodIn_r _ [6, 7, 8, 9, 10, 11, 12, 13, 14, 15, 16, 17, 18, 19, 20] (by decide +kernel) (by decide +kernel)
set_option maxRecDepth 20000 in
theorem gX2_ruinedBits_X2_isRuined : GoodIn wsX2_ruinedBits (wsV RX2 66 RX2 yX2_isRuined wsX2_isRuined) := goodIn_app (goodIn_of _ (by decide +kernel)) ggX2_ruinedBits_X2_isRuined
theorem dX2_ruinedBits_0 : decode cX2_ruinedBits 0 = .ok (.iconst 0, 1) := by decide +kernel
theorem dX2_ruinedBits_1 : decode cX2_ruinedBits 1 = .ok (.istore_n 1, 1) := by decide +kernel
theorem dX2_ruinedBits_2 : decode cX2_ruinedBits 2 = .ok (.iconst 0, 1) := by decide +kernel
theorem dX2_ruinedBits_3 : decode cX2_ruinedBits 3 = .ok (.istore_n 2, 1) := by decide +kernel
theorem dX2_ruinedBits_4 : decode cX2_ruinedBits 4 = .ok (.iload_n 2, 1) := by decide +kernel
theorem dX2_ruinedBits_5 : decode cX2_ruinedBits 5 = .ok (.aload_n 0, 1) := by decide +kernel
theorem dX2_ruinedBits_6 : decode cX2_ruinedBits 6 = .ok (.getfield 33, 3) := by decide +kernel
theorem dX2_ruinedBits_9 : decode cX2_ruinedBits 9 = .ok (.if_icmp .ge 23, 3) := by decide +kernel
theorem dX2_ruinedBits_12 : decode cX2_ruinedBits 12 = .ok (.aload_n 0, 1) := by decide +kernel
theorem dX2_ruinedBits_13 : decode cX2_ruinedBits 13 = .ok (.iload_n 2, 1) := by decide +kernel
theorem dX2_ruinedBits_14 : decode cX2_ruinedBits 14 = .ok (.invokevirtual 66, 3) := by decide +kernel
theorem dX2_ruinedBits_17 : decode cX2_ruinedBits 17 = .ok (.ifCond .eq 9, 3) := by decide +kernel
theorem dX2_ruinedBits_20 : decode cX2_ruinedBits 20 = .ok (.iload_n 1, 1) := by decide +kernel
theorem dX2_ruinedBits_21 : decode cX2_ruinedBits 21 = .ok (.iconst 1, 1) := by decide +kernel
theorem dX2_ruinedBits_22 : decode cX2_ruinedBits 22 = .ok (.iload_n 2, 1) := by decide +kernel
theorem dX2_ruinedBits_23 : decode cX2_ruinedBits 23 = .ok (.ishl, 1) := by decide +kernel
theorem dX2_ruinedBits_24 : decode cX2_ruinedBits 24 = .ok (.ior, 1) := by decide +kernel
theorem dX2_ruinedBits_25 : decode cX2_ruinedBits 25 = .ok (.istore_n 1, 1) := by decide +kernel
theorem dX2_ruinedBits_26 : decode cX2_ruinedBits 26 = .ok (.iinc 2 1, 3) := by decide +kernel
theorem dX2_ruinedBits_29 : decode cX2_ruinedBits 29 = .ok (.goto (-25), 3) := by decide +kernel
theorem dX2_ruinedBits_32 : decode cX2_ruinedBits 32 = .ok (.iload_n 1, 1) := by decide +kernel
theorem dX2_ruinedBits_33 : decode cX2_ruinedBits 33 = .ok (.ireturn, 1) := by decide +kernel
set_option maxRecDepth 20000 in
theorem ggX2_ruinedCount_X2_ruinedBits : GoodIn wsX2_ruinedCount wsX2_ruinedBits := goodIn_r _ [5, 6, 7, 8, 9, 4, 10, 11, 19, 20, 21, 22, 23, 24, 25, 26, 27, 28, 29, 30, 31] (by decide +kernel) (by decide +kernel)
set_option maxRecDepth 20000 in
theorem gX2_ruinedCount_X2_ruinedBits : GoodIn wsX2_ruinedCount (wsV RX2 69 RX2 yX2_ruinedBits wsX2_ruinedBits) := goodIn_app (goodIn_of _ (by decide +kernel)) ggX2_ruinedCount_X2_ruinedBits
set_option maxRecDepth 20000 in
theorem ggX2_ruinedCount_J6_bitCount_0f7a4 : GoodIn wsX2_ruinedCount wsJ6_bitCount_0f7a4 := goodIn_r _ [15, 16, 17, 18] (by decide +kernel) (by decide +kernel)
set_option maxRecDepth 20000 in
theorem gX2_ruinedCount_J6_bitCount_0f7a4 : GoodIn wsX2_ruinedCount (va_wsS RX2 73 yJ6_bitCount_0f7a4 wsJ6_bitCount_0f7a4) := goodIn_app (goodIn_of _ (by decide +kernel)) ggX2_ruinedCount_J6_bitCount_0f7a4
theorem dX2_ruinedCount_0 : decode cX2_ruinedCount 0 = .ok (.aload_n 0, 1) := by decide +kernel
theorem dX2_ruinedCount_1 : decode cX2_ruinedCount 1 = .ok (.invokevirtual 69, 3) := by decide +kernel
theorem dX2_ruinedCount_4 : decode cX2_ruinedCount 4 = .ok (.invokestatic 73, 3) := by decide +kernel
theorem dX2_ruinedCount_7 : decode cX2_ruinedCount 7 = .ok (.ireturn, 1) := by decide +kernel
theorem dX2_tradeBrings_0 : decode cX2_tradeBrings 0 = .ok (.aload_n 0, 1) := by decide +kernel
theorem dX2_tradeBrings_1 : decode cX2_tradeBrings 1 = .ok (.getfield 18, 3) := by decide +kernel
theorem dX2_tradeBrings_4 : decode cX2_tradeBrings 4 = .ok (.iload_n 1, 1) := by decide +kernel
theorem dX2_tradeBrings_5 : decode cX2_tradeBrings 5 = .ok (.iaload, 1) := by decide +kernel
theorem dX2_tradeBrings_6 : decode cX2_tradeBrings 6 = .ok (.bipush 10, 2) := by decide +kernel
theorem dX2_tradeBrings_8 : decode cX2_tradeBrings 8 = .ok (.isub, 1) := by decide +kernel
theorem dX2_tradeBrings_9 : decode cX2_tradeBrings 9 = .ok (.aload_n 0, 1) := by decide +kernel
theorem dX2_tradeBrings_10 : decode cX2_tradeBrings 10 = .ok (.getfield 40, 3) := by decide +kernel
theorem dX2_tradeBrings_13 : decode cX2_tradeBrings 13 = .ok (.isub, 1) := by decide +kernel
theorem dX2_tradeBrings_14 : decode cX2_tradeBrings 14 = .ok (.istore_n 2, 1) := by decide +kernel
theorem dX2_tradeBrings_15 : decode cX2_tradeBrings 15 = .ok (.aload_n 0, 1) := by decide +kernel
theorem dX2_tradeBrings_16 : decode cX2_tradeBrings 16 = .ok (.getfield 9, 3) := by decide +kernel
theorem dX2_tradeBrings_19 : decode cX2_tradeBrings 19 = .ok (.iload_n 1, 1) := by decide +kernel
theorem dX2_tradeBrings_20 : decode cX2_tradeBrings 20 = .ok (.iaload, 1) := by decide +kernel
theorem dX2_tradeBrings_21 : decode cX2_tradeBrings 21 = .ok (.lookupswitch 37 #[(1, 27), (2, 31)], 27) := by decide +kernel
theorem dX2_tradeBrings_48 : decode cX2_tradeBrings 48 = .ok (.iload_n 2, 1) := by decide +kernel
theorem dX2_tradeBrings_49 : decode cX2_tradeBrings 49 = .ok (.iconst 1, 1) := by decide +kernel
theorem dX2_tradeBrings_50 : decode cX2_tradeBrings 50 = .ok (.iadd, 1) := by decide +kernel
theorem dX2_tradeBrings_51 : decode cX2_tradeBrings 51 = .ok (.ireturn, 1) := by decide +kernel
theorem dX2_tradeBrings_52 : decode cX2_tradeBrings 52 = .ok (.iload_n 2, 1) := by decide +kernel
theorem dX2_tradeBrings_53 : decode cX2_tradeBrings 53 = .ok (.iconst 1, 1) := by decide +kernel
theorem dX2_tradeBrings_54 : decode cX2_tradeBrings 54 = .ok (.iadd, 1) := by decide +kernel
theorem dX2_tradeBrings_55 : decode cX2_tradeBrings 55 = .ok (.iconst 2, 1) := by decide +kernel
theorem dX2_tradeBrings_56 : decode cX2_tradeBrings 56 = .ok (.idiv, 1) := by decide +kernel
theorem dX2_tradeBrings_57 : decode cX2_tradeBrings 57 = .ok (.ireturn, 1) := by decide +kernel
theorem dX2_tradeBrings_58 : decode cX2_tradeBrings 58 = .ok (.iload_n 2, 1) := by decide +kernel
theorem dX2_tradeBrings_59 : decode cX2_tradeBrings 59 = .ok (.ireturn, 1) := by decide +kernel
set_option maxRecDepth 20000 in
theorem ggX2_coinBrings_X2_poorerThan : GoodIn wsX2_coinBrings wsX2_poorerThan := goodIn_r _ [6, 7, 8, 9, 10, 11, 12, 13, 14, 15, 16, 17, 18, 19, 20, 21] (by decide +kernel) (by decide +kernel)
set_option maxRecDepth 20000 in
theorem gX2_coinBrings_X2_poorerThan : GoodIn wsX2_coinBrings (wsV RX2 79 RX2 yX2_poorerThan wsX2_poorerThan) := goodIn_app (goodIn_of _ (by decide +kernel)) ggX2_coinBrings_X2_poorerThan
theorem dX2_coinBrings_0 : decode cX2_coinBrings 0 = .ok (.aload_n 0, 1) := by decide +kernel
theorem dX2_coinBrings_1 : decode cX2_coinBrings 1 = .ok (.getfield 9, 3) := by decide +kernel
theorem dX2_coinBrings_4 : decode cX2_coinBrings 4 = .ok (.iload_n 1, 1) := by decide +kernel
theorem dX2_coinBrings_5 : decode cX2_coinBrings 5 = .ok (.iaload, 1) := by decide +kernel
theorem dX2_coinBrings_6 : decode cX2_coinBrings 6 = .ok (.tableswitch 41 1 3 #[26, 28, 31], 26) := by decide +kernel
theorem dX2_coinBrings_32 : decode cX2_coinBrings 32 = .ok (.iconst 0, 1) := by decide +kernel
theorem dX2_coinBrings_33 : decode cX2_coinBrings 33 = .ok (.ireturn, 1) := by decide +kernel
theorem dX2_coinBrings_34 : decode cX2_coinBrings 34 = .ok (.bipush 15, 2) := by decide +kernel
theorem dX2_coinBrings_36 : decode cX2_coinBrings 36 = .ok (.ireturn, 1) := by decide +kernel
theorem dX2_coinBrings_37 : decode cX2_coinBrings 37 = .ok (.iconst 5, 1) := by decide +kernel
theorem dX2_coinBrings_38 : decode cX2_coinBrings 38 = .ok (.iconst 2, 1) := by decide +kernel
theorem dX2_coinBrings_39 : decode cX2_coinBrings 39 = .ok (.aload_n 0, 1) := by decide +kernel
theorem dX2_coinBrings_40 : decode cX2_coinBrings 40 = .ok (.iload_n 1, 1) := by decide +kernel
theorem dX2_coinBrings_41 : decode cX2_coinBrings 41 = .ok (.invokevirtual 79, 3) := by decide +kernel
theorem dX2_coinBrings_44 : decode cX2_coinBrings 44 = .ok (.imul, 1) := by decide +kernel
theorem dX2_coinBrings_45 : decode cX2_coinBrings 45 = .ok (.iadd, 1) := by decide +kernel
theorem dX2_coinBrings_46 : decode cX2_coinBrings 46 = .ok (.ireturn, 1) := by decide +kernel
theorem dX2_coinBrings_47 : decode cX2_coinBrings 47 = .ok (.iconst 5, 1) := by decide +kernel
theorem dX2_coinBrings_48 : decode cX2_coinBrings 48 = .ok (.ireturn, 1) := by decide +kernel
set_option maxRecDepth 20000 in
theorem ggX2_bringsTo_X2_tradeBrings : GoodIn wsX2_bringsTo wsX2_tradeBrings := goodIn_r _ [6, 7, 8, 9, 20, 21, 22, 23, 24, 25, 26, 27, 28, 29, 30, 31, 32] (by decide +kernel) (by decide +kernel)
set_option maxRecDepth 20000 in
theorem gX2_bringsTo_X2_tradeBrings : GoodIn wsX2_bringsTo (wsV RX2 82 RX2 yX2_tradeBrings wsX2_tradeBrings) := goodIn_app (goodIn_of _ (by decide +kernel)) ggX2_bringsTo_X2_tradeBrings
set_option maxRecDepth 20000 in
theorem ggX2_bringsTo_X2_coinBrings : GoodIn wsX2_bringsTo wsX2_coinBrings := goodIn_r _ [13, 9, 14, 15, 16, 5, 17, 18, 19, 20, 21, 22, 23, 24, 25, 26, 27, 28, 29, 30, 31, 32] (by decide +kernel) (by decide +kernel)
set_option maxRecDepth 20000 in
theorem gX2_bringsTo_X2_coinBrings : GoodIn wsX2_bringsTo (wsV RX2 85 RX2 yX2_coinBrings wsX2_coinBrings) := goodIn_app (goodIn_of _ (by decide +kernel)) ggX2_bringsTo_X2_coinBrings
theorem dX2_bringsTo_0 : decode cX2_bringsTo 0 = .ok (.aload_n 0, 1) := by decide +kernel
theorem dX2_bringsTo_1 : decode cX2_bringsTo 1 = .ok (.iload_n 1, 1) := by decide +kernel
theorem dX2_bringsTo_2 : decode cX2_bringsTo 2 = .ok (.invokevirtual 82, 3) := by decide +kernel
theorem dX2_bringsTo_5 : decode cX2_bringsTo 5 = .ok (.iload_n 1, 1) := by decide +kernel
theorem dX2_bringsTo_6 : decode cX2_bringsTo 6 = .ok (.aload_n 0, 1) := by decide +kernel
theorem dX2_bringsTo_7 : decode cX2_bringsTo 7 = .ok (.getfield 43, 3) := by decide +kernel
theorem dX2_bringsTo_10 : decode cX2_bringsTo 10 = .ok (.if_icmp .ne 11, 3) := by decide +kernel
theorem dX2_bringsTo_13 : decode cX2_bringsTo 13 = .ok (.aload_n 0, 1) := by decide +kernel
theorem dX2_bringsTo_14 : decode cX2_bringsTo 14 = .ok (.iload_n 1, 1) := by decide +kernel
theorem dX2_bringsTo_15 : decode cX2_bringsTo 15 = .ok (.invokevirtual 85, 3) := by decide +kernel
theorem dX2_bringsTo_18 : decode cX2_bringsTo 18 = .ok (.goto 4, 3) := by decide +kernel
theorem dX2_bringsTo_21 : decode cX2_bringsTo 21 = .ok (.iconst 0, 1) := by decide +kernel
theorem dX2_bringsTo_22 : decode cX2_bringsTo 22 = .ok (.iadd, 1) := by decide +kernel
theorem dX2_bringsTo_23 : decode cX2_bringsTo 23 = .ok (.ireturn, 1) := by decide +kernel
theorem dX2_poorerThan_0 : decode cX2_poorerThan 0 = .ok (.iconst 0, 1) := by decide +kernel
theorem dX2_poorerThan_1 : decode cX2_poorerThan 1 = .ok (.istore_n 2, 1) := by decide +kernel
theorem dX2_poorerThan_2 : decode cX2_poorerThan 2 = .ok (.iconst 0, 1) := by decide +kernel
theorem dX2_poorerThan_3 : decode cX2_poorerThan 3 = .ok (.istore_n 3, 1) := by decide +kernel
theorem dX2_poorerThan_4 : decode cX2_poorerThan 4 = .ok (.iload_n 3, 1) := by decide +kernel
theorem dX2_poorerThan_5 : decode cX2_poorerThan 5 = .ok (.aload_n 0, 1) := by decide +kernel
theorem dX2_poorerThan_6 : decode cX2_poorerThan 6 = .ok (.getfield 33, 3) := by decide +kernel
theorem dX2_poorerThan_9 : decode cX2_poorerThan 9 = .ok (.if_icmp .ge 27, 3) := by decide +kernel
theorem dX2_poorerThan_12 : decode cX2_poorerThan 12 = .ok (.aload_n 0, 1) := by decide +kernel
theorem dX2_poorerThan_13 : decode cX2_poorerThan 13 = .ok (.getfield 15, 3) := by decide +kernel
theorem dX2_poorerThan_16 : decode cX2_poorerThan 16 = .ok (.iload_n 3, 1) := by decide +kernel
theorem dX2_poorerThan_17 : decode cX2_poorerThan 17 = .ok (.iaload, 1) := by decide +kernel
theorem dX2_poorerThan_18 : decode cX2_poorerThan 18 = .ok (.aload_n 0, 1) := by decide +kernel
theorem dX2_poorerThan_19 : decode cX2_poorerThan 19 = .ok (.getfield 15, 3) := by decide +kernel
theorem dX2_poorerThan_22 : decode cX2_poorerThan 22 = .ok (.iload_n 1, 1) := by decide +kernel
theorem dX2_poorerThan_23 : decode cX2_poorerThan 23 = .ok (.iaload, 1) := by decide +kernel
theorem dX2_poorerThan_24 : decode cX2_poorerThan 24 = .ok (.if_icmp .ge 6, 3) := by decide +kernel
theorem dX2_poorerThan_27 : decode cX2_poorerThan 27 = .ok (.iinc 2 1, 3) := by decide +kernel
theorem dX2_poorerThan_30 : decode cX2_poorerThan 30 = .ok (.iinc 3 1, 3) := by decide +kernel
theorem dX2_poorerThan_33 : decode cX2_poorerThan 33 = .ok (.goto (-29), 3) := by decide +kernel
theorem dX2_poorerThan_36 : decode cX2_poorerThan 36 = .ok (.iload_n 2, 1) := by decide +kernel
theorem dX2_poorerThan_37 : decode cX2_poorerThan 37 = .ok (.ireturn, 1) := by decide +kernel
set_option maxRecDepth 20000 in
theorem ggX2_pass_X2_step : GoodIn wsX2_pass wsX2_step := goodIn_r _ [5, 6, 7, 8, 9, 10, 11, 12, 4, 13, 14, 15, 16, 17, 18, 19, 20, 21, 22, 23, 24, 25, 26, 27, 28, 29, 30, 31, 32, 33, 34, 35, 36, 37, 38, 39, 40, 41, 42, 43, 44, 45, 46, 47, 48, 49, 50, 51, 52, 53, 54, 55, 56, 57, 58, 59, 60, 61, 62, 63, 64, 65, 66, 67] (by decide +kernel) (by decide +kernel)
set_option maxRecDepth 20000 in
theorem gX2_pass_X2_step : GoodIn wsX2_pass (wsV RX2 88 RX2 yX2_step wsX2_step) := goodIn_app (goodIn_of _ (by decide +kernel)) ggX2_pass_X2_step
theorem dX2_pass_0 : decode cX2_pass 0 = .ok (.iconst 0, 1) := by decide +kernel
theorem dX2_pass_1 : decode cX2_pass 1 = .ok (.istore_n 2, 1) := by decide +kernel
theorem dX2_pass_2 : decode cX2_pass 2 = .ok (.iload_n 2, 1) := by decide +kernel
theorem dX2_pass_3 : decode cX2_pass 3 = .ok (.iload_n 1, 1) := by decide +kernel
theorem dX2_pass_4 : decode cX2_pass 4 = .ok (.if_icmp .ge 14, 3) := by decide +kernel
theorem dX2_pass_7 : decode cX2_pass 7 = .ok (.aload_n 0, 1) := by decide +kernel
theorem dX2_pass_8 : decode cX2_pass 8 = .ok (.invokevirtual 88, 3) := by decide +kernel
theorem dX2_pass_11 : decode cX2_pass 11 = .ok (.pop, 1) := by decide +kernel
theorem dX2_pass_12 : decode cX2_pass 12 = .ok (.iinc 2 1, 3) := by decide +kernel
theorem dX2_pass_15 : decode cX2_pass 15 = .ok (.goto (-13), 3) := by decide +kernel
theorem dX2_pass_18 : decode cX2_pass 18 = .ok (.return_, 1) := by decide +kernel
set_option maxRecDepth 20000 in
theorem ggX2_step_X2_makeGifts : GoodIn wsX2_step wsX2_makeGifts := goodIn_r _ [9, 10, 11, 4, 12, 13, 14, 15, 16, 17, 18, 19, 51, 52, 53, 54, 55, 56, 57, 58, 59, 60, 61, 62, 63] (by decide +kernel) (by decide +kernel)
set_option maxRecDepth 20000 in
theorem gX2_step_X2_makeGifts : GoodIn wsX2_step (wsV RX2 92 RX2 yX2_makeGifts wsX2_makeGifts) := goodIn_app (goodIn_of _ (by decide +kernel)) ggX2_step_X2_makeGifts
set_option maxRecDepth 20000 in
theorem ggX2_step_X2_coinBrings : GoodIn wsX2_step wsX2_coinBrings := goodIn_r _ [23, 24, 25, 26, 27, 8, 28, 1, 12, 51, 52, 53, 54, 55, 56, 57, 58, 59, 60, 61, 62, 63] (by decide +kernel) (by decide +kernel)
set_option maxRecDepth 20000 in
theorem gX2_step_X2_coinBrings : GoodIn wsX2_step (wsV RX2 85 RX2 yX2_coinBrings wsX2_coinBrings) := goodIn_app (goodIn_of _ (by decide +kernel)) ggX2_step_X2_coinBrings
set_option maxRecDepth 20000 in
theorem ggX2_step_X2_earn : GoodIn wsX2_step wsX2_earn := goodIn_r _ [32, 1, 2, 12, 33, 34, 35, 8, 36, 37, 38, 24, 17, 18, 19, 51, 52, 53, 54, 55, 56, 57, 58, 59, 60, 61, 62, 63] (by decide +kernel) (by decide +kernel)
set_option maxRecDepth 20000 in
theorem gX2_step_X2_earn : GoodIn wsX2_step (wsV RX2 95 RX2 yX2_earn wsX2_earn) := goodIn_app (goodIn_of _ (by decide +kernel)) ggX2_step_X2_earn
set_option maxRecDepth 20000 in
theorem ggX2_step_X2_handsOn : GoodIn wsX2_step wsX2_handsOn := goodIn_r _ [42, 24, 2, 12, 43, 44, 45, 8, 46, 51, 52, 53, 54, 55, 56, 57, 58, 59, 60, 61, 62, 63] (by decide +kernel) (by decide +kernel)
set_option maxRecDepth 20000 in
theorem gX2_step_X2_handsOn : GoodIn wsX2_step (wsV RX2 99 RX2 yX2_handsOn wsX2_handsOn) := goodIn_app (goodIn_of _ (by decide +kernel)) ggX2_step_X2_handsOn
set_option maxRecDepth 20000 in
theorem ggX2_step_X2_poorestBehindHolder : GoodIn wsX2_step wsX2_poorestBehindHolder := goodIn_r _ [50, 2, 1, 12, 51, 52, 53, 54, 55, 56, 57, 58, 59, 60, 61, 62, 63] (by decide +kernel) (by decide +kernel)
set_option maxRecDepth 20000 in
theorem gX2_step_X2_poorestBehindHolder : GoodIn wsX2_step (wsV RX2 102 RX2 yX2_poorestBehindHolder wsX2_poorestBehindHolder) := goodIn_app (goodIn_of _ (by decide +kernel)) ggX2_step_X2_poorestBehindHolder
theorem dX2_step_0 : decode cX2_step 0 = .ok (.aload_n 0, 1) := by decide +kernel
theorem dX2_step_1 : decode cX2_step 1 = .ok (.invokevirtual 92, 3) := by decide +kernel
theorem dX2_step_4 : decode cX2_step 4 = .ok (.aload_n 0, 1) := by decide +kernel
theorem dX2_step_5 : decode cX2_step 5 = .ok (.getfield 33, 3) := by decide +kernel
theorem dX2_step_8 : decode cX2_step 8 = .ok (.ifCond .le 14, 3) := by decide +kernel
theorem dX2_step_11 : decode cX2_step 11 = .ok (.aload_n 0, 1) := by decide +kernel
theorem dX2_step_12 : decode cX2_step 12 = .ok (.aload_n 0, 1) := by decide +kernel
theorem dX2_step_13 : decode cX2_step 13 = .ok (.getfield 43, 3) := by decide +kernel
theorem dX2_step_16 : decode cX2_step 16 = .ok (.invokevirtual 85, 3) := by decide +kernel
theorem dX2_step_19 : decode cX2_step 19 = .ok (.goto 4, 3) := by decide +kernel
theorem dX2_step_22 : decode cX2_step 22 = .ok (.iconst 0, 1) := by decide +kernel
theorem dX2_step_23 : decode cX2_step 23 = .ok (.istore_n 1, 1) := by decide +kernel
theorem dX2_step_24 : decode cX2_step 24 = .ok (.aload_n 0, 1) := by decide +kernel
theorem dX2_step_25 : decode cX2_step 25 = .ok (.iload_n 1, 1) := by decide +kernel
theorem dX2_step_26 : decode cX2_step 26 = .ok (.invokevirtual 95, 3) := by decide +kernel
theorem dX2_step_29 : decode cX2_step 29 = .ok (.aload_n 0, 1) := by decide +kernel
theorem dX2_step_30 : decode cX2_step 30 = .ok (.getfield 33, 3) := by decide +kernel
theorem dX2_step_33 : decode cX2_step 33 = .ok (.iconst 1, 1) := by decide +kernel
theorem dX2_step_34 : decode cX2_step 34 = .ok (.if_icmp .le 14, 3) := by decide +kernel
theorem dX2_step_37 : decode cX2_step 37 = .ok (.aload_n 0, 1) := by decide +kernel
theorem dX2_step_38 : decode cX2_step 38 = .ok (.invokevirtual 99, 3) := by decide +kernel
theorem dX2_step_41 : decode cX2_step 41 = .ok (.ifCond .eq 7, 3) := by decide +kernel
theorem dX2_step_44 : decode cX2_step 44 = .ok (.iconst 1, 1) := by decide +kernel
theorem dX2_step_45 : decode cX2_step 45 = .ok (.goto 4, 3) := by decide +kernel
theorem dX2_step_48 : decode cX2_step 48 = .ok (.iconst 0, 1) := by decide +kernel
theorem dX2_step_49 : decode cX2_step 49 = .ok (.istore_n 2, 1) := by decide +kernel
theorem dX2_step_50 : decode cX2_step 50 = .ok (.iload_n 2, 1) := by decide +kernel
theorem dX2_step_51 : decode cX2_step 51 = .ok (.ifCond .eq 14, 3) := by decide +kernel
theorem dX2_step_54 : decode cX2_step 54 = .ok (.aload_n 0, 1) := by decide +kernel
theorem dX2_step_55 : decode cX2_step 55 = .ok (.aload_n 0, 1) := by decide +kernel
theorem dX2_step_56 : decode cX2_step 56 = .ok (.invokevirtual 102, 3) := by decide +kernel
theorem dX2_step_59 : decode cX2_step 59 = .ok (.putfield 43, 3) := by decide +kernel
theorem dX2_step_62 : decode cX2_step 62 = .ok (.goto 23, 3) := by decide +kernel
theorem dX2_step_65 : decode cX2_step 65 = .ok (.aload_n 0, 1) := by decide +kernel
theorem dX2_step_66 : decode cX2_step 66 = .ok (.getfield 33, 3) := by decide +kernel
theorem dX2_step_69 : decode cX2_step 69 = .ok (.ifCond .le 16, 3) := by decide +kernel
theorem dX2_step_72 : decode cX2_step 72 = .ok (.aload_n 0, 1) := by decide +kernel
theorem dX2_step_73 : decode cX2_step 73 = .ok (.getfield 21, 3) := by decide +kernel
theorem dX2_step_76 : decode cX2_step 76 = .ok (.aload_n 0, 1) := by decide +kernel
theorem dX2_step_77 : decode cX2_step 77 = .ok (.getfield 43, 3) := by decide +kernel
theorem dX2_step_80 : decode cX2_step 80 = .ok (.dup2, 1) := by decide +kernel
theorem dX2_step_81 : decode cX2_step 81 = .ok (.iaload, 1) := by decide +kernel
theorem dX2_step_82 : decode cX2_step 82 = .ok (.iconst 1, 1) := by decide +kernel
theorem dX2_step_83 : decode cX2_step 83 = .ok (.iadd, 1) := by decide +kernel
theorem dX2_step_84 : decode cX2_step 84 = .ok (.iastore, 1) := by decide +kernel
theorem dX2_step_85 : decode cX2_step 85 = .ok (.aload_n 0, 1) := by decide +kernel
theorem dX2_step_86 : decode cX2_step 86 = .ok (.dup, 1) := by decide +kernel
theorem dX2_step_87 : decode cX2_step 87 = .ok (.getfield 37, 3) := by decide +kernel
theorem dX2_step_90 : decode cX2_step 90 = .ok (.iconst 1, 1) := by decide +kernel
theorem dX2_step_91 : decode cX2_step 91 = .ok (.iadd, 1) := by decide +kernel
theorem dX2_step_92 : decode cX2_step 92 = .ok (.putfield 37, 3) := by decide +kernel
theorem dX2_step_95 : decode cX2_step 95 = .ok (.iload_n 2, 1) := by decide +kernel
theorem dX2_step_96 : decode cX2_step 96 = .ok (.ireturn, 1) := by decide +kernel
set_option maxRecDepth 20000 in
theorem ggX2_makeGifts_X3_bounded : GoodIn wsX2_makeGifts wsX3_bounded := goodIn_r _ [11] (by decide +kernel) (by decide +kernel)
set_option maxRecDepth 20000 in
theorem gX2_makeGifts_X3_bounded_n111 : GoodIn wsX2_makeGifts (wsX3_bounded) := ggX2_makeGifts_X3_bounded
theorem dX2_makeGifts_0 : decode cX2_makeGifts 0 = .ok (.iconst 0, 1) := by decide +kernel
theorem dX2_makeGifts_1 : decode cX2_makeGifts 1 = .ok (.istore_n 1, 1) := by decide +kernel
theorem dX2_makeGifts_2 : decode cX2_makeGifts 2 = .ok (.iload_n 1, 1) := by decide +kernel
theorem dX2_makeGifts_3 : decode cX2_makeGifts 3 = .ok (.aload_n 0, 1) := by decide +kernel
theorem dX2_makeGifts_4 : decode cX2_makeGifts 4 = .ok (.getfield 46, 3) := by decide +kernel
theorem dX2_makeGifts_7 : decode cX2_makeGifts 7 = .ok (.if_icmp .ge 95, 3) := by decide +kernel
theorem dX2_makeGifts_10 : decode cX2_makeGifts 10 = .ok (.iload_n 1, 1) := by decide +kernel
theorem dX2_makeGifts_11 : decode cX2_makeGifts 11 = .ok (.iconst 4, 1) := by decide +kernel
theorem dX2_makeGifts_12 : decode cX2_makeGifts 12 = .ok (.imul, 1) := by decide +kernel
theorem dX2_makeGifts_13 : decode cX2_makeGifts 13 = .ok (.istore_n 2, 1) := by decide +kernel
theorem dX2_makeGifts_14 : decode cX2_makeGifts 14 = .ok (.aload_n 0, 1) := by decide +kernel
theorem dX2_makeGifts_15 : decode cX2_makeGifts 15 = .ok (.getfield 24, 3) := by decide +kernel
theorem dX2_makeGifts_18 : decode cX2_makeGifts 18 = .ok (.iload_n 2, 1) := by decide +kernel
theorem dX2_makeGifts_19 : decode cX2_makeGifts 19 = .ok (.iaload, 1) := by decide +kernel
theorem dX2_makeGifts_20 : decode cX2_makeGifts 20 = .ok (.aload_n 0, 1) := by decide +kernel
theorem dX2_makeGifts_21 : decode cX2_makeGifts 21 = .ok (.getfield 37, 3) := by decide +kernel
theorem dX2_makeGifts_24 : decode cX2_makeGifts 24 = .ok (.if_icmp .ne 72, 3) := by decide +kernel
theorem dX2_makeGifts_27 : decode cX2_makeGifts 27 = .ok (.aload_n 0, 1) := by decide +kernel
theorem dX2_makeGifts_28 : decode cX2_makeGifts 28 = .ok (.getfield 24, 3) := by decide +kernel
theorem dX2_makeGifts_31 : decode cX2_makeGifts 31 = .ok (.iload_n 2, 1) := by decide +kernel
theorem dX2_makeGifts_32 : decode cX2_makeGifts 32 = .ok (.iconst 1, 1) := by decide +kernel
theorem dX2_makeGifts_33 : decode cX2_makeGifts 33 = .ok (.iadd, 1) := by decide +kernel
theorem dX2_makeGifts_34 : decode cX2_makeGifts 34 = .ok (.iaload, 1) := by decide +kernel
theorem dX2_makeGifts_35 : decode cX2_makeGifts 35 = .ok (.istore_n 3, 1) := by decide +kernel
theorem dX2_makeGifts_36 : decode cX2_makeGifts 36 = .ok (.aload_n 0, 1) := by decide +kernel
theorem dX2_makeGifts_37 : decode cX2_makeGifts 37 = .ok (.getfield 24, 3) := by decide +kernel
theorem dX2_makeGifts_40 : decode cX2_makeGifts 40 = .ok (.iload_n 2, 1) := by decide +kernel
theorem dX2_makeGifts_41 : decode cX2_makeGifts 41 = .ok (.iconst 2, 1) := by decide +kernel
theorem dX2_makeGifts_42 : decode cX2_makeGifts 42 = .ok (.iadd, 1) := by decide +kernel
theorem dX2_makeGifts_43 : decode cX2_makeGifts 43 = .ok (.iaload, 1) := by decide +kernel
theorem dX2_makeGifts_44 : decode cX2_makeGifts 44 = .ok (.istore 4, 2) := by decide +kernel
theorem dX2_makeGifts_46 : decode cX2_makeGifts 46 = .ok (.aload_n 0, 1) := by decide +kernel
theorem dX2_makeGifts_47 : decode cX2_makeGifts 47 = .ok (.getfield 15, 3) := by decide +kernel
theorem dX2_makeGifts_50 : decode cX2_makeGifts 50 = .ok (.iload_n 3, 1) := by decide +kernel
theorem dX2_makeGifts_51 : decode cX2_makeGifts 51 = .ok (.iaload, 1) := by decide +kernel
theorem dX2_makeGifts_52 : decode cX2_makeGifts 52 = .ok (.aload_n 0, 1) := by decide +kernel
theorem dX2_makeGifts_53 : decode cX2_makeGifts 53 = .ok (.getfield 24, 3) := by decide +kernel
theorem dX2_makeGifts_56 : decode cX2_makeGifts 56 = .ok (.iload_n 2, 1) := by decide +kernel
theorem dX2_makeGifts_57 : decode cX2_makeGifts 57 = .ok (.iconst 3, 1) := by decide +kernel
theorem dX2_makeGifts_58 : decode cX2_makeGifts 58 = .ok (.iadd, 1) := by decide +kernel
theorem dX2_makeGifts_59 : decode cX2_makeGifts 59 = .ok (.iaload, 1) := by decide +kernel
theorem dX2_makeGifts_60 : decode cX2_makeGifts 60 = .ok (.invokestatic 105, 3) := by decide +kernel
theorem dX2_makeGifts_63 : decode cX2_makeGifts 63 = .ok (.istore 5, 2) := by decide +kernel
theorem dX2_makeGifts_65 : decode cX2_makeGifts 65 = .ok (.aload_n 0, 1) := by decide +kernel
theorem dX2_makeGifts_66 : decode cX2_makeGifts 66 = .ok (.getfield 15, 3) := by decide +kernel
theorem dX2_makeGifts_69 : decode cX2_makeGifts 69 = .ok (.iload_n 3, 1) := by decide +kernel
theorem dX2_makeGifts_70 : decode cX2_makeGifts 70 = .ok (.dup2, 1) := by decide +kernel
theorem dX2_makeGifts_71 : decode cX2_makeGifts 71 = .ok (.iaload, 1) := by decide +kernel
theorem dX2_makeGifts_72 : decode cX2_makeGifts 72 = .ok (.iload 5, 2) := by decide +kernel
theorem dX2_makeGifts_74 : decode cX2_makeGifts 74 = .ok (.isub, 1) := by decide +kernel
theorem dX2_makeGifts_75 : decode cX2_makeGifts 75 = .ok (.iastore, 1) := by decide +kernel
theorem dX2_makeGifts_76 : decode cX2_makeGifts 76 = .ok (.aload_n 0, 1) := by decide +kernel
theorem dX2_makeGifts_77 : decode cX2_makeGifts 77 = .ok (.getfield 15, 3) := by decide +kernel
theorem dX2_makeGifts_80 : decode cX2_makeGifts 80 = .ok (.iload 4, 2) := by decide +kernel
theorem dX2_makeGifts_82 : decode cX2_makeGifts 82 = .ok (.aload_n 0, 1) := by decide +kernel
theorem dX2_makeGifts_83 : decode cX2_makeGifts 83 = .ok (.getfield 15, 3) := by decide +kernel
theorem dX2_makeGifts_86 : decode cX2_makeGifts 86 = .ok (.iload 4, 2) := by decide +kernel
theorem dX2_makeGifts_88 : decode cX2_makeGifts 88 = .ok (.iaload, 1) := by decide +kernel
theorem dX2_makeGifts_89 : decode cX2_makeGifts 89 = .ok (.iload 5, 2) := by decide +kernel
theorem dX2_makeGifts_91 : decode cX2_makeGifts 91 = .ok (.iadd, 1) := by decide +kernel
theorem dX2_makeGifts_92 : decode cX2_makeGifts 92 = .ok (.invokestatic 111, 3) := by decide +kernel
theorem dX2_makeGifts_95 : decode cX2_makeGifts 95 = .ok (.iastore, 1) := by decide +kernel
theorem dX2_makeGifts_96 : decode cX2_makeGifts 96 = .ok (.iinc 1 1, 3) := by decide +kernel
theorem dX2_makeGifts_99 : decode cX2_makeGifts 99 = .ok (.goto (-97), 3) := by decide +kernel
theorem dX2_makeGifts_102 : decode cX2_makeGifts 102 = .ok (.return_, 1) := by decide +kernel
set_option maxRecDepth 20000 in
theorem ggX2_earn_X2_tradeBrings : GoodIn wsX2_earn wsX2_tradeBrings := goodIn_r _ [8, 9, 10, 11, 15, 16, 17, 18, 19, 20, 21, 22, 23, 24, 25, 26, 27] (by decide +kernel) (by decide +kernel)
set_option maxRecDepth 20000 in
theorem gX2_earn_X2_tradeBrings : GoodIn wsX2_earn (wsV RX2 82 RX2 yX2_tradeBrings wsX2_tradeBrings) := goodIn_app (goodIn_of _ (by decide +kernel)) ggX2_earn_X2_tradeBrings
set_option maxRecDepth 20000 in
theorem ggX2_earn_X3_bounded : GoodIn wsX2_earn wsX3_bounded := goodIn_r _ [14] (by decide +kernel) (by decide +kernel)
set_option maxRecDepth 20000 in
theorem gX2_earn_X3_bounded_n111 : GoodIn wsX2_earn (wsX3_bounded) := ggX2_earn_X3_bounded
theorem dX2_earn_0 : decode cX2_earn 0 = .ok (.iconst 0, 1) := by decide +kernel
theorem dX2_earn_1 : decode cX2_earn 1 = .ok (.istore_n 2, 1) := by decide +kernel
theorem dX2_earn_2 : decode cX2_earn 2 = .ok (.iload_n 2, 1) := by decide +kernel
theorem dX2_earn_3 : decode cX2_earn 3 = .ok (.aload_n 0, 1) := by decide +kernel
theorem dX2_earn_4 : decode cX2_earn 4 = .ok (.getfield 33, 3) := by decide +kernel
theorem dX2_earn_7 : decode cX2_earn 7 = .ok (.if_icmp .ge 46, 3) := by decide +kernel
theorem dX2_earn_10 : decode cX2_earn 10 = .ok (.aload_n 0, 1) := by decide +kernel
theorem dX2_earn_11 : decode cX2_earn 11 = .ok (.iload_n 2, 1) := by decide +kernel
theorem dX2_earn_12 : decode cX2_earn 12 = .ok (.invokevirtual 82, 3) := by decide +kernel
theorem dX2_earn_15 : decode cX2_earn 15 = .ok (.iload_n 2, 1) := by decide +kernel
theorem dX2_earn_16 : decode cX2_earn 16 = .ok (.aload_n 0, 1) := by decide +kernel
theorem dX2_earn_17 : decode cX2_earn 17 = .ok (.getfield 43, 3) := by decide +kernel
theorem dX2_earn_20 : decode cX2_earn 20 = .ok (.if_icmp .ne 7, 3) := by decide +kernel
theorem dX2_earn_23 : decode cX2_earn 23 = .ok (.iload_n 1, 1) := by decide +kernel
theorem dX2_earn_24 : decode cX2_earn 24 = .ok (.goto 4, 3) := by decide +kernel
theorem dX2_earn_27 : decode cX2_earn 27 = .ok (.iconst 0, 1) := by decide +kernel
theorem dX2_earn_28 : decode cX2_earn 28 = .ok (.iadd, 1) := by decide +kernel
theorem dX2_earn_29 : decode cX2_earn 29 = .ok (.istore_n 3, 1) := by decide +kernel
theorem dX2_earn_30 : decode cX2_earn 30 = .ok (.aload_n 0, 1) := by decide +kernel
theorem dX2_earn_31 : decode cX2_earn 31 = .ok (.getfield 15, 3) := by decide +kernel
theorem dX2_earn_34 : decode cX2_earn 34 = .ok (.iload_n 2, 1) := by decide +kernel
theorem dX2_earn_35 : decode cX2_earn 35 = .ok (.aload_n 0, 1) := by decide +kernel
theorem dX2_earn_36 : decode cX2_earn 36 = .ok (.getfield 15, 3) := by decide +kernel
theorem dX2_earn_39 : decode cX2_earn 39 = .ok (.iload_n 2, 1) := by decide +kernel
theorem dX2_earn_40 : decode cX2_earn 40 = .ok (.iaload, 1) := by decide +kernel
theorem dX2_earn_41 : decode cX2_earn 41 = .ok (.iload_n 3, 1) := by decide +kernel
theorem dX2_earn_42 : decode cX2_earn 42 = .ok (.iadd, 1) := by decide +kernel
theorem dX2_earn_43 : decode cX2_earn 43 = .ok (.invokestatic 111, 3) := by decide +kernel
theorem dX2_earn_46 : decode cX2_earn 46 = .ok (.iastore, 1) := by decide +kernel
theorem dX2_earn_47 : decode cX2_earn 47 = .ok (.iinc 2 1, 3) := by decide +kernel
theorem dX2_earn_50 : decode cX2_earn 50 = .ok (.goto (-48), 3) := by decide +kernel
theorem dX2_earn_53 : decode cX2_earn 53 = .ok (.return_, 1) := by decide +kernel
set_option maxRecDepth 20000 in
theorem ggX2_handsOn_X2_isRuined : GoodIn wsX2_handsOn wsX2_isRuined := goodIn_r _ [8, 3, 9, 10, 11, 12, 13, 14, 15, 16, 17, 18, 19, 20, 21] (by decide +kernel) (by decide +kernel)
set_option maxRecDepth 20000 in
theorem gX2_handsOn_X2_isRuined : GoodIn wsX2_handsOn (wsV RX2 66 RX2 yX2_isRuined wsX2_isRuined) := goodIn_app (goodIn_of _ (by decide +kernel)) ggX2_handsOn_X2_isRuined
theorem dX2_handsOn_0 : decode cX2_handsOn 0 = .ok (.aload_n 0, 1) := by decide +kernel
theorem dX2_handsOn_1 : decode cX2_handsOn 1 = .ok (.getfield 9, 3) := by decide +kernel
theorem dX2_handsOn_4 : decode cX2_handsOn 4 = .ok (.aload_n 0, 1) := by decide +kernel
theorem dX2_handsOn_5 : decode cX2_handsOn 5 = .ok (.getfield 43, 3) := by decide +kernel
theorem dX2_handsOn_8 : decode cX2_handsOn 8 = .ok (.iaload, 1) := by decide +kernel
theorem dX2_handsOn_9 : decode cX2_handsOn 9 = .ok (.iconst 1, 1) := by decide +kernel
theorem dX2_handsOn_10 : decode cX2_handsOn 10 = .ok (.if_icmp .ne 14, 3) := by decide +kernel
theorem dX2_handsOn_13 : decode cX2_handsOn 13 = .ok (.aload_n 0, 1) := by decide +kernel
theorem dX2_handsOn_14 : decode cX2_handsOn 14 = .ok (.aload_n 0, 1) := by decide +kernel
theorem dX2_handsOn_15 : decode cX2_handsOn 15 = .ok (.getfield 43, 3) := by decide +kernel
theorem dX2_handsOn_18 : decode cX2_handsOn 18 = .ok (.invokevirtual 66, 3) := by decide +kernel
theorem dX2_handsOn_21 : decode cX2_handsOn 21 = .ok (.goto 22, 3) := by decide +kernel
theorem dX2_handsOn_24 : decode cX2_handsOn 24 = .ok (.aload_n 0, 1) := by decide +kernel
theorem dX2_handsOn_25 : decode cX2_handsOn 25 = .ok (.getfield 15, 3) := by decide +kernel
theorem dX2_handsOn_28 : decode cX2_handsOn 28 = .ok (.aload_n 0, 1) := by decide +kernel
theorem dX2_handsOn_29 : decode cX2_handsOn 29 = .ok (.getfield 43, 3) := by decide +kernel
theorem dX2_handsOn_32 : decode cX2_handsOn 32 = .ok (.iaload, 1) := by decide +kernel
theorem dX2_handsOn_33 : decode cX2_handsOn 33 = .ok (.bipush 10, 2) := by decide +kernel
theorem dX2_handsOn_35 : decode cX2_handsOn 35 = .ok (.if_icmp .lt 7, 3) := by decide +kernel
theorem dX2_handsOn_38 : decode cX2_handsOn 38 = .ok (.iconst 1, 1) := by decide +kernel
theorem dX2_handsOn_39 : decode cX2_handsOn 39 = .ok (.goto 4, 3) := by decide +kernel
theorem dX2_handsOn_42 : decode cX2_handsOn 42 = .ok (.iconst 0, 1) := by decide +kernel
theorem dX2_handsOn_43 : decode cX2_handsOn 43 = .ok (.ireturn, 1) := by decide +kernel
theorem dX2_poorestBehindHolder_0 : decode cX2_poorestBehindHolder 0 = .ok (.aload_n 0, 1) := by decide +kernel
theorem dX2_poorestBehindHolder_1 : decode cX2_poorestBehindHolder 1 = .ok (.getfield 43, 3) := by decide +kernel
theorem dX2_poorestBehindHolder_4 : decode cX2_poorestBehindHolder 4 = .ok (.istore_n 1, 1) := by decide +kernel
theorem dX2_poorestBehindHolder_5 : decode cX2_poorestBehindHolder 5 = .ok (.iconst 1, 1) := by decide +kernel
theorem dX2_poorestBehindHolder_6 : decode cX2_poorestBehindHolder 6 = .ok (.istore_n 2, 1) := by decide +kernel
theorem dX2_poorestBehindHolder_7 : decode cX2_poorestBehindHolder 7 = .ok (.iload_n 2, 1) := by decide +kernel
theorem dX2_poorestBehindHolder_8 : decode cX2_poorestBehindHolder 8 = .ok (.aload_n 0, 1) := by decide +kernel
theorem dX2_poorestBehindHolder_9 : decode cX2_poorestBehindHolder 9 = .ok (.getfield 33, 3) := by decide +kernel
theorem dX2_poorestBehindHolder_12 : decode cX2_poorestBehindHolder 12 = .ok (.if_icmp .ge 46, 3) := by decide +kernel
theorem dX2_poorestBehindHolder_15 : decode cX2_poorestBehindHolder 15 = .ok (.aload_n 0, 1) := by decide +kernel
theorem dX2_poorestBehindHolder_16 : decode cX2_poorestBehindHolder 16 = .ok (.getfield 43, 3) := by decide +kernel
theorem dX2_poorestBehindHolder_19 : decode cX2_poorestBehindHolder 19 = .ok (.iload_n 2, 1) := by decide +kernel
theorem dX2_poorestBehindHolder_20 : decode cX2_poorestBehindHolder 20 = .ok (.iadd, 1) := by decide +kernel
theorem dX2_poorestBehindHolder_21 : decode cX2_poorestBehindHolder 21 = .ok (.aload_n 0, 1) := by decide +kernel
theorem dX2_poorestBehindHolder_22 : decode cX2_poorestBehindHolder 22 = .ok (.getfield 33, 3) := by decide +kernel
theorem dX2_poorestBehindHolder_25 : decode cX2_poorestBehindHolder 25 = .ok (.irem, 1) := by decide +kernel
theorem dX2_poorestBehindHolder_26 : decode cX2_poorestBehindHolder 26 = .ok (.istore_n 3, 1) := by decide +kernel
theorem dX2_poorestBehindHolder_27 : decode cX2_poorestBehindHolder 27 = .ok (.iload_n 1, 1) := by decide +kernel
theorem dX2_poorestBehindHolder_28 : decode cX2_poorestBehindHolder 28 = .ok (.aload_n 0, 1) := by decide +kernel
theorem dX2_poorestBehindHolder_29 : decode cX2_poorestBehindHolder 29 = .ok (.getfield 43, 3) := by decide +kernel
theorem dX2_poorestBehindHolder_32 : decode cX2_poorestBehindHolder 32 = .ok (.if_icmp .eq 18, 3) := by decide +kernel
theorem dX2_poorestBehindHolder_35 : decode cX2_poorestBehindHolder 35 = .ok (.aload_n 0, 1) := by decide +kernel
theorem dX2_poorestBehindHolder_36 : decode cX2_poorestBehindHolder 36 = .ok (.getfield 15, 3) := by decide +kernel
theorem dX2_poorestBehindHolder_39 : decode cX2_poorestBehindHolder 39 = .ok (.iload_n 3, 1) := by decide +kernel
theorem dX2_poorestBehindHolder_40 : decode cX2_poorestBehindHolder 40 = .ok (.iaload, 1) := by decide +kernel
theorem dX2_poorestBehindHolder_41 : decode cX2_poorestBehindHolder 41 = .ok (.aload_n 0, 1) := by decide +kernel
theorem dX2_poorestBehindHolder_42 : decode cX2_poorestBehindHolder 42 = .ok (.getfield 15, 3) := by decide +kernel
theorem dX2_poorestBehindHolder_45 : decode cX2_poorestBehindHolder 45 = .ok (.iload_n 1, 1) := by decide +kernel
theorem dX2_poorestBehindHolder_46 : decode cX2_poorestBehindHolder 46 = .ok (.iaload, 1) := by decide +kernel
theorem dX2_poorestBehindHolder_47 : decode cX2_poorestBehindHolder 47 = .ok (.if_icmp .ge 5, 3) := by decide +kernel
theorem dX2_poorestBehindHolder_50 : decode cX2_poorestBehindHolder 50 = .ok (.iload_n 3, 1) := by decide +kernel
theorem dX2_poorestBehindHolder_51 : decode cX2_poorestBehindHolder 51 = .ok (.istore_n 1, 1) := by decide +kernel
theorem dX2_poorestBehindHolder_52 : decode cX2_poorestBehindHolder 52 = .ok (.iinc 2 1, 3) := by decide +kernel
theorem dX2_poorestBehindHolder_55 : decode cX2_poorestBehindHolder 55 = .ok (.goto (-48), 3) := by decide +kernel
theorem dX2_poorestBehindHolder_58 : decode cX2_poorestBehindHolder 58 = .ok (.iload_n 1, 1) := by decide +kernel
theorem dX2_poorestBehindHolder_59 : decode cX2_poorestBehindHolder 59 = .ok (.ireturn, 1) := by decide +kernel
set_option maxRecDepth 20000 in
theorem ggX2_comesTo_X2_step : GoodIn wsX2_comesTo wsX2_step := goodIn_r _ [6, 7, 1, 8, 9, 10, 11, 12, 5, 13, 14, 15, 16, 17, 18, 19, 20, 21, 22, 23, 24, 25, 26, 27, 28, 29, 30, 31, 32, 33, 34, 35, 36, 37, 38, 39, 40, 41, 42, 43, 44, 45, 46, 47, 48, 49, 50, 51, 52, 53, 54, 55, 56, 57, 58, 59, 60, 61, 62, 63, 64, 65, 66, 67] (by decide +kernel) (by decide +kernel)
set_option maxRecDepth 20000 in
theorem gX2_comesTo_X2_step : GoodIn wsX2_comesTo (wsV RX2 88 RX2 yX2_step wsX2_step) := goodIn_app (goodIn_of _ (by decide +kernel)) ggX2_comesTo_X2_step
theorem dX2_comesTo_0 : decode cX2_comesTo 0 = .ok (.iconst 0, 1) := by decide +kernel
theorem dX2_comesTo_1 : decode cX2_comesTo 1 = .ok (.istore_n 2, 1) := by decide +kernel
theorem dX2_comesTo_2 : decode cX2_comesTo 2 = .ok (.iload_n 2, 1) := by decide +kernel
theorem dX2_comesTo_3 : decode cX2_comesTo 3 = .ok (.bipush 60, 2) := by decide +kernel
theorem dX2_comesTo_5 : decode cX2_comesTo 5 = .ok (.if_icmp .gt 24, 3) := by decide +kernel
theorem dX2_comesTo_8 : decode cX2_comesTo 8 = .ok (.aload_n 0, 1) := by decide +kernel
theorem dX2_comesTo_9 : decode cX2_comesTo 9 = .ok (.getfield 43, 3) := by decide +kernel
theorem dX2_comesTo_12 : decode cX2_comesTo 12 = .ok (.iload_n 1, 1) := by decide +kernel
