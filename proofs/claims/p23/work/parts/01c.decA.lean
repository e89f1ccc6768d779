theorem dX0_init_0 : decode cX0_init 0 = .ok (.aload_n 0, 1) := by decide +kernel
theorem dX0_init_1 : decode cX0_init 1 = .ok (.invokespecial 3, 3) := by decide +kernel
theorem dX0_init_4 : decode cX0_init 4 = .ok (.aload_n 0, 1) := by decide +kernel
theorem dX0_init_5 : decode cX0_init 5 = .ok (.iconst 0, 1) := by decide +kernel
theorem dX0_init_6 : decode cX0_init 6 = .ok (.newarray .byte, 2) := by decide +kernel
theorem dX0_init_8 : decode cX0_init 8 = .ok (.putfield 9, 3) := by decide +kernel
theorem dX0_init_11 : decode cX0_init 11 = .ok (.return_, 1) := by decide +kernel
theorem dX0_has_0 : decode cX0_has 0 = .ok (.iload_n 1, 1) := by decide +kernel
theorem dX0_has_1 : decode cX0_has 1 = .ok (.ifCond .lt 15, 3) := by decide +kernel
theorem dX0_has_4 : decode cX0_has 4 = .ok (.iload_n 1, 1) := by decide +kernel
theorem dX0_has_5 : decode cX0_has 5 = .ok (.aload_n 0, 1) := by decide +kernel
theorem dX0_has_6 : decode cX0_has 6 = .ok (.getfield 15, 3) := by decide +kernel
theorem dX0_has_9 : decode cX0_has 9 = .ok (.if_icmp .ge 7, 3) := by decide +kernel
theorem dX0_has_12 : decode cX0_has 12 = .ok (.iconst 1, 1) := by decide +kernel
theorem dX0_has_13 : decode cX0_has 13 = .ok (.goto 4, 3) := by decide +kernel
theorem dX0_has_16 : decode cX0_has 16 = .ok (.iconst 0, 1) := by decide +kernel
theorem dX0_has_17 : decode cX0_has 17 = .ok (.ireturn, 1) := by decide +kernel
theorem dX0_byteAt_0 : decode cX0_byteAt 0 = .ok (.aload_n 0, 1) := by decide +kernel
theorem dX0_byteAt_1 : decode cX0_byteAt 1 = .ok (.getfield 9, 3) := by decide +kernel
theorem dX0_byteAt_4 : decode cX0_byteAt 4 = .ok (.iload_n 1, 1) := by decide +kernel
theorem dX0_byteAt_5 : decode cX0_byteAt 5 = .ok (.baload, 1) := by decide +kernel
theorem dX0_byteAt_6 : decode cX0_byteAt 6 = .ok (.sipush 255, 3) := by decide +kernel
theorem dX0_byteAt_9 : decode cX0_byteAt 9 = .ok (.iand, 1) := by decide +kernel
theorem dX0_byteAt_10 : decode cX0_byteAt 10 = .ok (.ireturn, 1) := by decide +kernel
set_option maxRecDepth 20000 in
theorem ggX0_pairAt_X0_byteAt : GoodIn wsX0_pairAt wsX0_byteAt := goodIn_r _ [5, 6, 7, 8] (by decide +kernel) (by decide +kernel)
set_option maxRecDepth 20000 in
theorem gX0_pairAt_X0_byteAt : GoodIn wsX0_pairAt (wsV RX0 19 RX0 yX0_byteAt wsX0_byteAt) := goodIn_app (goodIn_of _ (by decide +kernel)) ggX0_pairAt_X0_byteAt
theorem dX0_pairAt_0 : decode cX0_pairAt 0 = .ok (.aload_n 0, 1) := by decide +kernel
theorem dX0_pairAt_1 : decode cX0_pairAt 1 = .ok (.iload_n 1, 1) := by decide +kernel
theorem dX0_pairAt_2 : decode cX0_pairAt 2 = .ok (.invokevirtual 19, 3) := by decide +kernel
theorem dX0_pairAt_5 : decode cX0_pairAt 5 = .ok (.bipush 8, 2) := by decide +kernel
theorem dX0_pairAt_7 : decode cX0_pairAt 7 = .ok (.ishl, 1) := by decide +kernel
theorem dX0_pairAt_8 : decode cX0_pairAt 8 = .ok (.aload_n 0, 1) := by decide +kernel
theorem dX0_pairAt_9 : decode cX0_pairAt 9 = .ok (.iload_n 1, 1) := by decide +kernel
theorem dX0_pairAt_10 : decode cX0_pairAt 10 = .ok (.iconst 1, 1) := by decide +kernel
theorem dX0_pairAt_11 : decode cX0_pairAt 11 = .ok (.iadd, 1) := by decide +kernel
theorem dX0_pairAt_12 : decode cX0_pairAt 12 = .ok (.invokevirtual 19, 3) := by decide +kernel
theorem dX0_pairAt_15 : decode cX0_pairAt 15 = .ok (.ior, 1) := by decide +kernel
theorem dX0_pairAt_16 : decode cX0_pairAt 16 = .ok (.ireturn, 1) := by decide +kernel
theorem dX0_append_0 : decode cX0_append 0 = .ok (.aload_n 0, 1) := by decide +kernel
theorem dX0_append_1 : decode cX0_append 1 = .ok (.getfield 15, 3) := by decide +kernel
theorem dX0_append_4 : decode cX0_append 4 = .ok (.aload_n 0, 1) := by decide +kernel
theorem dX0_append_5 : decode cX0_append 5 = .ok (.getfield 9, 3) := by decide +kernel
theorem dX0_append_8 : decode cX0_append 8 = .ok (.arraylength, 1) := by decide +kernel
theorem dX0_append_9 : decode cX0_append 9 = .ok (.if_icmp .ge 24, 3) := by decide +kernel
theorem dX0_append_12 : decode cX0_append 12 = .ok (.aload_n 0, 1) := by decide +kernel
theorem dX0_append_13 : decode cX0_append 13 = .ok (.getfield 9, 3) := by decide +kernel
theorem dX0_append_16 : decode cX0_append 16 = .ok (.aload_n 0, 1) := by decide +kernel
theorem dX0_append_17 : decode cX0_append 17 = .ok (.getfield 15, 3) := by decide +kernel
theorem dX0_append_20 : decode cX0_append 20 = .ok (.iload_n 1, 1) := by decide +kernel
theorem dX0_append_21 : decode cX0_append 21 = .ok (.i2b, 1) := by decide +kernel
theorem dX0_append_22 : decode cX0_append 22 = .ok (.bastore, 1) := by decide +kernel
theorem dX0_append_23 : decode cX0_append 23 = .ok (.aload_n 0, 1) := by decide +kernel
theorem dX0_append_24 : decode cX0_append 24 = .ok (.dup, 1) := by decide +kernel
theorem dX0_append_25 : decode cX0_append 25 = .ok (.getfield 15, 3) := by decide +kernel
theorem dX0_append_28 : decode cX0_append 28 = .ok (.iconst 1, 1) := by decide +kernel
theorem dX0_append_29 : decode cX0_append 29 = .ok (.iadd, 1) := by decide +kernel
theorem dX0_append_30 : decode cX0_append 30 = .ok (.putfield 15, 3) := by decide +kernel
theorem dX0_append_33 : decode cX0_append 33 = .ok (.return_, 1) := by decide +kernel
set_option maxRecDepth 20000 in
theorem ggX0_appendPair_X0_append : GoodIn wsX0_appendPair wsX0_append := goodIn_r _ [5, 6, 7, 8, 9] (by decide +kernel) (by decide +kernel)
set_option maxRecDepth 20000 in
theorem gX0_appendPair_X0_append : GoodIn wsX0_appendPair (wsV RX0 23 RX0 yX0_append wsX0_append) := goodIn_app (goodIn_of _ (by decide +kernel)) ggX0_appendPair_X0_append
theorem dX0_appendPair_0 : decode cX0_appendPair 0 = .ok (.aload_n 0, 1) := by decide +kernel
theorem dX0_appendPair_1 : decode cX0_appendPair 1 = .ok (.iload_n 1, 1) := by decide +kernel
theorem dX0_appendPair_2 : decode cX0_appendPair 2 = .ok (.bipush 8, 2) := by decide +kernel
theorem dX0_appendPair_4 : decode cX0_appendPair 4 = .ok (.ishr, 1) := by decide +kernel
theorem dX0_appendPair_5 : decode cX0_appendPair 5 = .ok (.invokevirtual 23, 3) := by decide +kernel
theorem dX0_appendPair_8 : decode cX0_appendPair 8 = .ok (.aload_n 0, 1) := by decide +kernel
theorem dX0_appendPair_9 : decode cX0_appendPair 9 = .ok (.iload_n 1, 1) := by decide +kernel
theorem dX0_appendPair_10 : decode cX0_appendPair 10 = .ok (.invokevirtual 23, 3) := by decide +kernel
theorem dX0_appendPair_13 : decode cX0_appendPair 13 = .ok (.return_, 1) := by decide +kernel
set_option maxRecDepth 20000 in
theorem ggX0_tell_X0_appendPair : GoodIn wsX0_tell wsX0_appendPair := goodIn_r _ [13, 14, 15, 16, 12, 17, 3, 1, 45, 46] (by decide +kernel) (by decide +kernel)
set_option maxRecDepth 20000 in
theorem gX0_tell_X0_appendPair : GoodIn wsX0_tell (wsV RX0 32 RX0 yX0_appendPair wsX0_appendPair) := goodIn_app (goodIn_of _ (by decide +kernel)) ggX0_tell_X0_appendPair
set_option maxRecDepth 20000 in
theorem ggX0_tell_X0_tellBytes : GoodIn wsX0_tell wsX0_tellBytes := goodIn_r _ [21, 22, 23, 24, 25, 26, 27, 28, 29, 30, 31, 32, 33, 34, 35, 36, 37, 38, 39, 40, 41, 42, 43, 14, 15, 16, 12, 17, 3, 1, 44, 47, 48, 49, 50, 51, 52, 45, 46] (by decide +kernel) (by decide +kernel)
set_option maxRecDepth 20000 in
theorem gX0_tell_X0_tellBytes : GoodIn wsX0_tell (wsV RX0 48 RX0 yX0_tellBytes wsX0_tellBytes) := goodIn_app (goodIn_of _ (by decide +kernel)) ggX0_tell_X0_tellBytes
theorem dX0_tell_0 : decode cX0_tell 0 = .ok (.aload_n 0, 1) := by decide +kernel
theorem dX0_tell_1 : decode cX0_tell 1 = .ok (.getfield 9, 3) := by decide +kernel
theorem dX0_tell_4 : decode cX0_tell 4 = .ok (.arraylength, 1) := by decide +kernel
theorem dX0_tell_5 : decode cX0_tell 5 = .ok (.sipush 12550, 3) := by decide +kernel
theorem dX0_tell_8 : decode cX0_tell 8 = .ok (.if_icmp .ge 12, 3) := by decide +kernel
theorem dX0_tell_11 : decode cX0_tell 11 = .ok (.aload_n 0, 1) := by decide +kernel
theorem dX0_tell_12 : decode cX0_tell 12 = .ok (.sipush 12550, 3) := by decide +kernel
theorem dX0_tell_15 : decode cX0_tell 15 = .ok (.newarray .byte, 2) := by decide +kernel
theorem dX0_tell_17 : decode cX0_tell 17 = .ok (.putfield 9, 3) := by decide +kernel
theorem dX0_tell_20 : decode cX0_tell 20 = .ok (.aload_n 0, 1) := by decide +kernel
theorem dX0_tell_21 : decode cX0_tell 21 = .ok (.iconst 0, 1) := by decide +kernel
theorem dX0_tell_22 : decode cX0_tell 22 = .ok (.putfield 15, 3) := by decide +kernel
theorem dX0_tell_25 : decode cX0_tell 25 = .ok (.aload_n 0, 1) := by decide +kernel
theorem dX0_tell_26 : decode cX0_tell 26 = .ok (.aload_n 1, 1) := by decide +kernel
theorem dX0_tell_27 : decode cX0_tell 27 = .ok (.getfield 27, 3) := by decide +kernel
theorem dX0_tell_30 : decode cX0_tell 30 = .ok (.invokevirtual 32, 3) := by decide +kernel
theorem dX0_tell_33 : decode cX0_tell 33 = .ok (.aload_n 0, 1) := by decide +kernel
theorem dX0_tell_34 : decode cX0_tell 34 = .ok (.aload_n 1, 1) := by decide +kernel
theorem dX0_tell_35 : decode cX0_tell 35 = .ok (.getfield 35, 3) := by decide +kernel
theorem dX0_tell_38 : decode cX0_tell 38 = .ok (.invokevirtual 32, 3) := by decide +kernel
theorem dX0_tell_41 : decode cX0_tell 41 = .ok (.aload_n 0, 1) := by decide +kernel
theorem dX0_tell_42 : decode cX0_tell 42 = .ok (.aload_n 1, 1) := by decide +kernel
theorem dX0_tell_43 : decode cX0_tell 43 = .ok (.getfield 38, 3) := by decide +kernel
theorem dX0_tell_46 : decode cX0_tell 46 = .ok (.invokevirtual 32, 3) := by decide +kernel
theorem dX0_tell_49 : decode cX0_tell 49 = .ok (.iconst 0, 1) := by decide +kernel
theorem dX0_tell_50 : decode cX0_tell 50 = .ok (.istore_n 2, 1) := by decide +kernel
theorem dX0_tell_51 : decode cX0_tell 51 = .ok (.iload_n 2, 1) := by decide +kernel
theorem dX0_tell_52 : decode cX0_tell 52 = .ok (.aload_n 1, 1) := by decide +kernel
theorem dX0_tell_53 : decode cX0_tell 53 = .ok (.getfield 38, 3) := by decide +kernel
theorem dX0_tell_56 : decode cX0_tell 56 = .ok (.if_icmp .ge 29, 3) := by decide +kernel
theorem dX0_tell_59 : decode cX0_tell 59 = .ok (.aload_n 0, 1) := by decide +kernel
theorem dX0_tell_60 : decode cX0_tell 60 = .ok (.aload_n 1, 1) := by decide +kernel
theorem dX0_tell_61 : decode cX0_tell 61 = .ok (.getfield 41, 3) := by decide +kernel
theorem dX0_tell_64 : decode cX0_tell 64 = .ok (.iload_n 2, 1) := by decide +kernel
theorem dX0_tell_65 : decode cX0_tell 65 = .ok (.iaload, 1) := by decide +kernel
theorem dX0_tell_66 : decode cX0_tell 66 = .ok (.invokevirtual 32, 3) := by decide +kernel
theorem dX0_tell_69 : decode cX0_tell 69 = .ok (.aload_n 0, 1) := by decide +kernel
theorem dX0_tell_70 : decode cX0_tell 70 = .ok (.aload_n 1, 1) := by decide +kernel
theorem dX0_tell_71 : decode cX0_tell 71 = .ok (.getfield 45, 3) := by decide +kernel
theorem dX0_tell_74 : decode cX0_tell 74 = .ok (.iload_n 2, 1) := by decide +kernel
theorem dX0_tell_75 : decode cX0_tell 75 = .ok (.iaload, 1) := by decide +kernel
theorem dX0_tell_76 : decode cX0_tell 76 = .ok (.invokevirtual 32, 3) := by decide +kernel
theorem dX0_tell_79 : decode cX0_tell 79 = .ok (.iinc 2 1, 3) := by decide +kernel
theorem dX0_tell_82 : decode cX0_tell 82 = .ok (.goto (-31), 3) := by decide +kernel
theorem dX0_tell_85 : decode cX0_tell 85 = .ok (.aload_n 0, 1) := by decide +kernel
theorem dX0_tell_86 : decode cX0_tell 86 = .ok (.aload_n 1, 1) := by decide +kernel
theorem dX0_tell_87 : decode cX0_tell 87 = .ok (.invokevirtual 48, 3) := by decide +kernel
theorem dX0_tell_90 : decode cX0_tell 90 = .ok (.return_, 1) := by decide +kernel
set_option maxRecDepth 20000 in
theorem ggX0_tellBytes_X2_changedEnd : GoodIn wsX0_tellBytes wsX2_changedEnd := goodIn_r _ [5, 6, 7, 8, 9, 4, 10, 11, 12, 13, 14, 31, 32, 33, 34, 35, 36] (by decide +kernel) (by decide +kernel)
set_option maxRecDepth 20000 in
theorem gX0_tellBytes_X2_changedEnd : GoodIn wsX0_tellBytes (wsV RX0 52 RX2 yX2_changedEnd wsX2_changedEnd) := goodIn_app (goodIn_of _ (by decide +kernel)) ggX0_tellBytes_X2_changedEnd
set_option maxRecDepth 20000 in
theorem ggX0_tellBytes_X2_unchangedRow : GoodIn wsX0_tellBytes wsX2_unchangedRow := goodIn_r _ [18, 19, 20, 21, 22, 7, 8, 9, 4, 10, 11, 12, 13, 14, 31, 32, 33, 34, 35, 36] (by decide +kernel) (by decide +kernel)
set_option maxRecDepth 20000 in
theorem gX0_tellBytes_X2_unchangedRow : GoodIn wsX0_tellBytes (wsV RX0 56 RX2 yX2_unchangedRow wsX2_unchangedRow) := goodIn_app (goodIn_of _ (by decide +kernel)) ggX0_tellBytes_X2_unchangedRow
set_option maxRecDepth 20000 in
theorem ggX0_tellBytes_X0_append : GoodIn wsX0_tellBytes wsX0_append := goodIn_r _ [27, 28, 29, 37, 38] (by decide +kernel) (by decide +kernel)
set_option maxRecDepth 20000 in
theorem gX0_tellBytes_X0_append : GoodIn wsX0_tellBytes (wsV RX0 23 RX0 yX0_append wsX0_append) := goodIn_app (goodIn_of _ (by decide +kernel)) ggX0_tellBytes_X0_append
set_option maxRecDepth 20000 in
theorem ggX0_tellBytes_X2_difference : GoodIn wsX0_tellBytes wsX2_difference := goodIn_r _ [10, 11, 12, 13, 4, 14, 31, 32, 33, 34, 35, 36] (by decide +kernel) (by decide +kernel)
set_option maxRecDepth 20000 in
theorem gX0_tellBytes_X2_difference : GoodIn wsX0_tellBytes (wsV RX0 60 RX2 yX2_difference wsX2_difference) := goodIn_app (goodIn_of _ (by decide +kernel)) ggX0_tellBytes_X2_difference
theorem dX0_tellBytes_0 : decode cX0_tellBytes 0 = .ok (.aload_n 1, 1) := by decide +kernel
theorem dX0_tellBytes_1 : decode cX0_tellBytes 1 = .ok (.invokevirtual 52, 3) := by decide +kernel
theorem dX0_tellBytes_4 : decode cX0_tellBytes 4 = .ok (.istore_n 2, 1) := by decide +kernel
theorem dX0_tellBytes_5 : decode cX0_tellBytes 5 = .ok (.iconst 0, 1) := by decide +kernel
theorem dX0_tellBytes_6 : decode cX0_tellBytes 6 = .ok (.istore_n 3, 1) := by decide +kernel
theorem dX0_tellBytes_7 : decode cX0_tellBytes 7 = .ok (.iload_n 3, 1) := by decide +kernel
theorem dX0_tellBytes_8 : decode cX0_tellBytes 8 = .ok (.iload_n 2, 1) := by decide +kernel
theorem dX0_tellBytes_9 : decode cX0_tellBytes 9 = .ok (.if_icmp .ge 52, 3) := by decide +kernel
theorem dX0_tellBytes_12 : decode cX0_tellBytes 12 = .ok (.aload_n 1, 1) := by decide +kernel
theorem dX0_tellBytes_13 : decode cX0_tellBytes 13 = .ok (.iload_n 3, 1) := by decide +kernel
theorem dX0_tellBytes_14 : decode cX0_tellBytes 14 = .ok (.iload_n 2, 1) := by decide +kernel
theorem dX0_tellBytes_15 : decode cX0_tellBytes 15 = .ok (.invokevirtual 56, 3) := by decide +kernel
theorem dX0_tellBytes_18 : decode cX0_tellBytes 18 = .ok (.istore 4, 2) := by decide +kernel
theorem dX0_tellBytes_20 : decode cX0_tellBytes 20 = .ok (.iload 4, 2) := by decide +kernel
theorem dX0_tellBytes_22 : decode cX0_tellBytes 22 = .ok (.ifCond .le 24, 3) := by decide +kernel
theorem dX0_tellBytes_25 : decode cX0_tellBytes 25 = .ok (.aload_n 0, 1) := by decide +kernel
theorem dX0_tellBytes_26 : decode cX0_tellBytes 26 = .ok (.iconst 0, 1) := by decide +kernel
theorem dX0_tellBytes_27 : decode cX0_tellBytes 27 = .ok (.invokevirtual 23, 3) := by decide +kernel
theorem dX0_tellBytes_30 : decode cX0_tellBytes 30 = .ok (.aload_n 0, 1) := by decide +kernel
theorem dX0_tellBytes_31 : decode cX0_tellBytes 31 = .ok (.iload 4, 2) := by decide +kernel
theorem dX0_tellBytes_33 : decode cX0_tellBytes 33 = .ok (.iconst 1, 1) := by decide +kernel
theorem dX0_tellBytes_34 : decode cX0_tellBytes 34 = .ok (.isub, 1) := by decide +kernel
theorem dX0_tellBytes_35 : decode cX0_tellBytes 35 = .ok (.invokevirtual 23, 3) := by decide +kernel
theorem dX0_tellBytes_38 : decode cX0_tellBytes 38 = .ok (.iload_n 3, 1) := by decide +kernel
theorem dX0_tellBytes_39 : decode cX0_tellBytes 39 = .ok (.iload 4, 2) := by decide +kernel
theorem dX0_tellBytes_41 : decode cX0_tellBytes 41 = .ok (.iadd, 1) := by decide +kernel
theorem dX0_tellBytes_42 : decode cX0_tellBytes 42 = .ok (.istore_n 3, 1) := by decide +kernel
theorem dX0_tellBytes_43 : decode cX0_tellBytes 43 = .ok (.goto 15, 3) := by decide +kernel
theorem dX0_tellBytes_46 : decode cX0_tellBytes 46 = .ok (.aload_n 0, 1) := by decide +kernel
theorem dX0_tellBytes_47 : decode cX0_tellBytes 47 = .ok (.aload_n 1, 1) := by decide +kernel
theorem dX0_tellBytes_48 : decode cX0_tellBytes 48 = .ok (.iload_n 3, 1) := by decide +kernel
theorem dX0_tellBytes_49 : decode cX0_tellBytes 49 = .ok (.invokevirtual 60, 3) := by decide +kernel
theorem dX0_tellBytes_52 : decode cX0_tellBytes 52 = .ok (.invokevirtual 23, 3) := by decide +kernel
theorem dX0_tellBytes_55 : decode cX0_tellBytes 55 = .ok (.iinc 3 1, 3) := by decide +kernel
theorem dX0_tellBytes_58 : decode cX0_tellBytes 58 = .ok (.goto (-51), 3) := by decide +kernel
theorem dX0_tellBytes_61 : decode cX0_tellBytes 61 = .ok (.return_, 1) := by decide +kernel
set_option maxRecDepth 20000 in
theorem ggX0_unfold_X2_begin : GoodIn wsX0_unfold wsX2_begin := goodIn_r _ [5, 6, 7, 8, 9, 10, 11, 12, 13, 14, 15, 4, 16, 49, 50, 51, 52, 53, 54] (by decide +kernel) (by decide +kernel)
set_option maxRecDepth 20000 in
theorem gX0_unfold_X2_begin : GoodIn wsX0_unfold (wsV RX0 63 RX2 yX2_begin wsX2_begin) := goodIn_app (goodIn_of _ (by decide +kernel)) ggX0_unfold_X2_begin
set_option maxRecDepth 20000 in
theorem ggX0_unfold_X0_unfoldHead : GoodIn wsX0_unfold wsX0_unfoldHead := goodIn_r _ [21, 22, 23, 24, 25, 26, 27, 28, 20, 29, 30, 31, 32, 33, 34, 35, 36, 37, 55, 56, 49, 50, 51, 52, 53, 54] (by decide +kernel) (by decide +kernel)
set_option maxRecDepth 20000 in
theorem gX0_unfold_X0_unfoldHead : GoodIn wsX0_unfold (wsV RX0 66 RX0 yX0_unfoldHead wsX0_unfoldHead) := goodIn_app (goodIn_of _ (by decide +kernel)) ggX0_unfold_X0_unfoldHead
set_option maxRecDepth 20000 in
theorem ggX0_unfold_X0_unfoldBlocks : GoodIn wsX0_unfold wsX0_unfoldBlocks := goodIn_r _ [41, 24, 25, 22, 23, 42, 43, 26, 27, 28, 20, 29, 30, 31, 32, 33, 34, 49, 50, 51, 52, 53, 54, 55, 56] (by decide +kernel) (by decide +kernel)
set_option maxRecDepth 20000 in
theorem gX0_unfold_X0_unfoldBlocks : GoodIn wsX0_unfold (wsV RX0 70 RX0 yX0_unfoldBlocks wsX0_unfoldBlocks) := goodIn_app (goodIn_of _ (by decide +kernel)) ggX0_unfold_X0_unfoldBlocks
set_option maxRecDepth 20000 in
theorem ggX0_unfold_X0_unfoldBytes : GoodIn wsX0_unfold wsX0_unfoldBytes := goodIn_r _ [47, 25, 22, 23, 48, 30, 31, 32, 20, 33, 34, 49, 50, 51, 52, 53, 54, 55, 56] (by decide +kernel) (by decide +kernel)
set_option maxRecDepth 20000 in
theorem gX0_unfold_X0_unfoldBytes : GoodIn wsX0_unfold (wsV RX0 73 RX0 yX0_unfoldBytes wsX0_unfoldBytes) := goodIn_app (goodIn_of _ (by decide +kernel)) ggX0_unfold_X0_unfoldBytes
theorem dX0_unfold_0 : decode cX0_unfold 0 = .ok (.aload_n 1, 1) := by decide +kernel
theorem dX0_unfold_1 : decode cX0_unfold 1 = .ok (.invokevirtual 63, 3) := by decide +kernel
theorem dX0_unfold_4 : decode cX0_unfold 4 = .ok (.aload_n 0, 1) := by decide +kernel
theorem dX0_unfold_5 : decode cX0_unfold 5 = .ok (.aload_n 1, 1) := by decide +kernel
theorem dX0_unfold_6 : decode cX0_unfold 6 = .ok (.invokevirtual 66, 3) := by decide +kernel
theorem dX0_unfold_9 : decode cX0_unfold 9 = .ok (.istore_n 2, 1) := by decide +kernel
theorem dX0_unfold_10 : decode cX0_unfold 10 = .ok (.iload_n 2, 1) := by decide +kernel
theorem dX0_unfold_11 : decode cX0_unfold 11 = .ok (.iconst (-1), 1) := by decide +kernel
theorem dX0_unfold_12 : decode cX0_unfold 12 = .ok (.if_icmp .ne 9, 3) := by decide +kernel
theorem dX0_unfold_15 : decode cX0_unfold 15 = .ok (.aload_n 0, 1) := by decide +kernel
theorem dX0_unfold_16 : decode cX0_unfold 16 = .ok (.aload_n 1, 1) := by decide +kernel
theorem dX0_unfold_17 : decode cX0_unfold 17 = .ok (.invokevirtual 70, 3) := by decide +kernel
theorem dX0_unfold_20 : decode cX0_unfold 20 = .ok (.istore_n 2, 1) := by decide +kernel
theorem dX0_unfold_21 : decode cX0_unfold 21 = .ok (.iload_n 2, 1) := by decide +kernel
theorem dX0_unfold_22 : decode cX0_unfold 22 = .ok (.iconst (-1), 1) := by decide +kernel
theorem dX0_unfold_23 : decode cX0_unfold 23 = .ok (.if_icmp .ne 9, 3) := by decide +kernel
theorem dX0_unfold_26 : decode cX0_unfold 26 = .ok (.aload_n 0, 1) := by decide +kernel
theorem dX0_unfold_27 : decode cX0_unfold 27 = .ok (.aload_n 1, 1) := by decide +kernel
theorem dX0_unfold_28 : decode cX0_unfold 28 = .ok (.invokevirtual 73, 3) := by decide +kernel
theorem dX0_unfold_31 : decode cX0_unfold 31 = .ok (.istore_n 2, 1) := by decide +kernel
theorem dX0_unfold_32 : decode cX0_unfold 32 = .ok (.iload_n 2, 1) := by decide +kernel
theorem dX0_unfold_33 : decode cX0_unfold 33 = .ok (.ireturn, 1) := by decide +kernel
set_option maxRecDepth 20000 in
theorem ggX0_unfoldHead_X0_pairAt : GoodIn wsX0_unfoldHead wsX0_pairAt := goodIn_r _ [9, 10, 11, 12, 8, 13, 14, 18, 19] (by decide +kernel) (by decide +kernel)
set_option maxRecDepth 20000 in
theorem gX0_unfoldHead_X0_pairAt : GoodIn wsX0_unfoldHead (wsV RX0 76 RX0 yX0_pairAt wsX0_pairAt) := goodIn_app (goodIn_of _ (by decide +kernel)) ggX0_unfoldHead_X0_pairAt
set_option maxRecDepth 20000 in
theorem ggX0_unfoldHead_X3_isSize : GoodIn wsX0_unfoldHead wsX3_isSize := goodIn_r _ [17] (by decide +kernel) (by decide +kernel)
set_option maxRecDepth 20000 in
theorem gX0_unfoldHead_X3_isSize_n79 : GoodIn wsX0_unfoldHead (wsX3_isSize) := ggX0_unfoldHead_X3_isSize
theorem dX0_unfoldHead_0 : decode cX0_unfoldHead 0 = .ok (.aload_n 0, 1) := by decide +kernel
theorem dX0_unfoldHead_1 : decode cX0_unfoldHead 1 = .ok (.getfield 15, 3) := by decide +kernel
theorem dX0_unfoldHead_4 : decode cX0_unfoldHead 4 = .ok (.iconst 2, 1) := by decide +kernel
theorem dX0_unfoldHead_5 : decode cX0_unfoldHead 5 = .ok (.if_icmp .ge 8, 3) := by decide +kernel
theorem dX0_unfoldHead_8 : decode cX0_unfoldHead 8 = .ok (.aload_n 0, 1) := by decide +kernel
theorem dX0_unfoldHead_9 : decode cX0_unfoldHead 9 = .ok (.getfield 15, 3) := by decide +kernel
theorem dX0_unfoldHead_12 : decode cX0_unfoldHead 12 = .ok (.ireturn, 1) := by decide +kernel
theorem dX0_unfoldHead_13 : decode cX0_unfoldHead 13 = .ok (.aload_n 0, 1) := by decide +kernel
theorem dX0_unfoldHead_14 : decode cX0_unfoldHead 14 = .ok (.iconst 0, 1) := by decide +kernel
theorem dX0_unfoldHead_15 : decode cX0_unfoldHead 15 = .ok (.invokevirtual 76, 3) := by decide +kernel
theorem dX0_unfoldHead_18 : decode cX0_unfoldHead 18 = .ok (.istore_n 2, 1) := by decide +kernel
theorem dX0_unfoldHead_19 : decode cX0_unfoldHead 19 = .ok (.iload_n 2, 1) := by decide +kernel
theorem dX0_unfoldHead_20 : decode cX0_unfoldHead 20 = .ok (.invokestatic 79, 3) := by decide +kernel
theorem dX0_unfoldHead_23 : decode cX0_unfoldHead 23 = .ok (.ifCond .ne 5, 3) := by decide +kernel
theorem dX0_unfoldHead_26 : decode cX0_unfoldHead 26 = .ok (.iconst 0, 1) := by decide +kernel
theorem dX0_unfoldHead_27 : decode cX0_unfoldHead 27 = .ok (.ireturn, 1) := by decide +kernel
theorem dX0_unfoldHead_28 : decode cX0_unfoldHead 28 = .ok (.aload_n 0, 1) := by decide +kernel
theorem dX0_unfoldHead_29 : decode cX0_unfoldHead 29 = .ok (.getfield 15, 3) := by decide +kernel
theorem dX0_unfoldHead_32 : decode cX0_unfoldHead 32 = .ok (.iconst 4, 1) := by decide +kernel
theorem dX0_unfoldHead_33 : decode cX0_unfoldHead 33 = .ok (.if_icmp .ge 8, 3) := by decide +kernel
theorem dX0_unfoldHead_36 : decode cX0_unfoldHead 36 = .ok (.aload_n 0, 1) := by decide +kernel
theorem dX0_unfoldHead_37 : decode cX0_unfoldHead 37 = .ok (.getfield 15, 3) := by decide +kernel
theorem dX0_unfoldHead_40 : decode cX0_unfoldHead 40 = .ok (.ireturn, 1) := by decide +kernel
theorem dX0_unfoldHead_41 : decode cX0_unfoldHead 41 = .ok (.aload_n 0, 1) := by decide +kernel
theorem dX0_unfoldHead_42 : decode cX0_unfoldHead 42 = .ok (.iconst 2, 1) := by decide +kernel
theorem dX0_unfoldHead_43 : decode cX0_unfoldHead 43 = .ok (.invokevirtual 76, 3) := by decide +kernel
theorem dX0_unfoldHead_46 : decode cX0_unfoldHead 46 = .ok (.istore_n 3, 1) := by decide +kernel
theorem dX0_unfoldHead_47 : decode cX0_unfoldHead 47 = .ok (.iload_n 3, 1) := by decide +kernel
theorem dX0_unfoldHead_48 : decode cX0_unfoldHead 48 = .ok (.ifCond .eq 17, 3) := by decide +kernel
theorem dX0_unfoldHead_51 : decode cX0_unfoldHead 51 = .ok (.iload_n 3, 1) := by decide +kernel
theorem dX0_unfoldHead_52 : decode cX0_unfoldHead 52 = .ok (.invokestatic 79, 3) := by decide +kernel
theorem dX0_unfoldHead_55 : decode cX0_unfoldHead 55 = .ok (.ifCond .eq 8, 3) := by decide +kernel
theorem dX0_unfoldHead_58 : decode cX0_unfoldHead 58 = .ok (.iload_n 3, 1) := by decide +kernel
theorem dX0_unfoldHead_59 : decode cX0_unfoldHead 59 = .ok (.iload_n 2, 1) := by decide +kernel
theorem dX0_unfoldHead_60 : decode cX0_unfoldHead 60 = .ok (.if_icmp .lt 5, 3) := by decide +kernel
theorem dX0_unfoldHead_63 : decode cX0_unfoldHead 63 = .ok (.iconst 2, 1) := by decide +kernel
theorem dX0_unfoldHead_64 : decode cX0_unfoldHead 64 = .ok (.ireturn, 1) := by decide +kernel
theorem dX0_unfoldHead_65 : decode cX0_unfoldHead 65 = .ok (.aload_n 0, 1) := by decide +kernel
theorem dX0_unfoldHead_66 : decode cX0_unfoldHead 66 = .ok (.getfield 15, 3) := by decide +kernel
theorem dX0_unfoldHead_69 : decode cX0_unfoldHead 69 = .ok (.bipush 6, 2) := by decide +kernel
theorem dX0_unfoldHead_71 : decode cX0_unfoldHead 71 = .ok (.if_icmp .ge 8, 3) := by decide +kernel
theorem dX0_unfoldHead_74 : decode cX0_unfoldHead 74 = .ok (.aload_n 0, 1) := by decide +kernel
theorem dX0_unfoldHead_75 : decode cX0_unfoldHead 75 = .ok (.getfield 15, 3) := by decide +kernel
theorem dX0_unfoldHead_78 : decode cX0_unfoldHead 78 = .ok (.ireturn, 1) := by decide +kernel
theorem dX0_unfoldHead_79 : decode cX0_unfoldHead 79 = .ok (.aload_n 0, 1) := by decide +kernel
theorem dX0_unfoldHead_80 : decode cX0_unfoldHead 80 = .ok (.iconst 4, 1) := by decide +kernel
theorem dX0_unfoldHead_81 : decode cX0_unfoldHead 81 = .ok (.invokevirtual 76, 3) := by decide +kernel
theorem dX0_unfoldHead_84 : decode cX0_unfoldHead 84 = .ok (.istore 4, 2) := by decide +kernel
theorem dX0_unfoldHead_86 : decode cX0_unfoldHead 86 = .ok (.iload 4, 2) := by decide +kernel
theorem dX0_unfoldHead_88 : decode cX0_unfoldHead 88 = .ok (.bipush 64, 2) := by decide +kernel
theorem dX0_unfoldHead_90 : decode cX0_unfoldHead 90 = .ok (.if_icmp .gt 25, 3) := by decide +kernel
theorem dX0_unfoldHead_93 : decode cX0_unfoldHead 93 = .ok (.iload 4, 2) := by decide +kernel
theorem dX0_unfoldHead_95 : decode cX0_unfoldHead 95 = .ok (.ifCond .ne 7, 3) := by decide +kernel
theorem dX0_unfoldHead_98 : decode cX0_unfoldHead 98 = .ok (.iconst 1, 1) := by decide +kernel
theorem dX0_unfoldHead_99 : decode cX0_unfoldHead 99 = .ok (.goto 4, 3) := by decide +kernel
theorem dX0_unfoldHead_102 : decode cX0_unfoldHead 102 = .ok (.iconst 0, 1) := by decide +kernel
theorem dX0_unfoldHead_103 : decode cX0_unfoldHead 103 = .ok (.iload_n 3, 1) := by decide +kernel
theorem dX0_unfoldHead_104 : decode cX0_unfoldHead 104 = .ok (.ifCond .ne 7, 3) := by decide +kernel
theorem dX0_unfoldHead_107 : decode cX0_unfoldHead 107 = .ok (.iconst 1, 1) := by decide +kernel
theorem dX0_unfoldHead_108 : decode cX0_unfoldHead 108 = .ok (.goto 4, 3) := by decide +kernel
theorem dX0_unfoldHead_111 : decode cX0_unfoldHead 111 = .ok (.iconst 0, 1) := by decide +kernel
theorem dX0_unfoldHead_112 : decode cX0_unfoldHead 112 = .ok (.if_icmp .eq 5, 3) := by decide +kernel
theorem dX0_unfoldHead_115 : decode cX0_unfoldHead 115 = .ok (.iconst 4, 1) := by decide +kernel
theorem dX0_unfoldHead_116 : decode cX0_unfoldHead 116 = .ok (.ireturn, 1) := by decide +kernel
theorem dX0_unfoldHead_117 : decode cX0_unfoldHead 117 = .ok (.aload_n 1, 1) := by decide +kernel
theorem dX0_unfoldHead_118 : decode cX0_unfoldHead 118 = .ok (.iload_n 2, 1) := by decide +kernel
theorem dX0_unfoldHead_119 : decode cX0_unfoldHead 119 = .ok (.putfield 27, 3) := by decide +kernel
theorem dX0_unfoldHead_122 : decode cX0_unfoldHead 122 = .ok (.aload_n 1, 1) := by decide +kernel
theorem dX0_unfoldHead_123 : decode cX0_unfoldHead 123 = .ok (.iload_n 3, 1) := by decide +kernel
theorem dX0_unfoldHead_124 : decode cX0_unfoldHead 124 = .ok (.putfield 35, 3) := by decide +kernel
theorem dX0_unfoldHead_127 : decode cX0_unfoldHead 127 = .ok (.aload_n 1, 1) := by decide +kernel
theorem dX0_unfoldHead_128 : decode cX0_unfoldHead 128 = .ok (.iload 4, 2) := by decide +kernel
theorem dX0_unfoldHead_130 : decode cX0_unfoldHead 130 = .ok (.putfield 38, 3) := by decide +kernel
theorem dX0_unfoldHead_133 : decode cX0_unfoldHead 133 = .ok (.iconst (-1), 1) := by decide +kernel
theorem dX0_unfoldHead_134 : decode cX0_unfoldHead 134 = .ok (.ireturn, 1) := by decide +kernel
set_option maxRecDepth 20000 in
theorem ggX0_unfoldBlocks_X0_pairAt : GoodIn wsX0_unfoldBlocks wsX0_pairAt := goodIn_r _ [11, 12, 13, 14, 10, 15, 16, 23, 24] (by decide +kernel) (by decide +kernel)
set_option maxRecDepth 20000 in
theorem gX0_unfoldBlocks_X0_pairAt : GoodIn wsX0_unfoldBlocks (wsV RX0 76 RX0 yX0_pairAt wsX0_pairAt) := goodIn_app (goodIn_of _ (by decide +kernel)) ggX0_unfoldBlocks_X0_pairAt
theorem dX0_unfoldBlocks_0 : decode cX0_unfoldBlocks 0 = .ok (.aload_n 1, 1) := by decide +kernel
theorem dX0_unfoldBlocks_1 : decode cX0_unfoldBlocks 1 = .ok (.getfield 35, 3) := by decide +kernel
theorem dX0_unfoldBlocks_4 : decode cX0_unfoldBlocks 4 = .ok (.istore_n 2, 1) := by decide +kernel
theorem dX0_unfoldBlocks_5 : decode cX0_unfoldBlocks 5 = .ok (.iconst 0, 1) := by decide +kernel
theorem dX0_unfoldBlocks_6 : decode cX0_unfoldBlocks 6 = .ok (.istore_n 3, 1) := by decide +kernel
theorem dX0_unfoldBlocks_7 : decode cX0_unfoldBlocks 7 = .ok (.iload_n 3, 1) := by decide +kernel
theorem dX0_unfoldBlocks_8 : decode cX0_unfoldBlocks 8 = .ok (.aload_n 1, 1) := by decide +kernel
theorem dX0_unfoldBlocks_9 : decode cX0_unfoldBlocks 9 = .ok (.getfield 38, 3) := by decide +kernel
theorem dX0_unfoldBlocks_12 : decode cX0_unfoldBlocks 12 = .ok (.if_icmp .ge 120, 3) := by decide +kernel
theorem dX0_unfoldBlocks_15 : decode cX0_unfoldBlocks 15 = .ok (.bipush 6, 2) := by decide +kernel
theorem dX0_unfoldBlocks_17 : decode cX0_unfoldBlocks 17 = .ok (.iconst 4, 1) := by decide +kernel
theorem dX0_unfoldBlocks_18 : decode cX0_unfoldBlocks 18 = .ok (.iload_n 3, 1) := by decide +kernel
theorem dX0_unfoldBlocks_19 : decode cX0_unfoldBlocks 19 = .ok (.imul, 1) := by decide +kernel
theorem dX0_unfoldBlocks_20 : decode cX0_unfoldBlocks 20 = .ok (.iadd, 1) := by decide +kernel
theorem dX0_unfoldBlocks_21 : decode cX0_unfoldBlocks 21 = .ok (.istore 4, 2) := by decide +kernel
theorem dX0_unfoldBlocks_23 : decode cX0_unfoldBlocks 23 = .ok (.aload_n 0, 1) := by decide +kernel
theorem dX0_unfoldBlocks_24 : decode cX0_unfoldBlocks 24 = .ok (.getfield 15, 3) := by decide +kernel
theorem dX0_unfoldBlocks_27 : decode cX0_unfoldBlocks 27 = .ok (.iload 4, 2) := by decide +kernel
theorem dX0_unfoldBlocks_29 : decode cX0_unfoldBlocks 29 = .ok (.iconst 2, 1) := by decide +kernel
theorem dX0_unfoldBlocks_30 : decode cX0_unfoldBlocks 30 = .ok (.iadd, 1) := by decide +kernel
theorem dX0_unfoldBlocks_31 : decode cX0_unfoldBlocks 31 = .ok (.if_icmp .ge 8, 3) := by decide +kernel
theorem dX0_unfoldBlocks_34 : decode cX0_unfoldBlocks 34 = .ok (.aload_n 0, 1) := by decide +kernel
theorem dX0_unfoldBlocks_35 : decode cX0_unfoldBlocks 35 = .ok (.getfield 15, 3) := by decide +kernel
theorem dX0_unfoldBlocks_38 : decode cX0_unfoldBlocks 38 = .ok (.ireturn, 1) := by decide +kernel
theorem dX0_unfoldBlocks_39 : decode cX0_unfoldBlocks 39 = .ok (.aload_n 0, 1) := by decide +kernel
theorem dX0_unfoldBlocks_40 : decode cX0_unfoldBlocks 40 = .ok (.iload 4, 2) := by decide +kernel
theorem dX0_unfoldBlocks_42 : decode cX0_unfoldBlocks 42 = .ok (.invokevirtual 76, 3) := by decide +kernel
theorem dX0_unfoldBlocks_45 : decode cX0_unfoldBlocks 45 = .ok (.istore 5, 2) := by decide +kernel
theorem dX0_unfoldBlocks_47 : decode cX0_unfoldBlocks 47 = .ok (.iload 5, 2) := by decide +kernel
theorem dX0_unfoldBlocks_49 : decode cX0_unfoldBlocks 49 = .ok (.iload_n 2, 1) := by decide +kernel
theorem dX0_unfoldBlocks_50 : decode cX0_unfoldBlocks 50 = .ok (.if_icmp .ge 6, 3) := by decide +kernel
theorem dX0_unfoldBlocks_53 : decode cX0_unfoldBlocks 53 = .ok (.iload 4, 2) := by decide +kernel
theorem dX0_unfoldBlocks_55 : decode cX0_unfoldBlocks 55 = .ok (.ireturn, 1) := by decide +kernel
theorem dX0_unfoldBlocks_56 : decode cX0_unfoldBlocks 56 = .ok (.aload_n 0, 1) := by decide +kernel
theorem dX0_unfoldBlocks_57 : decode cX0_unfoldBlocks 57 = .ok (.getfield 15, 3) := by decide +kernel
theorem dX0_unfoldBlocks_60 : decode cX0_unfoldBlocks 60 = .ok (.iload 4, 2) := by decide +kernel
theorem dX0_unfoldBlocks_62 : decode cX0_unfoldBlocks 62 = .ok (.iconst 4, 1) := by decide +kernel
theorem dX0_unfoldBlocks_63 : decode cX0_unfoldBlocks 63 = .ok (.iadd, 1) := by decide +kernel
theorem dX0_unfoldBlocks_64 : decode cX0_unfoldBlocks 64 = .ok (.if_icmp .ge 8, 3) := by decide +kernel
theorem dX0_unfoldBlocks_67 : decode cX0_unfoldBlocks 67 = .ok (.aload_n 0, 1) := by decide +kernel
theorem dX0_unfoldBlocks_68 : decode cX0_unfoldBlocks 68 = .ok (.getfield 15, 3) := by decide +kernel
theorem dX0_unfoldBlocks_71 : decode cX0_unfoldBlocks 71 = .ok (.ireturn, 1) := by decide +kernel
theorem dX0_unfoldBlocks_72 : decode cX0_unfoldBlocks 72 = .ok (.aload_n 0, 1) := by decide +kernel
theorem dX0_unfoldBlocks_73 : decode cX0_unfoldBlocks 73 = .ok (.iload 4, 2) := by decide +kernel
theorem dX0_unfoldBlocks_75 : decode cX0_unfoldBlocks 75 = .ok (.iconst 2, 1) := by decide +kernel
theorem dX0_unfoldBlocks_76 : decode cX0_unfoldBlocks 76 = .ok (.iadd, 1) := by decide +kernel
theorem dX0_unfoldBlocks_77 : decode cX0_unfoldBlocks 77 = .ok (.invokevirtual 76, 3) := by decide +kernel
theorem dX0_unfoldBlocks_80 : decode cX0_unfoldBlocks 80 = .ok (.istore 6, 2) := by decide +kernel
theorem dX0_unfoldBlocks_82 : decode cX0_unfoldBlocks 82 = .ok (.iload 6, 2) := by decide +kernel
theorem dX0_unfoldBlocks_84 : decode cX0_unfoldBlocks 84 = .ok (.ifCond .eq 15, 3) := by decide +kernel
theorem dX0_unfoldBlocks_87 : decode cX0_unfoldBlocks 87 = .ok (.iload 5, 2) := by decide +kernel
theorem dX0_unfoldBlocks_89 : decode cX0_unfoldBlocks 89 = .ok (.iload 6, 2) := by decide +kernel
theorem dX0_unfoldBlocks_91 : decode cX0_unfoldBlocks 91 = .ok (.iadd, 1) := by decide +kernel
theorem dX0_unfoldBlocks_92 : decode cX0_unfoldBlocks 92 = .ok (.aload_n 1, 1) := by decide +kernel
theorem dX0_unfoldBlocks_93 : decode cX0_unfoldBlocks 93 = .ok (.getfield 27, 3) := by decide +kernel
theorem dX0_unfoldBlocks_96 : decode cX0_unfoldBlocks 96 = .ok (.if_icmp .le 8, 3) := by decide +kernel
theorem dX0_unfoldBlocks_99 : decode cX0_unfoldBlocks 99 = .ok (.iload 4, 2) := by decide +kernel
theorem dX0_unfoldBlocks_101 : decode cX0_unfoldBlocks 101 = .ok (.iconst 2, 1) := by decide +kernel
theorem dX0_unfoldBlocks_102 : decode cX0_unfoldBlocks 102 = .ok (.iadd, 1) := by decide +kernel
theorem dX0_unfoldBlocks_103 : decode cX0_unfoldBlocks 103 = .ok (.ireturn, 1) := by decide +kernel
theorem dX0_unfoldBlocks_104 : decode cX0_unfoldBlocks 104 = .ok (.aload_n 1, 1) := by decide +kernel
theorem dX0_unfoldBlocks_105 : decode cX0_unfoldBlocks 105 = .ok (.getfield 41, 3) := by decide +kernel
theorem dX0_unfoldBlocks_108 : decode cX0_unfoldBlocks 108 = .ok (.iload_n 3, 1) := by decide +kernel
theorem dX0_unfoldBlocks_109 : decode cX0_unfoldBlocks 109 = .ok (.iload 5, 2) := by decide +kernel
theorem dX0_unfoldBlocks_111 : decode cX0_unfoldBlocks 111 = .ok (.iastore, 1) := by decide +kernel
theorem dX0_unfoldBlocks_112 : decode cX0_unfoldBlocks 112 = .ok (.aload_n 1, 1) := by decide +kernel
theorem dX0_unfoldBlocks_113 : decode cX0_unfoldBlocks 113 = .ok (.getfield 45, 3) := by decide +kernel
theorem dX0_unfoldBlocks_116 : decode cX0_unfoldBlocks 116 = .ok (.iload_n 3, 1) := by decide +kernel
theorem dX0_unfoldBlocks_117 : decode cX0_unfoldBlocks 117 = .ok (.iload 6, 2) := by decide +kernel
theorem dX0_unfoldBlocks_119 : decode cX0_unfoldBlocks 119 = .ok (.iastore, 1) := by decide +kernel
theorem dX0_unfoldBlocks_120 : decode cX0_unfoldBlocks 120 = .ok (.iload 5, 2) := by decide +kernel
theorem dX0_unfoldBlocks_122 : decode cX0_unfoldBlocks 122 = .ok (.iload 6, 2) := by decide +kernel
theorem dX0_unfoldBlocks_124 : decode cX0_unfoldBlocks 124 = .ok (.iadd, 1) := by decide +kernel
theorem dX0_unfoldBlocks_125 : decode cX0_unfoldBlocks 125 = .ok (.istore_n 2, 1) := by decide +kernel
theorem dX0_unfoldBlocks_126 : decode cX0_unfoldBlocks 126 = .ok (.iinc 3 1, 3) := by decide +kernel
theorem dX0_unfoldBlocks_129 : decode cX0_unfoldBlocks 129 = .ok (.goto (-122), 3) := by decide +kernel
theorem dX0_unfoldBlocks_132 : decode cX0_unfoldBlocks 132 = .ok (.iconst (-1), 1) := by decide +kernel
theorem dX0_unfoldBlocks_133 : decode cX0_unfoldBlocks 133 = .ok (.ireturn, 1) := by decide +kernel
set_option maxRecDepth 20000 in
theorem ggX0_unfoldBytes_X0_byteAt : GoodIn wsX0_unfoldBytes wsX0_byteAt := goodIn_r _ [9, 10, 17, 18] (by decide +kernel) (by decide +kernel)
set_option maxRecDepth 20000 in
theorem gX0_unfoldBytes_X0_byteAt : GoodIn wsX0_unfoldBytes (wsV RX0 19 RX0 yX0_byteAt wsX0_byteAt) := goodIn_app (goodIn_of _ (by decide +kernel)) ggX0_unfoldBytes_X0_byteAt
theorem dX0_unfoldBytes_0 : decode cX0_unfoldBytes 0 = .ok (.bipush 6, 2) := by decide +kernel
theorem dX0_unfoldBytes_2 : decode cX0_unfoldBytes 2 = .ok (.iconst 4, 1) := by decide +kernel
theorem dX0_unfoldBytes_3 : decode cX0_unfoldBytes 3 = .ok (.aload_n 1, 1) := by decide +kernel
theorem dX0_unfoldBytes_4 : decode cX0_unfoldBytes 4 = .ok (.getfield 38, 3) := by decide +kernel
theorem dX0_unfoldBytes_7 : decode cX0_unfoldBytes 7 = .ok (.imul, 1) := by decide +kernel
theorem dX0_unfoldBytes_8 : decode cX0_unfoldBytes 8 = .ok (.iadd, 1) := by decide +kernel
theorem dX0_unfoldBytes_9 : decode cX0_unfoldBytes 9 = .ok (.istore_n 2, 1) := by decide +kernel
theorem dX0_unfoldBytes_10 : decode cX0_unfoldBytes 10 = .ok (.iconst 0, 1) := by decide +kernel
theorem dX0_unfoldBytes_11 : decode cX0_unfoldBytes 11 = .ok (.istore_n 3, 1) := by decide +kernel
theorem dX0_unfoldBytes_12 : decode cX0_unfoldBytes 12 = .ok (.iload_n 2, 1) := by decide +kernel
theorem dX0_unfoldBytes_13 : decode cX0_unfoldBytes 13 = .ok (.aload_n 0, 1) := by decide +kernel
theorem dX0_unfoldBytes_14 : decode cX0_unfoldBytes 14 = .ok (.getfield 15, 3) := by decide +kernel
theorem dX0_unfoldBytes_17 : decode cX0_unfoldBytes 17 = .ok (.if_icmp .ge 104, 3) := by decide +kernel
theorem dX0_unfoldBytes_20 : decode cX0_unfoldBytes 20 = .ok (.iload_n 3, 1) := by decide +kernel
theorem dX0_unfoldBytes_21 : decode cX0_unfoldBytes 21 = .ok (.aload_n 1, 1) := by decide +kernel
theorem dX0_unfoldBytes_22 : decode cX0_unfoldBytes 22 = .ok (.getfield 27, 3) := by decide +kernel
theorem dX0_unfoldBytes_25 : decode cX0_unfoldBytes 25 = .ok (.if_icmp .lt 5, 3) := by decide +kernel
theorem dX0_unfoldBytes_28 : decode cX0_unfoldBytes 28 = .ok (.iload_n 2, 1) := by decide +kernel
theorem dX0_unfoldBytes_29 : decode cX0_unfoldBytes 29 = .ok (.ireturn, 1) := by decide +kernel
theorem dX0_unfoldBytes_30 : decode cX0_unfoldBytes 30 = .ok (.aload_n 0, 1) := by decide +kernel
theorem dX0_unfoldBytes_31 : decode cX0_unfoldBytes 31 = .ok (.iload_n 2, 1) := by decide +kernel
theorem dX0_unfoldBytes_32 : decode cX0_unfoldBytes 32 = .ok (.invokevirtual 19, 3) := by decide +kernel
theorem dX0_unfoldBytes_35 : decode cX0_unfoldBytes 35 = .ok (.istore 4, 2) := by decide +kernel
theorem dX0_unfoldBytes_37 : decode cX0_unfoldBytes 37 = .ok (.iload 4, 2) := by decide +kernel
theorem dX0_unfoldBytes_39 : decode cX0_unfoldBytes 39 = .ok (.ifCond .eq 29, 3) := by decide +kernel
theorem dX0_unfoldBytes_42 : decode cX0_unfoldBytes 42 = .ok (.iload_n 3, 1) := by decide +kernel
theorem dX0_unfoldBytes_43 : decode cX0_unfoldBytes 43 = .ok (.bipush 64, 2) := by decide +kernel
theorem dX0_unfoldBytes_45 : decode cX0_unfoldBytes 45 = .ok (.if_icmp .ge 5, 3) := by decide +kernel
theorem dX0_unfoldBytes_48 : decode cX0_unfoldBytes 48 = .ok (.iload_n 2, 1) := by decide +kernel
theorem dX0_unfoldBytes_49 : decode cX0_unfoldBytes 49 = .ok (.ireturn, 1) := by decide +kernel
theorem dX0_unfoldBytes_50 : decode cX0_unfoldBytes 50 = .ok (.aload_n 1, 1) := by decide +kernel
theorem dX0_unfoldBytes_51 : decode cX0_unfoldBytes 51 = .ok (.getfield 83, 3) := by decide +kernel
theorem dX0_unfoldBytes_54 : decode cX0_unfoldBytes 54 = .ok (.iload_n 3, 1) := by decide +kernel
theorem dX0_unfoldBytes_55 : decode cX0_unfoldBytes 55 = .ok (.iload 4, 2) := by decide +kernel
theorem dX0_unfoldBytes_57 : decode cX0_unfoldBytes 57 = .ok (.i2b, 1) := by decide +kernel
theorem dX0_unfoldBytes_58 : decode cX0_unfoldBytes 58 = .ok (.bastore, 1) := by decide +kernel
theorem dX0_unfoldBytes_59 : decode cX0_unfoldBytes 59 = .ok (.iinc 3 1, 3) := by decide +kernel
theorem dX0_unfoldBytes_62 : decode cX0_unfoldBytes 62 = .ok (.iinc 2 1, 3) := by decide +kernel
theorem dX0_unfoldBytes_65 : decode cX0_unfoldBytes 65 = .ok (.goto (-53), 3) := by decide +kernel
theorem dX0_unfoldBytes_68 : decode cX0_unfoldBytes 68 = .ok (.iload_n 2, 1) := by decide +kernel
theorem dX0_unfoldBytes_69 : decode cX0_unfoldBytes 69 = .ok (.iconst 1, 1) := by decide +kernel
theorem dX0_unfoldBytes_70 : decode cX0_unfoldBytes 70 = .ok (.iadd, 1) := by decide +kernel
theorem dX0_unfoldBytes_71 : decode cX0_unfoldBytes 71 = .ok (.aload_n 0, 1) := by decide +kernel
theorem dX0_unfoldBytes_72 : decode cX0_unfoldBytes 72 = .ok (.getfield 15, 3) := by decide +kernel
theorem dX0_unfoldBytes_75 : decode cX0_unfoldBytes 75 = .ok (.if_icmp .lt 8, 3) := by decide +kernel
theorem dX0_unfoldBytes_78 : decode cX0_unfoldBytes 78 = .ok (.aload_n 0, 1) := by decide +kernel
theorem dX0_unfoldBytes_79 : decode cX0_unfoldBytes 79 = .ok (.getfield 15, 3) := by decide +kernel
theorem dX0_unfoldBytes_82 : decode cX0_unfoldBytes 82 = .ok (.ireturn, 1) := by decide +kernel
theorem dX0_unfoldBytes_83 : decode cX0_unfoldBytes 83 = .ok (.iload_n 3, 1) := by decide +kernel
theorem dX0_unfoldBytes_84 : decode cX0_unfoldBytes 84 = .ok (.aload_n 0, 1) := by decide +kernel
theorem dX0_unfoldBytes_85 : decode cX0_unfoldBytes 85 = .ok (.iload_n 2, 1) := by decide +kernel
theorem dX0_unfoldBytes_86 : decode cX0_unfoldBytes 86 = .ok (.iconst 1, 1) := by decide +kernel
theorem dX0_unfoldBytes_87 : decode cX0_unfoldBytes 87 = .ok (.iadd, 1) := by decide +kernel
theorem dX0_unfoldBytes_88 : decode cX0_unfoldBytes 88 = .ok (.invokevirtual 19, 3) := by decide +kernel
theorem dX0_unfoldBytes_91 : decode cX0_unfoldBytes 91 = .ok (.iconst 1, 1) := by decide +kernel
theorem dX0_unfoldBytes_92 : decode cX0_unfoldBytes 92 = .ok (.iadd, 1) := by decide +kernel
theorem dX0_unfoldBytes_93 : decode cX0_unfoldBytes 93 = .ok (.iadd, 1) := by decide +kernel
theorem dX0_unfoldBytes_94 : decode cX0_unfoldBytes 94 = .ok (.istore_n 3, 1) := by decide +kernel
theorem dX0_unfoldBytes_95 : decode cX0_unfoldBytes 95 = .ok (.iload_n 3, 1) := by decide +kernel
theorem dX0_unfoldBytes_96 : decode cX0_unfoldBytes 96 = .ok (.aload_n 1, 1) := by decide +kernel
theorem dX0_unfoldBytes_97 : decode cX0_unfoldBytes 97 = .ok (.getfield 27, 3) := by decide +kernel
theorem dX0_unfoldBytes_100 : decode cX0_unfoldBytes 100 = .ok (.if_icmp .gt 13, 3) := by decide +kernel
theorem dX0_unfoldBytes_103 : decode cX0_unfoldBytes 103 = .ok (.iload_n 2, 1) := by decide +kernel
theorem dX0_unfoldBytes_104 : decode cX0_unfoldBytes 104 = .ok (.iconst 2, 1) := by decide +kernel
theorem dX0_unfoldBytes_105 : decode cX0_unfoldBytes 105 = .ok (.iadd, 1) := by decide +kernel
theorem dX0_unfoldBytes_106 : decode cX0_unfoldBytes 106 = .ok (.aload_n 0, 1) := by decide +kernel
theorem dX0_unfoldBytes_107 : decode cX0_unfoldBytes 107 = .ok (.getfield 15, 3) := by decide +kernel
theorem dX0_unfoldBytes_110 : decode cX0_unfoldBytes 110 = .ok (.if_icmp .lt 5, 3) := by decide +kernel
theorem dX0_unfoldBytes_113 : decode cX0_unfoldBytes 113 = .ok (.iload_n 2, 1) := by decide +kernel
theorem dX0_unfoldBytes_114 : decode cX0_unfoldBytes 114 = .ok (.ireturn, 1) := by decide +kernel
theorem dX0_unfoldBytes_115 : decode cX0_unfoldBytes 115 = .ok (.iinc 2 2, 3) := by decide +kernel
theorem dX0_unfoldBytes_118 : decode cX0_unfoldBytes 118 = .ok (.goto (-106), 3) := by decide +kernel
theorem dX0_unfoldBytes_121 : decode cX0_unfoldBytes 121 = .ok (.iconst (-1), 1) := by decide +kernel
theorem dX0_unfoldBytes_122 : decode cX0_unfoldBytes 122 = .ok (.ireturn, 1) := by decide +kernel
theorem dX1_init_0 : decode cX1_init 0 = .ok (.aload_n 0, 1) := by decide +kernel
theorem dX1_init_1 : decode cX1_init 1 = .ok (.invokespecial 3, 3) := by decide +kernel
theorem dX1_init_4 : decode cX1_init 4 = .ok (.aload_n 0, 1) := by decide +kernel
theorem dX1_init_5 : decode cX1_init 5 = .ok (.bipush 64, 2) := by decide +kernel
theorem dX1_init_7 : decode cX1_init 7 = .ok (.newarray .byte, 2) := by decide +kernel
theorem dX1_init_9 : decode cX1_init 9 = .ok (.putfield 9, 3) := by decide +kernel
theorem dX1_init_12 : decode cX1_init 12 = .ok (.return_, 1) := by decide +kernel
set_option maxRecDepth 20000 in
theorem ggX1_load_X2_has : GoodIn wsX1_load wsX2_has := goodIn_r _ [12, 13, 16, 17, 18, 19, 20, 21] (by decide +kernel) (by decide +kernel)
set_option maxRecDepth 20000 in
theorem gX1_load_X2_has : GoodIn wsX1_load (wsV RX1 19 RX2 yX2_has wsX2_has) := goodIn_app (goodIn_of _ (by decide +kernel)) ggX1_load_X2_has
theorem dX1_load_0 : decode cX1_load 0 = .ok (.aload_n 0, 1) := by decide +kernel
theorem dX1_load_1 : decode cX1_load 1 = .ok (.iload_n 3, 1) := by decide +kernel
theorem dX1_load_2 : decode cX1_load 2 = .ok (.putfield 15, 3) := by decide +kernel
theorem dX1_load_5 : decode cX1_load 5 = .ok (.iload 4, 2) := by decide +kernel
theorem dX1_load_7 : decode cX1_load 7 = .ok (.iconst 1, 1) := by decide +kernel
theorem dX1_load_8 : decode cX1_load 8 = .ok (.iand, 1) := by decide +kernel
theorem dX1_load_9 : decode cX1_load 9 = .ok (.ifCond .ne 39, 3) := by decide +kernel
theorem dX1_load_12 : decode cX1_load 12 = .ok (.iconst 0, 1) := by decide +kernel
theorem dX1_load_13 : decode cX1_load 13 = .ok (.istore 5, 2) := by decide +kernel
theorem dX1_load_15 : decode cX1_load 15 = .ok (.iload 5, 2) := by decide +kernel
theorem dX1_load_17 : decode cX1_load 17 = .ok (.iload_n 3, 1) := by decide +kernel
theorem dX1_load_18 : decode cX1_load 18 = .ok (.if_icmp .ge 28, 3) := by decide +kernel
theorem dX1_load_21 : decode cX1_load 21 = .ok (.aload_n 0, 1) := by decide +kernel
theorem dX1_load_22 : decode cX1_load 22 = .ok (.getfield 9, 3) := by decide +kernel
theorem dX1_load_25 : decode cX1_load 25 = .ok (.iload 5, 2) := by decide +kernel
theorem dX1_load_27 : decode cX1_load 27 = .ok (.iload_n 2, 1) := by decide +kernel
theorem dX1_load_28 : decode cX1_load 28 = .ok (.bipush 8, 2) := by decide +kernel
theorem dX1_load_30 : decode cX1_load 30 = .ok (.iload_n 3, 1) := by decide +kernel
theorem dX1_load_31 : decode cX1_load 31 = .ok (.iconst 1, 1) := by decide +kernel
theorem dX1_load_32 : decode cX1_load 32 = .ok (.isub, 1) := by decide +kernel
theorem dX1_load_33 : decode cX1_load 33 = .ok (.iload 5, 2) := by decide +kernel
theorem dX1_load_35 : decode cX1_load 35 = .ok (.isub, 1) := by decide +kernel
theorem dX1_load_36 : decode cX1_load 36 = .ok (.imul, 1) := by decide +kernel
theorem dX1_load_37 : decode cX1_load 37 = .ok (.iushr, 1) := by decide +kernel
theorem dX1_load_38 : decode cX1_load 38 = .ok (.i2b, 1) := by decide +kernel
theorem dX1_load_39 : decode cX1_load 39 = .ok (.bastore, 1) := by decide +kernel
theorem dX1_load_40 : decode cX1_load 40 = .ok (.iinc 5 1, 3) := by decide +kernel
theorem dX1_load_43 : decode cX1_load 43 = .ok (.goto (-28), 3) := by decide +kernel
theorem dX1_load_46 : decode cX1_load 46 = .ok (.iconst 1, 1) := by decide +kernel
theorem dX1_load_47 : decode cX1_load 47 = .ok (.ireturn, 1) := by decide +kernel
theorem dX1_load_48 : decode cX1_load 48 = .ok (.aload_n 1, 1) := by decide +kernel
theorem dX1_load_49 : decode cX1_load 49 = .ok (.iload_n 2, 1) := by decide +kernel
theorem dX1_load_50 : decode cX1_load 50 = .ok (.i2l, 1) := by decide +kernel
theorem dX1_load_51 : decode cX1_load 51 = .ok (.iload_n 3, 1) := by decide +kernel
theorem dX1_load_52 : decode cX1_load 52 = .ok (.invokevirtual 19, 3) := by decide +kernel
theorem dX1_load_55 : decode cX1_load 55 = .ok (.ifCond .ne 5, 3) := by decide +kernel
theorem dX1_load_58 : decode cX1_load 58 = .ok (.iconst 0, 1) := by decide +kernel
theorem dX1_load_59 : decode cX1_load 59 = .ok (.ireturn, 1) := by decide +kernel
theorem dX1_load_60 : decode cX1_load 60 = .ok (.aload_n 1, 1) := by decide +kernel
theorem dX1_load_61 : decode cX1_load 61 = .ok (.getfield 25, 3) := by decide +kernel
theorem dX1_load_64 : decode cX1_load 64 = .ok (.iload_n 2, 1) := by decide +kernel
theorem dX1_load_65 : decode cX1_load 65 = .ok (.aload_n 0, 1) := by decide +kernel
theorem dX1_load_66 : decode cX1_load 66 = .ok (.getfield 9, 3) := by decide +kernel
theorem dX1_load_69 : decode cX1_load 69 = .ok (.iconst 0, 1) := by decide +kernel
theorem dX1_load_70 : decode cX1_load 70 = .ok (.iload_n 3, 1) := by decide +kernel
theorem dX1_load_71 : decode cX1_load 71 = .ok (.invokestatic 26, 3) := by decide +kernel
theorem dX1_load_74 : decode cX1_load 74 = .ok (.iconst 1, 1) := by decide +kernel
theorem dX1_load_75 : decode cX1_load 75 = .ok (.ireturn, 1) := by decide +kernel
theorem dX1_orderOf_0 : decode cX1_orderOf 0 = .ok (.iconst 0, 1) := by decide +kernel
theorem dX1_orderOf_1 : decode cX1_orderOf 1 = .ok (.istore_n 3, 1) := by decide +kernel
theorem dX1_orderOf_2 : decode cX1_orderOf 2 = .ok (.iload_n 3, 1) := by decide +kernel
theorem dX1_orderOf_3 : decode cX1_orderOf 3 = .ok (.aload_n 0, 1) := by decide +kernel
theorem dX1_orderOf_4 : decode cX1_orderOf 4 = .ok (.getfield 15, 3) := by decide +kernel
theorem dX1_orderOf_7 : decode cX1_orderOf 7 = .ok (.if_icmp .ge 42, 3) := by decide +kernel
theorem dX1_orderOf_10 : decode cX1_orderOf 10 = .ok (.aload_n 1, 1) := by decide +kernel
theorem dX1_orderOf_11 : decode cX1_orderOf 11 = .ok (.getfield 25, 3) := by decide +kernel
theorem dX1_orderOf_14 : decode cX1_orderOf 14 = .ok (.iload_n 2, 1) := by decide +kernel
theorem dX1_orderOf_15 : decode cX1_orderOf 15 = .ok (.iload_n 3, 1) := by decide +kernel
theorem dX1_orderOf_16 : decode cX1_orderOf 16 = .ok (.iadd, 1) := by decide +kernel
theorem dX1_orderOf_17 : decode cX1_orderOf 17 = .ok (.baload, 1) := by decide +kernel
theorem dX1_orderOf_18 : decode cX1_orderOf 18 = .ok (.sipush 255, 3) := by decide +kernel
theorem dX1_orderOf_21 : decode cX1_orderOf 21 = .ok (.iand, 1) := by decide +kernel
theorem dX1_orderOf_22 : decode cX1_orderOf 22 = .ok (.aload_n 0, 1) := by decide +kernel
theorem dX1_orderOf_23 : decode cX1_orderOf 23 = .ok (.getfield 9, 3) := by decide +kernel
theorem dX1_orderOf_26 : decode cX1_orderOf 26 = .ok (.iload_n 3, 1) := by decide +kernel
theorem dX1_orderOf_27 : decode cX1_orderOf 27 = .ok (.baload, 1) := by decide +kernel
theorem dX1_orderOf_28 : decode cX1_orderOf 28 = .ok (.sipush 255, 3) := by decide +kernel
theorem dX1_orderOf_31 : decode cX1_orderOf 31 = .ok (.iand, 1) := by decide +kernel
theorem dX1_orderOf_32 : decode cX1_orderOf 32 = .ok (.isub, 1) := by decide +kernel
theorem dX1_orderOf_33 : decode cX1_orderOf 33 = .ok (.istore 4, 2) := by decide +kernel
theorem dX1_orderOf_35 : decode cX1_orderOf 35 = .ok (.iload 4, 2) := by decide +kernel
theorem dX1_orderOf_37 : decode cX1_orderOf 37 = .ok (.ifCond .eq 6, 3) := by decide +kernel
theorem dX1_orderOf_40 : decode cX1_orderOf 40 = .ok (.iload 4, 2) := by decide +kernel
theorem dX1_orderOf_42 : decode cX1_orderOf 42 = .ok (.ireturn, 1) := by decide +kernel
theorem dX1_orderOf_43 : decode cX1_orderOf 43 = .ok (.iinc 3 1, 3) := by decide +kernel
theorem dX1_orderOf_46 : decode cX1_orderOf 46 = .ok (.goto (-44), 3) := by decide +kernel
theorem dX1_orderOf_49 : decode cX1_orderOf 49 = .ok (.iconst 0, 1) := by decide +kernel
theorem dX1_orderOf_50 : decode cX1_orderOf 50 = .ok (.ireturn, 1) := by decide +kernel
theorem dX2_init_0 : decode cX2_init 0 = .ok (.aload_n 0, 1) := by decide +kernel
theorem dX2_init_1 : decode cX2_init 1 = .ok (.invokespecial 3, 3) := by decide +kernel
theorem dX2_init_4 : decode cX2_init 4 = .ok (.aload_n 0, 1) := by decide +kernel
theorem dX2_init_5 : decode cX2_init 5 = .ok (.sipush 8192, 3) := by decide +kernel
theorem dX2_init_8 : decode cX2_init 8 = .ok (.newarray .byte, 2) := by decide +kernel
theorem dX2_init_10 : decode cX2_init 10 = .ok (.putfield 9, 3) := by decide +kernel
theorem dX2_init_13 : decode cX2_init 13 = .ok (.aload_n 0, 1) := by decide +kernel
theorem dX2_init_14 : decode cX2_init 14 = .ok (.bipush 64, 2) := by decide +kernel
theorem dX2_init_16 : decode cX2_init 16 = .ok (.newarray .int, 2) := by decide +kernel
theorem dX2_init_18 : decode cX2_init 18 = .ok (.putfield 15, 3) := by decide +kernel
theorem dX2_init_21 : decode cX2_init 21 = .ok (.aload_n 0, 1) := by decide +kernel
theorem dX2_init_22 : decode cX2_init 22 = .ok (.bipush 64, 2) := by decide +kernel
theorem dX2_init_24 : decode cX2_init 24 = .ok (.newarray .int, 2) := by decide +kernel
theorem dX2_init_26 : decode cX2_init 26 = .ok (.putfield 19, 3) := by decide +kernel
theorem dX2_init_29 : decode cX2_init 29 = .ok (.return_, 1) := by decide +kernel
set_option maxRecDepth 20000 in
theorem ggX2_begin_J7_fill_031fb : GoodIn wsX2_begin wsJ7_fill_031fb := goodIn_r _ [8] (by decide +kernel) (by decide +kernel)
set_option maxRecDepth 20000 in
theorem gX2_begin_J7_fill_031fb : GoodIn wsX2_begin (va_wsS RX2 22 yJ7_fill_031fb wsJ7_fill_031fb) := goodIn_app (goodIn_of _ (by decide +kernel)) ggX2_begin_J7_fill_031fb
set_option maxRecDepth 20000 in
theorem ggX2_begin_X2_first : GoodIn wsX2_begin wsX2_first := goodIn_r _ [12] (by decide +kernel) (by decide +kernel)
set_option maxRecDepth 20000 in
theorem gX2_begin_X2_first : GoodIn wsX2_begin (va_wsS RX2 28 yX2_first wsX2_first) := goodIn_app (goodIn_of _ (by decide +kernel)) ggX2_begin_X2_first
theorem dX2_begin_0 : decode cX2_begin 0 = .ok (.aload_n 0, 1) := by decide +kernel
theorem dX2_begin_1 : decode cX2_begin 1 = .ok (.getfield 9, 3) := by decide +kernel
theorem dX2_begin_4 : decode cX2_begin 4 = .ok (.iconst 0, 1) := by decide +kernel
theorem dX2_begin_5 : decode cX2_begin 5 = .ok (.invokestatic 22, 3) := by decide +kernel
theorem dX2_begin_8 : decode cX2_begin 8 = .ok (.iconst 0, 1) := by decide +kernel
theorem dX2_begin_9 : decode cX2_begin 9 = .ok (.istore_n 1, 1) := by decide +kernel
theorem dX2_begin_10 : decode cX2_begin 10 = .ok (.iload_n 1, 1) := by decide +kernel
theorem dX2_begin_11 : decode cX2_begin 11 = .ok (.bipush 64, 2) := by decide +kernel
theorem dX2_begin_13 : decode cX2_begin 13 = .ok (.if_icmp .ge 20, 3) := by decide +kernel
theorem dX2_begin_16 : decode cX2_begin 16 = .ok (.aload_n 0, 1) := by decide +kernel
theorem dX2_begin_17 : decode cX2_begin 17 = .ok (.getfield 9, 3) := by decide +kernel
theorem dX2_begin_20 : decode cX2_begin 20 = .ok (.iload_n 1, 1) := by decide +kernel
theorem dX2_begin_21 : decode cX2_begin 21 = .ok (.iload_n 1, 1) := by decide +kernel
theorem dX2_begin_22 : decode cX2_begin 22 = .ok (.invokestatic 28, 3) := by decide +kernel
theorem dX2_begin_25 : decode cX2_begin 25 = .ok (.i2b, 1) := by decide +kernel
theorem dX2_begin_26 : decode cX2_begin 26 = .ok (.bastore, 1) := by decide +kernel
theorem dX2_begin_27 : decode cX2_begin 27 = .ok (.iinc 1 1, 3) := by decide +kernel
theorem dX2_begin_30 : decode cX2_begin 30 = .ok (.goto (-20), 3) := by decide +kernel
theorem dX2_begin_33 : decode cX2_begin 33 = .ok (.aload_n 0, 1) := by decide +kernel
theorem dX2_begin_34 : decode cX2_begin 34 = .ok (.sipush 1024, 3) := by decide +kernel
theorem dX2_begin_37 : decode cX2_begin 37 = .ok (.putfield 32, 3) := by decide +kernel
theorem dX2_begin_40 : decode cX2_begin 40 = .ok (.aload_n 0, 1) := by decide +kernel
theorem dX2_begin_41 : decode cX2_begin 41 = .ok (.iconst 0, 1) := by decide +kernel
theorem dX2_begin_42 : decode cX2_begin 42 = .ok (.putfield 36, 3) := by decide +kernel
theorem dX2_begin_45 : decode cX2_begin 45 = .ok (.aload_n 0, 1) := by decide +kernel
theorem dX2_begin_46 : decode cX2_begin 46 = .ok (.iconst 0, 1) := by decide +kernel
theorem dX2_begin_47 : decode cX2_begin 47 = .ok (.putfield 39, 3) := by decide +kernel
theorem dX2_begin_50 : decode cX2_begin 50 = .ok (.return_, 1) := by decide +kernel
theorem dX2_become_0 : decode cX2_become 0 = .ok (.aload_n 1, 1) := by decide +kernel
theorem dX2_become_1 : decode cX2_become 1 = .ok (.getfield 9, 3) := by decide +kernel
theorem dX2_become_4 : decode cX2_become 4 = .ok (.iconst 0, 1) := by decide +kernel
theorem dX2_become_5 : decode cX2_become 5 = .ok (.aload_n 0, 1) := by decide +kernel
theorem dX2_become_6 : decode cX2_become 6 = .ok (.getfield 9, 3) := by decide +kernel
theorem dX2_become_9 : decode cX2_become 9 = .ok (.iconst 0, 1) := by decide +kernel
theorem dX2_become_10 : decode cX2_become 10 = .ok (.sipush 8192, 3) := by decide +kernel
theorem dX2_become_13 : decode cX2_become 13 = .ok (.invokestatic 42, 3) := by decide +kernel
theorem dX2_become_16 : decode cX2_become 16 = .ok (.aload_n 1, 1) := by decide +kernel
theorem dX2_become_17 : decode cX2_become 17 = .ok (.getfield 15, 3) := by decide +kernel
theorem dX2_become_20 : decode cX2_become 20 = .ok (.iconst 0, 1) := by decide +kernel
theorem dX2_become_21 : decode cX2_become 21 = .ok (.aload_n 0, 1) := by decide +kernel
theorem dX2_become_22 : decode cX2_become 22 = .ok (.getfield 15, 3) := by decide +kernel
theorem dX2_become_25 : decode cX2_become 25 = .ok (.iconst 0, 1) := by decide +kernel
theorem dX2_become_26 : decode cX2_become 26 = .ok (.bipush 64, 2) := by decide +kernel
theorem dX2_become_28 : decode cX2_become 28 = .ok (.invokestatic 42, 3) := by decide +kernel
theorem dX2_become_31 : decode cX2_become 31 = .ok (.aload_n 1, 1) := by decide +kernel
theorem dX2_become_32 : decode cX2_become 32 = .ok (.getfield 19, 3) := by decide +kernel
theorem dX2_become_35 : decode cX2_become 35 = .ok (.iconst 0, 1) := by decide +kernel
theorem dX2_become_36 : decode cX2_become 36 = .ok (.aload_n 0, 1) := by decide +kernel
theorem dX2_become_37 : decode cX2_become 37 = .ok (.getfield 19, 3) := by decide +kernel
theorem dX2_become_40 : decode cX2_become 40 = .ok (.iconst 0, 1) := by decide +kernel
theorem dX2_become_41 : decode cX2_become 41 = .ok (.bipush 64, 2) := by decide +kernel
theorem dX2_become_43 : decode cX2_become 43 = .ok (.invokestatic 42, 3) := by decide +kernel
theorem dX2_become_46 : decode cX2_become 46 = .ok (.aload_n 0, 1) := by decide +kernel
theorem dX2_become_47 : decode cX2_become 47 = .ok (.aload_n 1, 1) := by decide +kernel
theorem dX2_become_48 : decode cX2_become 48 = .ok (.getfield 32, 3) := by decide +kernel
theorem dX2_become_51 : decode cX2_become 51 = .ok (.putfield 32, 3) := by decide +kernel
theorem dX2_become_54 : decode cX2_become 54 = .ok (.aload_n 0, 1) := by decide +kernel
theorem dX2_become_55 : decode cX2_become 55 = .ok (.aload_n 1, 1) := by decide +kernel
theorem dX2_become_56 : decode cX2_become 56 = .ok (.getfield 36, 3) := by decide +kernel
theorem dX2_become_59 : decode cX2_become 59 = .ok (.putfield 36, 3) := by decide +kernel
theorem dX2_become_62 : decode cX2_become 62 = .ok (.aload_n 0, 1) := by decide +kernel
theorem dX2_become_63 : decode cX2_become 63 = .ok (.aload_n 1, 1) := by decide +kernel
theorem dX2_become_64 : decode cX2_become 64 = .ok (.getfield 39, 3) := by decide +kernel
theorem dX2_become_67 : decode cX2_become 67 = .ok (.putfield 39, 3) := by decide +kernel
theorem dX2_become_70 : decode cX2_become 70 = .ok (.return_, 1) := by decide +kernel
theorem dX2_isLike_0 : decode cX2_isLike 0 = .ok (.aload_n 0, 1) := by decide +kernel
theorem dX2_isLike_1 : decode cX2_isLike 1 = .ok (.getfield 32, 3) := by decide +kernel
theorem dX2_isLike_4 : decode cX2_isLike 4 = .ok (.aload_n 1, 1) := by decide +kernel
theorem dX2_isLike_5 : decode cX2_isLike 5 = .ok (.getfield 32, 3) := by decide +kernel
theorem dX2_isLike_8 : decode cX2_isLike 8 = .ok (.if_icmp .ne 25, 3) := by decide +kernel
theorem dX2_isLike_11 : decode cX2_isLike 11 = .ok (.aload_n 0, 1) := by decide +kernel
theorem dX2_isLike_12 : decode cX2_isLike 12 = .ok (.getfield 36, 3) := by decide +kernel
theorem dX2_isLike_15 : decode cX2_isLike 15 = .ok (.aload_n 1, 1) := by decide +kernel
theorem dX2_isLike_16 : decode cX2_isLike 16 = .ok (.getfield 36, 3) := by decide +kernel
theorem dX2_isLike_19 : decode cX2_isLike 19 = .ok (.if_icmp .ne 14, 3) := by decide +kernel
theorem dX2_isLike_22 : decode cX2_isLike 22 = .ok (.aload_n 0, 1) := by decide +kernel
theorem dX2_isLike_23 : decode cX2_isLike 23 = .ok (.getfield 39, 3) := by decide +kernel
theorem dX2_isLike_26 : decode cX2_isLike 26 = .ok (.aload_n 1, 1) := by decide +kernel
theorem dX2_isLike_27 : decode cX2_isLike 27 = .ok (.getfield 39, 3) := by decide +kernel
theorem dX2_isLike_30 : decode cX2_isLike 30 = .ok (.if_icmp .eq 5, 3) := by decide +kernel
theorem dX2_isLike_33 : decode cX2_isLike 33 = .ok (.iconst 0, 1) := by decide +kernel
theorem dX2_isLike_34 : decode cX2_isLike 34 = .ok (.ireturn, 1) := by decide +kernel
theorem dX2_isLike_35 : decode cX2_isLike 35 = .ok (.iconst 0, 1) := by decide +kernel
theorem dX2_isLike_36 : decode cX2_isLike 36 = .ok (.istore_n 2, 1) := by decide +kernel
theorem dX2_isLike_37 : decode cX2_isLike 37 = .ok (.iload_n 2, 1) := by decide +kernel
theorem dX2_isLike_38 : decode cX2_isLike 38 = .ok (.aload_n 0, 1) := by decide +kernel
theorem dX2_isLike_39 : decode cX2_isLike 39 = .ok (.getfield 39, 3) := by decide +kernel
theorem dX2_isLike_42 : decode cX2_isLike 42 = .ok (.if_icmp .ge 41, 3) := by decide +kernel
theorem dX2_isLike_45 : decode cX2_isLike 45 = .ok (.aload_n 0, 1) := by decide +kernel
theorem dX2_isLike_46 : decode cX2_isLike 46 = .ok (.getfield 15, 3) := by decide +kernel
theorem dX2_isLike_49 : decode cX2_isLike 49 = .ok (.iload_n 2, 1) := by decide +kernel
theorem dX2_isLike_50 : decode cX2_isLike 50 = .ok (.iaload, 1) := by decide +kernel
theorem dX2_isLike_51 : decode cX2_isLike 51 = .ok (.aload_n 1, 1) := by decide +kernel
theorem dX2_isLike_52 : decode cX2_isLike 52 = .ok (.getfield 15, 3) := by decide +kernel
theorem dX2_isLike_55 : decode cX2_isLike 55 = .ok (.iload_n 2, 1) := by decide +kernel
theorem dX2_isLike_56 : decode cX2_isLike 56 = .ok (.iaload, 1) := by decide +kernel
theorem dX2_isLike_57 : decode cX2_isLike 57 = .ok (.if_icmp .ne 18, 3) := by decide +kernel
theorem dX2_isLike_60 : decode cX2_isLike 60 = .ok (.aload_n 0, 1) := by decide +kernel
theorem dX2_isLike_61 : decode cX2_isLike 61 = .ok (.getfield 19, 3) := by decide +kernel
theorem dX2_isLike_64 : decode cX2_isLike 64 = .ok (.iload_n 2, 1) := by decide +kernel
theorem dX2_isLike_65 : decode cX2_isLike 65 = .ok (.iaload, 1) := by decide +kernel
theorem dX2_isLike_66 : decode cX2_isLike 66 = .ok (.aload_n 1, 1) := by decide +kernel
theorem dX2_isLike_67 : decode cX2_isLike 67 = .ok (.getfield 19, 3) := by decide +kernel
theorem dX2_isLike_70 : decode cX2_isLike 70 = .ok (.iload_n 2, 1) := by decide +kernel
theorem dX2_isLike_71 : decode cX2_isLike 71 = .ok (.iaload, 1) := by decide +kernel
theorem dX2_isLike_72 : decode cX2_isLike 72 = .ok (.if_icmp .eq 5, 3) := by decide +kernel
theorem dX2_isLike_75 : decode cX2_isLike 75 = .ok (.iconst 0, 1) := by decide +kernel
theorem dX2_isLike_76 : decode cX2_isLike 76 = .ok (.ireturn, 1) := by decide +kernel
theorem dX2_isLike_77 : decode cX2_isLike 77 = .ok (.iinc 2 1, 3) := by decide +kernel
theorem dX2_isLike_80 : decode cX2_isLike 80 = .ok (.goto (-43), 3) := by decide +kernel
theorem dX2_isLike_83 : decode cX2_isLike 83 = .ok (.iconst 0, 1) := by decide +kernel
theorem dX2_isLike_84 : decode cX2_isLike 84 = .ok (.istore_n 2, 1) := by decide +kernel
theorem dX2_isLike_85 : decode cX2_isLike 85 = .ok (.iload_n 2, 1) := by decide +kernel
theorem dX2_isLike_86 : decode cX2_isLike 86 = .ok (.aload_n 0, 1) := by decide +kernel
theorem dX2_isLike_87 : decode cX2_isLike 87 = .ok (.getfield 32, 3) := by decide +kernel
theorem dX2_isLike_90 : decode cX2_isLike 90 = .ok (.if_icmp .ge 26, 3) := by decide +kernel
theorem dX2_isLike_93 : decode cX2_isLike 93 = .ok (.aload_n 0, 1) := by decide +kernel
theorem dX2_isLike_94 : decode cX2_isLike 94 = .ok (.getfield 9, 3) := by decide +kernel
theorem dX2_isLike_97 : decode cX2_isLike 97 = .ok (.iload_n 2, 1) := by decide +kernel
theorem dX2_isLike_98 : decode cX2_isLike 98 = .ok (.baload, 1) := by decide +kernel
theorem dX2_isLike_99 : decode cX2_isLike 99 = .ok (.aload_n 1, 1) := by decide +kernel
theorem dX2_isLike_100 : decode cX2_isLike 100 = .ok (.getfield 9, 3) := by decide +kernel
theorem dX2_isLike_103 : decode cX2_isLike 103 = .ok (.iload_n 2, 1) := by decide +kernel
theorem dX2_isLike_104 : decode cX2_isLike 104 = .ok (.baload, 1) := by decide +kernel
theorem dX2_isLike_105 : decode cX2_isLike 105 = .ok (.if_icmp .eq 5, 3) := by decide +kernel
theorem dX2_isLike_108 : decode cX2_isLike 108 = .ok (.iconst 0, 1) := by decide +kernel
theorem dX2_isLike_109 : decode cX2_isLike 109 = .ok (.ireturn, 1) := by decide +kernel
theorem dX2_isLike_110 : decode cX2_isLike 110 = .ok (.iinc 2 1, 3) := by decide +kernel
theorem dX2_isLike_113 : decode cX2_isLike 113 = .ok (.goto (-28), 3) := by decide +kernel
theorem dX2_isLike_116 : decode cX2_isLike 116 = .ok (.iconst 1, 1) := by decide +kernel
theorem dX2_isLike_117 : decode cX2_isLike 117 = .ok (.ireturn, 1) := by decide +kernel
theorem dX2_first_0 : decode cX2_first 0 = .ok (.iload_n 0, 1) := by decide +kernel
theorem dX2_first_1 : decode cX2_first 1 = .ok (.bipush 64, 2) := by decide +kernel
theorem dX2_first_3 : decode cX2_first 3 = .ok (.if_icmp .ge 14, 3) := by decide +kernel
theorem dX2_first_6 : decode cX2_first 6 = .ok (.bipush 7, 2) := by decide +kernel
theorem dX2_first_8 : decode cX2_first 8 = .ok (.iload_n 0, 1) := by decide +kernel
theorem dX2_first_9 : decode cX2_first 9 = .ok (.imul, 1) := by decide +kernel
theorem dX2_first_10 : decode cX2_first 10 = .ok (.sipush 255, 3) := by decide +kernel
theorem dX2_first_13 : decode cX2_first 13 = .ok (.iand, 1) := by decide +kernel
theorem dX2_first_14 : decode cX2_first 14 = .ok (.goto 4, 3) := by decide +kernel
theorem dX2_first_17 : decode cX2_first 17 = .ok (.iconst 0, 1) := by decide +kernel
theorem dX2_first_18 : decode cX2_first 18 = .ok (.ireturn, 1) := by decide +kernel
set_option maxRecDepth 20000 in
theorem ggX2_difference_X2_first : GoodIn wsX2_difference wsX2_first := goodIn_r _ [5] (by decide +kernel) (by decide +kernel)
set_option maxRecDepth 20000 in
theorem gX2_difference_X2_first : GoodIn wsX2_difference (va_wsS RX2 28 yX2_first wsX2_first) := goodIn_app (goodIn_of _ (by decide +kernel)) ggX2_difference_X2_first
theorem dX2_difference_0 : decode cX2_difference 0 = .ok (.aload_n 0, 1) := by decide +kernel
theorem dX2_difference_1 : decode cX2_difference 1 = .ok (.getfield 9, 3) := by decide +kernel
theorem dX2_difference_4 : decode cX2_difference 4 = .ok (.iload_n 1, 1) := by decide +kernel
theorem dX2_difference_5 : decode cX2_difference 5 = .ok (.baload, 1) := by decide +kernel
theorem dX2_difference_6 : decode cX2_difference 6 = .ok (.sipush 255, 3) := by decide +kernel
theorem dX2_difference_9 : decode cX2_difference 9 = .ok (.iand, 1) := by decide +kernel
theorem dX2_difference_10 : decode cX2_difference 10 = .ok (.iload_n 1, 1) := by decide +kernel
theorem dX2_difference_11 : decode cX2_difference 11 = .ok (.invokestatic 28, 3) := by decide +kernel
theorem dX2_difference_14 : decode cX2_difference 14 = .ok (.ixor, 1) := by decide +kernel
theorem dX2_difference_15 : decode cX2_difference 15 = .ok (.ireturn, 1) := by decide +kernel
theorem dX2_has_0 : decode cX2_has 0 = .ok (.lload_n 1, 1) := by decide +kernel
theorem dX2_has_1 : decode cX2_has 1 = .ok (.lconst 0, 1) := by decide +kernel
theorem dX2_has_2 : decode cX2_has 2 = .ok (.lcmp, 1) := by decide +kernel
theorem dX2_has_3 : decode cX2_has 3 = .ok (.ifCond .lt 19, 3) := by decide +kernel
theorem dX2_has_6 : decode cX2_has 6 = .ok (.lload_n 1, 1) := by decide +kernel
theorem dX2_has_7 : decode cX2_has 7 = .ok (.aload_n 0, 1) := by decide +kernel
theorem dX2_has_8 : decode cX2_has 8 = .ok (.getfield 32, 3) := by decide +kernel
theorem dX2_has_11 : decode cX2_has 11 = .ok (.iload_n 3, 1) := by decide +kernel
theorem dX2_has_12 : decode cX2_has 12 = .ok (.isub, 1) := by decide +kernel
theorem dX2_has_13 : decode cX2_has 13 = .ok (.i2l, 1) := by decide +kernel
theorem dX2_has_14 : decode cX2_has 14 = .ok (.lcmp, 1) := by decide +kernel
theorem dX2_has_15 : decode cX2_has 15 = .ok (.ifCond .gt 7, 3) := by decide +kernel
theorem dX2_has_18 : decode cX2_has 18 = .ok (.iconst 1, 1) := by decide +kernel
theorem dX2_has_19 : decode cX2_has 19 = .ok (.goto 4, 3) := by decide +kernel
theorem dX2_has_22 : decode cX2_has 22 = .ok (.iconst 0, 1) := by decide +kernel
theorem dX2_has_23 : decode cX2_has 23 = .ok (.ireturn, 1) := by decide +kernel
theorem dX2_number_0 : decode cX2_number 0 = .ok (.lconst 0, 1) := by decide +kernel
theorem dX2_number_1 : decode cX2_number 1 = .ok (.lstore_n 3, 1) := by decide +kernel
theorem dX2_number_2 : decode cX2_number 2 = .ok (.iconst 0, 1) := by decide +kernel
theorem dX2_number_3 : decode cX2_number 3 = .ok (.istore 5, 2) := by decide +kernel
theorem dX2_number_5 : decode cX2_number 5 = .ok (.iload 5, 2) := by decide +kernel
theorem dX2_number_7 : decode cX2_number 7 = .ok (.iload_n 2, 1) := by decide +kernel
theorem dX2_number_8 : decode cX2_number 8 = .ok (.if_icmp .ge 29, 3) := by decide +kernel
theorem dX2_number_11 : decode cX2_number 11 = .ok (.lload_n 3, 1) := by decide +kernel
theorem dX2_number_12 : decode cX2_number 12 = .ok (.bipush 8, 2) := by decide +kernel
theorem dX2_number_14 : decode cX2_number 14 = .ok (.lshl, 1) := by decide +kernel
theorem dX2_number_15 : decode cX2_number 15 = .ok (.aload_n 0, 1) := by decide +kernel
theorem dX2_number_16 : decode cX2_number 16 = .ok (.getfield 9, 3) := by decide +kernel
theorem dX2_number_19 : decode cX2_number 19 = .ok (.iload_n 1, 1) := by decide +kernel
theorem dX2_number_20 : decode cX2_number 20 = .ok (.iload 5, 2) := by decide +kernel
theorem dX2_number_22 : decode cX2_number 22 = .ok (.iadd, 1) := by decide +kernel
theorem dX2_number_23 : decode cX2_number 23 = .ok (.baload, 1) := by decide +kernel
theorem dX2_number_24 : decode cX2_number 24 = .ok (.sipush 255, 3) := by decide +kernel
theorem dX2_number_27 : decode cX2_number 27 = .ok (.iand, 1) := by decide +kernel
theorem dX2_number_28 : decode cX2_number 28 = .ok (.i2l, 1) := by decide +kernel
theorem dX2_number_29 : decode cX2_number 29 = .ok (.lor, 1) := by decide +kernel
theorem dX2_number_30 : decode cX2_number 30 = .ok (.lstore_n 3, 1) := by decide +kernel
theorem dX2_number_31 : decode cX2_number 31 = .ok (.iinc 5 1, 3) := by decide +kernel
theorem dX2_number_34 : decode cX2_number 34 = .ok (.goto (-29), 3) := by decide +kernel
theorem dX2_number_37 : decode cX2_number 37 = .ok (.lload_n 3, 1) := by decide +kernel
theorem dX2_number_38 : decode cX2_number 38 = .ok (.lreturn, 1) := by decide +kernel
theorem dX2_store_0 : decode cX2_store 0 = .ok (.iload_n 3, 1) := by decide +kernel
theorem dX2_store_1 : decode cX2_store 1 = .ok (.istore 4, 2) := by decide +kernel
theorem dX2_store_3 : decode cX2_store 3 = .ok (.iload_n 2, 1) := by decide +kernel
theorem dX2_store_4 : decode cX2_store 4 = .ok (.iconst 1, 1) := by decide +kernel
theorem dX2_store_5 : decode cX2_store 5 = .ok (.isub, 1) := by decide +kernel
theorem dX2_store_6 : decode cX2_store 6 = .ok (.istore 5, 2) := by decide +kernel
theorem dX2_store_8 : decode cX2_store 8 = .ok (.iload 5, 2) := by decide +kernel
theorem dX2_store_10 : decode cX2_store 10 = .ok (.ifCond .lt 28, 3) := by decide +kernel
theorem dX2_store_13 : decode cX2_store 13 = .ok (.aload_n 0, 1) := by decide +kernel
theorem dX2_store_14 : decode cX2_store 14 = .ok (.getfield 9, 3) := by decide +kernel
theorem dX2_store_17 : decode cX2_store 17 = .ok (.iload_n 1, 1) := by decide +kernel
theorem dX2_store_18 : decode cX2_store 18 = .ok (.iload 5, 2) := by decide +kernel
theorem dX2_store_20 : decode cX2_store 20 = .ok (.iadd, 1) := by decide +kernel
theorem dX2_store_21 : decode cX2_store 21 = .ok (.iload 4, 2) := by decide +kernel
theorem dX2_store_23 : decode cX2_store 23 = .ok (.i2b, 1) := by decide +kernel
theorem dX2_store_24 : decode cX2_store 24 = .ok (.bastore, 1) := by decide +kernel
theorem dX2_store_25 : decode cX2_store 25 = .ok (.iload 4, 2) := by decide +kernel
theorem dX2_store_27 : decode cX2_store 27 = .ok (.bipush 8, 2) := by decide +kernel
theorem dX2_store_29 : decode cX2_store 29 = .ok (.iushr, 1) := by decide +kernel
theorem dX2_store_30 : decode cX2_store 30 = .ok (.istore 4, 2) := by decide +kernel
theorem dX2_store_32 : decode cX2_store 32 = .ok (.iinc 5 (-1), 3) := by decide +kernel
theorem dX2_store_35 : decode cX2_store 35 = .ok (.goto (-27), 3) := by decide +kernel
theorem dX2_store_38 : decode cX2_store 38 = .ok (.return_, 1) := by decide +kernel
theorem dX2_allZero_0 : decode cX2_allZero 0 = .ok (.iconst 0, 1) := by decide +kernel
theorem dX2_allZero_1 : decode cX2_allZero 1 = .ok (.istore_n 3, 1) := by decide +kernel
theorem dX2_allZero_2 : decode cX2_allZero 2 = .ok (.iload_n 3, 1) := by decide +kernel
theorem dX2_allZero_3 : decode cX2_allZero 3 = .ok (.iload_n 2, 1) := by decide +kernel
theorem dX2_allZero_4 : decode cX2_allZero 4 = .ok (.if_icmp .ge 22, 3) := by decide +kernel
theorem dX2_allZero_7 : decode cX2_allZero 7 = .ok (.aload_n 0, 1) := by decide +kernel
theorem dX2_allZero_8 : decode cX2_allZero 8 = .ok (.getfield 9, 3) := by decide +kernel
theorem dX2_allZero_11 : decode cX2_allZero 11 = .ok (.iload_n 1, 1) := by decide +kernel
theorem dX2_allZero_12 : decode cX2_allZero 12 = .ok (.iload_n 3, 1) := by decide +kernel
theorem dX2_allZero_13 : decode cX2_allZero 13 = .ok (.iadd, 1) := by decide +kernel
theorem dX2_allZero_14 : decode cX2_allZero 14 = .ok (.baload, 1) := by decide +kernel
theorem dX2_allZero_15 : decode cX2_allZero 15 = .ok (.ifCond .eq 5, 3) := by decide +kernel
theorem dX2_allZero_18 : decode cX2_allZero 18 = .ok (.iconst 0, 1) := by decide +kernel
theorem dX2_allZero_19 : decode cX2_allZero 19 = .ok (.ireturn, 1) := by decide +kernel
theorem dX2_allZero_20 : decode cX2_allZero 20 = .ok (.iinc 3 1, 3) := by decide +kernel
theorem dX2_allZero_23 : decode cX2_allZero 23 = .ok (.goto (-21), 3) := by decide +kernel
theorem dX2_allZero_26 : decode cX2_allZero 26 = .ok (.iconst 1, 1) := by decide +kernel
theorem dX2_allZero_27 : decode cX2_allZero 27 = .ok (.ireturn, 1) := by decide +kernel
set_option maxRecDepth 20000 in
theorem ggX2_changeSize_J7_fill_eb02e : GoodIn wsX2_changeSize wsJ7_fill_eb02e := goodIn_r _ [6, 7, 8, 5, 9] (by decide +kernel) (by decide +kernel)
set_option maxRecDepth 20000 in
theorem gX2_changeSize_J7_fill_eb02e : GoodIn wsX2_changeSize (va_wsS RX2 48 yJ7_fill_eb02e wsJ7_fill_eb02e) := goodIn_app (goodIn_of _ (by decide +kernel)) ggX2_changeSize_J7_fill_eb02e
theorem dX2_changeSize_0 : decode cX2_changeSize 0 = .ok (.iload_n 1, 1) := by decide +kernel
theorem dX2_changeSize_1 : decode cX2_changeSize 1 = .ok (.aload_n 0, 1) := by decide +kernel
theorem dX2_changeSize_2 : decode cX2_changeSize 2 = .ok (.getfield 32, 3) := by decide +kernel
theorem dX2_changeSize_5 : decode cX2_changeSize 5 = .ok (.if_icmp .ge 16, 3) := by decide +kernel
theorem dX2_changeSize_8 : decode cX2_changeSize 8 = .ok (.aload_n 0, 1) := by decide +kernel
theorem dX2_changeSize_9 : decode cX2_changeSize 9 = .ok (.getfield 9, 3) := by decide +kernel
theorem dX2_changeSize_12 : decode cX2_changeSize 12 = .ok (.iload_n 1, 1) := by decide +kernel
theorem dX2_changeSize_13 : decode cX2_changeSize 13 = .ok (.aload_n 0, 1) := by decide +kernel
theorem dX2_changeSize_14 : decode cX2_changeSize 14 = .ok (.getfield 32, 3) := by decide +kernel
theorem dX2_changeSize_17 : decode cX2_changeSize 17 = .ok (.iconst 0, 1) := by decide +kernel
theorem dX2_changeSize_18 : decode cX2_changeSize 18 = .ok (.invokestatic 48, 3) := by decide +kernel
theorem dX2_changeSize_21 : decode cX2_changeSize 21 = .ok (.aload_n 0, 1) := by decide +kernel
theorem dX2_changeSize_22 : decode cX2_changeSize 22 = .ok (.iload_n 1, 1) := by decide +kernel
theorem dX2_changeSize_23 : decode cX2_changeSize 23 = .ok (.putfield 32, 3) := by decide +kernel
theorem dX2_changeSize_26 : decode cX2_changeSize 26 = .ok (.return_, 1) := by decide +kernel
theorem dX2_gapBegin_0 : decode cX2_gapBegin 0 = .ok (.iload_n 1, 1) := by decide +kernel
theorem dX2_gapBegin_1 : decode cX2_gapBegin 1 = .ok (.ifCond .le 21, 3) := by decide +kernel
theorem dX2_gapBegin_4 : decode cX2_gapBegin 4 = .ok (.aload_n 0, 1) := by decide +kernel
theorem dX2_gapBegin_5 : decode cX2_gapBegin 5 = .ok (.getfield 15, 3) := by decide +kernel
theorem dX2_gapBegin_8 : decode cX2_gapBegin 8 = .ok (.iload_n 1, 1) := by decide +kernel
theorem dX2_gapBegin_9 : decode cX2_gapBegin 9 = .ok (.iconst 1, 1) := by decide +kernel
theorem dX2_gapBegin_10 : decode cX2_gapBegin 10 = .ok (.isub, 1) := by decide +kernel
theorem dX2_gapBegin_11 : decode cX2_gapBegin 11 = .ok (.iaload, 1) := by decide +kernel
theorem dX2_gapBegin_12 : decode cX2_gapBegin 12 = .ok (.aload_n 0, 1) := by decide +kernel
theorem dX2_gapBegin_13 : decode cX2_gapBegin 13 = .ok (.getfield 19, 3) := by decide +kernel
theorem dX2_gapBegin_16 : decode cX2_gapBegin 16 = .ok (.iload_n 1, 1) := by decide +kernel
theorem dX2_gapBegin_17 : decode cX2_gapBegin 17 = .ok (.iconst 1, 1) := by decide +kernel
theorem dX2_gapBegin_18 : decode cX2_gapBegin 18 = .ok (.isub, 1) := by decide +kernel
theorem dX2_gapBegin_19 : decode cX2_gapBegin 19 = .ok (.iaload, 1) := by decide +kernel
theorem dX2_gapBegin_20 : decode cX2_gapBegin 20 = .ok (.iadd, 1) := by decide +kernel
theorem dX2_gapBegin_21 : decode cX2_gapBegin 21 = .ok (.ireturn, 1) := by decide +kernel
theorem dX2_gapBegin_22 : decode cX2_gapBegin 22 = .ok (.aload_n 0, 1) := by decide +kernel
theorem dX2_gapBegin_23 : decode cX2_gapBegin 23 = .ok (.getfield 39, 3) := by decide +kernel
theorem dX2_gapBegin_26 : decode cX2_gapBegin 26 = .ok (.ifCond .ne 10, 3) := by decide +kernel
theorem dX2_gapBegin_29 : decode cX2_gapBegin 29 = .ok (.aload_n 0, 1) := by decide +kernel
theorem dX2_gapBegin_30 : decode cX2_gapBegin 30 = .ok (.getfield 32, 3) := by decide +kernel
theorem dX2_gapBegin_33 : decode cX2_gapBegin 33 = .ok (.goto 7, 3) := by decide +kernel
theorem dX2_gapBegin_36 : decode cX2_gapBegin 36 = .ok (.aload_n 0, 1) := by decide +kernel
theorem dX2_gapBegin_37 : decode cX2_gapBegin 37 = .ok (.getfield 36, 3) := by decide +kernel
theorem dX2_gapBegin_40 : decode cX2_gapBegin 40 = .ok (.ireturn, 1) := by decide +kernel
set_option maxRecDepth 20000 in
theorem ggX2_gapLength_X2_gapBegin : GoodIn wsX2_gapLength wsX2_gapBegin := goodIn_r _ [8, 2, 9, 1, 3, 10, 11, 12, 13, 14, 15, 16] (by decide +kernel) (by decide +kernel)
set_option maxRecDepth 20000 in
theorem gX2_gapLength_X2_gapBegin : GoodIn wsX2_gapLength (wsV RX2 51 RX2 yX2_gapBegin wsX2_gapBegin) := goodIn_app (goodIn_of _ (by decide +kernel)) ggX2_gapLength_X2_gapBegin
theorem dX2_gapLength_0 : decode cX2_gapLength 0 = .ok (.iload_n 1, 1) := by decide +kernel
theorem dX2_gapLength_1 : decode cX2_gapLength 1 = .ok (.aload_n 0, 1) := by decide +kernel
theorem dX2_gapLength_2 : decode cX2_gapLength 2 = .ok (.getfield 39, 3) := by decide +kernel
theorem dX2_gapLength_5 : decode cX2_gapLength 5 = .ok (.if_icmp .ge 12, 3) := by decide +kernel
theorem dX2_gapLength_8 : decode cX2_gapLength 8 = .ok (.aload_n 0, 1) := by decide +kernel
theorem dX2_gapLength_9 : decode cX2_gapLength 9 = .ok (.getfield 15, 3) := by decide +kernel
theorem dX2_gapLength_12 : decode cX2_gapLength 12 = .ok (.iload_n 1, 1) := by decide +kernel
theorem dX2_gapLength_13 : decode cX2_gapLength 13 = .ok (.iaload, 1) := by decide +kernel
theorem dX2_gapLength_14 : decode cX2_gapLength 14 = .ok (.goto 7, 3) := by decide +kernel
theorem dX2_gapLength_17 : decode cX2_gapLength 17 = .ok (.aload_n 0, 1) := by decide +kernel
theorem dX2_gapLength_18 : decode cX2_gapLength 18 = .ok (.getfield 32, 3) := by decide +kernel
theorem dX2_gapLength_21 : decode cX2_gapLength 21 = .ok (.istore_n 2, 1) := by decide +kernel
theorem dX2_gapLength_22 : decode cX2_gapLength 22 = .ok (.iload_n 2, 1) := by decide +kernel
theorem dX2_gapLength_23 : decode cX2_gapLength 23 = .ok (.aload_n 0, 1) := by decide +kernel
theorem dX2_gapLength_24 : decode cX2_gapLength 24 = .ok (.iload_n 1, 1) := by decide +kernel
theorem dX2_gapLength_25 : decode cX2_gapLength 25 = .ok (.invokevirtual 51, 3) := by decide +kernel
theorem dX2_gapLength_28 : decode cX2_gapLength 28 = .ok (.isub, 1) := by decide +kernel
theorem dX2_gapLength_29 : decode cX2_gapLength 29 = .ok (.ireturn, 1) := by decide +kernel
set_option maxRecDepth 20000 in
theorem ggX2_gapFor_X2_gapLength : GoodIn wsX2_gapFor wsX2_gapLength := goodIn_r _ [6, 1, 7, 8, 9, 10, 11, 5, 12, 13, 14, 15, 16, 17, 18, 19, 20] (by decide +kernel) (by decide +kernel)
set_option maxRecDepth 20000 in
theorem gX2_gapFor_X2_gapLength : GoodIn wsX2_gapFor (wsV RX2 54 RX2 yX2_gapLength wsX2_gapLength) := goodIn_app (goodIn_of _ (by decide +kernel)) ggX2_gapFor_X2_gapLength
theorem dX2_gapFor_0 : decode cX2_gapFor 0 = .ok (.iconst 0, 1) := by decide +kernel
theorem dX2_gapFor_1 : decode cX2_gapFor 1 = .ok (.istore_n 2, 1) := by decide +kernel
theorem dX2_gapFor_2 : decode cX2_gapFor 2 = .ok (.iload_n 2, 1) := by decide +kernel
theorem dX2_gapFor_3 : decode cX2_gapFor 3 = .ok (.aload_n 0, 1) := by decide +kernel
theorem dX2_gapFor_4 : decode cX2_gapFor 4 = .ok (.getfield 39, 3) := by decide +kernel
theorem dX2_gapFor_7 : decode cX2_gapFor 7 = .ok (.if_icmp .ge 20, 3) := by decide +kernel
theorem dX2_gapFor_10 : decode cX2_gapFor 10 = .ok (.aload_n 0, 1) := by decide +kernel
theorem dX2_gapFor_11 : decode cX2_gapFor 11 = .ok (.iload_n 2, 1) := by decide +kernel
theorem dX2_gapFor_12 : decode cX2_gapFor 12 = .ok (.invokevirtual 54, 3) := by decide +kernel
theorem dX2_gapFor_15 : decode cX2_gapFor 15 = .ok (.iload_n 1, 1) := by decide +kernel
theorem dX2_gapFor_16 : decode cX2_gapFor 16 = .ok (.if_icmp .lt 5, 3) := by decide +kernel
theorem dX2_gapFor_19 : decode cX2_gapFor 19 = .ok (.iload_n 2, 1) := by decide +kernel
theorem dX2_gapFor_20 : decode cX2_gapFor 20 = .ok (.ireturn, 1) := by decide +kernel
theorem dX2_gapFor_21 : decode cX2_gapFor 21 = .ok (.iinc 2 1, 3) := by decide +kernel
theorem dX2_gapFor_24 : decode cX2_gapFor 24 = .ok (.goto (-22), 3) := by decide +kernel
theorem dX2_gapFor_27 : decode cX2_gapFor 27 = .ok (.aload_n 0, 1) := by decide +kernel
theorem dX2_gapFor_28 : decode cX2_gapFor 28 = .ok (.getfield 39, 3) := by decide +kernel
theorem dX2_gapFor_31 : decode cX2_gapFor 31 = .ok (.ireturn, 1) := by decide +kernel
set_option maxRecDepth 20000 in
theorem ggX2_gapCount_X2_gapLength : GoodIn wsX2_gapCount wsX2_gapLength := goodIn_r _ [6, 1, 7, 8, 9, 10, 11, 5, 12, 13, 14, 15, 16, 17, 18, 19, 20] (by decide +kernel) (by decide +kernel)
set_option maxRecDepth 20000 in
theorem gX2_gapCount_X2_gapLength : GoodIn wsX2_gapCount (wsV RX2 54 RX2 yX2_gapLength wsX2_gapLength) := goodIn_app (goodIn_of _ (by decide +kernel)) ggX2_gapCount_X2_gapLength
theorem dX2_gapCount_0 : decode cX2_gapCount 0 = .ok (.iconst 0, 1) := by decide +kernel
theorem dX2_gapCount_1 : decode cX2_gapCount 1 = .ok (.istore_n 1, 1) := by decide +kernel
theorem dX2_gapCount_2 : decode cX2_gapCount 2 = .ok (.iconst 0, 1) := by decide +kernel
theorem dX2_gapCount_3 : decode cX2_gapCount 3 = .ok (.istore_n 2, 1) := by decide +kernel
theorem dX2_gapCount_4 : decode cX2_gapCount 4 = .ok (.iload_n 2, 1) := by decide +kernel
theorem dX2_gapCount_5 : decode cX2_gapCount 5 = .ok (.aload_n 0, 1) := by decide +kernel
theorem dX2_gapCount_6 : decode cX2_gapCount 6 = .ok (.getfield 39, 3) := by decide +kernel
theorem dX2_gapCount_9 : decode cX2_gapCount 9 = .ok (.if_icmp .gt 20, 3) := by decide +kernel
theorem dX2_gapCount_12 : decode cX2_gapCount 12 = .ok (.aload_n 0, 1) := by decide +kernel
theorem dX2_gapCount_13 : decode cX2_gapCount 13 = .ok (.iload_n 2, 1) := by decide +kernel
theorem dX2_gapCount_14 : decode cX2_gapCount 14 = .ok (.invokevirtual 54, 3) := by decide +kernel
theorem dX2_gapCount_17 : decode cX2_gapCount 17 = .ok (.ifCond .le 6, 3) := by decide +kernel
theorem dX2_gapCount_20 : decode cX2_gapCount 20 = .ok (.iinc 1 1, 3) := by decide +kernel
theorem dX2_gapCount_23 : decode cX2_gapCount 23 = .ok (.iinc 2 1, 3) := by decide +kernel
theorem dX2_gapCount_26 : decode cX2_gapCount 26 = .ok (.goto (-22), 3) := by decide +kernel
theorem dX2_gapCount_29 : decode cX2_gapCount 29 = .ok (.iload_n 1, 1) := by decide +kernel
theorem dX2_gapCount_30 : decode cX2_gapCount 30 = .ok (.ireturn, 1) := by decide +kernel
theorem dX2_usedBytes_0 : decode cX2_usedBytes 0 = .ok (.iconst 0, 1) := by decide +kernel
theorem dX2_usedBytes_1 : decode cX2_usedBytes 1 = .ok (.istore_n 1, 1) := by decide +kernel
theorem dX2_usedBytes_2 : decode cX2_usedBytes 2 = .ok (.iconst 0, 1) := by decide +kernel
theorem dX2_usedBytes_3 : decode cX2_usedBytes 3 = .ok (.istore_n 2, 1) := by decide +kernel
theorem dX2_usedBytes_4 : decode cX2_usedBytes 4 = .ok (.iload_n 2, 1) := by decide +kernel
theorem dX2_usedBytes_5 : decode cX2_usedBytes 5 = .ok (.aload_n 0, 1) := by decide +kernel
theorem dX2_usedBytes_6 : decode cX2_usedBytes 6 = .ok (.getfield 39, 3) := by decide +kernel
theorem dX2_usedBytes_9 : decode cX2_usedBytes 9 = .ok (.if_icmp .ge 18, 3) := by decide +kernel
theorem dX2_usedBytes_12 : decode cX2_usedBytes 12 = .ok (.iload_n 1, 1) := by decide +kernel
theorem dX2_usedBytes_13 : decode cX2_usedBytes 13 = .ok (.aload_n 0, 1) := by decide +kernel
theorem dX2_usedBytes_14 : decode cX2_usedBytes 14 = .ok (.getfield 19, 3) := by decide +kernel
theorem dX2_usedBytes_17 : decode cX2_usedBytes 17 = .ok (.iload_n 2, 1) := by decide +kernel
theorem dX2_usedBytes_18 : decode cX2_usedBytes 18 = .ok (.iaload, 1) := by decide +kernel
theorem dX2_usedBytes_19 : decode cX2_usedBytes 19 = .ok (.iadd, 1) := by decide +kernel
theorem dX2_usedBytes_20 : decode cX2_usedBytes 20 = .ok (.istore_n 1, 1) := by decide +kernel
theorem dX2_usedBytes_21 : decode cX2_usedBytes 21 = .ok (.iinc 2 1, 3) := by decide +kernel
theorem dX2_usedBytes_24 : decode cX2_usedBytes 24 = .ok (.goto (-20), 3) := by decide +kernel
theorem dX2_usedBytes_27 : decode cX2_usedBytes 27 = .ok (.iload_n 1, 1) := by decide +kernel
theorem dX2_usedBytes_28 : decode cX2_usedBytes 28 = .ok (.ireturn, 1) := by decide +kernel
theorem dX2_blockAt_0 : decode cX2_blockAt 0 = .ok (.iconst 0, 1) := by decide +kernel
theorem dX2_blockAt_1 : decode cX2_blockAt 1 = .ok (.istore_n 2, 1) := by decide +kernel
theorem dX2_blockAt_2 : decode cX2_blockAt 2 = .ok (.iload_n 2, 1) := by decide +kernel
theorem dX2_blockAt_3 : decode cX2_blockAt 3 = .ok (.aload_n 0, 1) := by decide +kernel
theorem dX2_blockAt_4 : decode cX2_blockAt 4 = .ok (.getfield 39, 3) := by decide +kernel
theorem dX2_blockAt_7 : decode cX2_blockAt 7 = .ok (.if_icmp .ge 21, 3) := by decide +kernel
theorem dX2_blockAt_10 : decode cX2_blockAt 10 = .ok (.aload_n 0, 1) := by decide +kernel
theorem dX2_blockAt_11 : decode cX2_blockAt 11 = .ok (.getfield 15, 3) := by decide +kernel
theorem dX2_blockAt_14 : decode cX2_blockAt 14 = .ok (.iload_n 2, 1) := by decide +kernel
theorem dX2_blockAt_15 : decode cX2_blockAt 15 = .ok (.iaload, 1) := by decide +kernel
theorem dX2_blockAt_16 : decode cX2_blockAt 16 = .ok (.iload_n 1, 1) := by decide +kernel
theorem dX2_blockAt_17 : decode cX2_blockAt 17 = .ok (.if_icmp .ne 5, 3) := by decide +kernel
theorem dX2_blockAt_20 : decode cX2_blockAt 20 = .ok (.iload_n 2, 1) := by decide +kernel
theorem dX2_blockAt_21 : decode cX2_blockAt 21 = .ok (.ireturn, 1) := by decide +kernel
theorem dX2_blockAt_22 : decode cX2_blockAt 22 = .ok (.iinc 2 1, 3) := by decide +kernel
theorem dX2_blockAt_25 : decode cX2_blockAt 25 = .ok (.goto (-23), 3) := by decide +kernel
theorem dX2_blockAt_28 : decode cX2_blockAt 28 = .ok (.iconst (-1), 1) := by decide +kernel
theorem dX2_blockAt_29 : decode cX2_blockAt 29 = .ok (.ireturn, 1) := by decide +kernel
set_option maxRecDepth 20000 in
theorem ggX2_addBlock_X2_changeSize : GoodIn wsX2_addBlock wsX2_changeSize := goodIn_r _ [14, 2, 15, 16, 17, 18, 19, 20, 21, 22, 23, 24, 25, 26, 27, 28] (by decide +kernel) (by decide +kernel)
set_option maxRecDepth 20000 in
theorem gX2_addBlock_X2_changeSize : GoodIn wsX2_addBlock (wsV RX2 57 RX2 yX2_changeSize wsX2_changeSize) := goodIn_app (goodIn_of _ (by decide +kernel)) ggX2_addBlock_X2_changeSize
theorem dX2_addBlock_0 : decode cX2_addBlock 0 = .ok (.aload_n 0, 1) := by decide +kernel
theorem dX2_addBlock_1 : decode cX2_addBlock 1 = .ok (.getfield 39, 3) := by decide +kernel
theorem dX2_addBlock_4 : decode cX2_addBlock 4 = .ok (.ifCond .ne 11, 3) := by decide +kernel
theorem dX2_addBlock_7 : decode cX2_addBlock 7 = .ok (.aload_n 0, 1) := by decide +kernel
theorem dX2_addBlock_8 : decode cX2_addBlock 8 = .ok (.aload_n 0, 1) := by decide +kernel
theorem dX2_addBlock_9 : decode cX2_addBlock 9 = .ok (.getfield 32, 3) := by decide +kernel
theorem dX2_addBlock_12 : decode cX2_addBlock 12 = .ok (.putfield 36, 3) := by decide +kernel
theorem dX2_addBlock_15 : decode cX2_addBlock 15 = .ok (.aload_n 0, 1) := by decide +kernel
theorem dX2_addBlock_16 : decode cX2_addBlock 16 = .ok (.getfield 15, 3) := by decide +kernel
theorem dX2_addBlock_19 : decode cX2_addBlock 19 = .ok (.iload_n 1, 1) := by decide +kernel
theorem dX2_addBlock_20 : decode cX2_addBlock 20 = .ok (.aload_n 0, 1) := by decide +kernel
theorem dX2_addBlock_21 : decode cX2_addBlock 21 = .ok (.getfield 15, 3) := by decide +kernel
theorem dX2_addBlock_24 : decode cX2_addBlock 24 = .ok (.iload_n 1, 1) := by decide +kernel
theorem dX2_addBlock_25 : decode cX2_addBlock 25 = .ok (.iconst 1, 1) := by decide +kernel
theorem dX2_addBlock_26 : decode cX2_addBlock 26 = .ok (.iadd, 1) := by decide +kernel
theorem dX2_addBlock_27 : decode cX2_addBlock 27 = .ok (.aload_n 0, 1) := by decide +kernel
theorem dX2_addBlock_28 : decode cX2_addBlock 28 = .ok (.getfield 39, 3) := by decide +kernel
theorem dX2_addBlock_31 : decode cX2_addBlock 31 = .ok (.iload_n 1, 1) := by decide +kernel
theorem dX2_addBlock_32 : decode cX2_addBlock 32 = .ok (.isub, 1) := by decide +kernel
theorem dX2_addBlock_33 : decode cX2_addBlock 33 = .ok (.invokestatic 42, 3) := by decide +kernel
theorem dX2_addBlock_36 : decode cX2_addBlock 36 = .ok (.aload_n 0, 1) := by decide +kernel
theorem dX2_addBlock_37 : decode cX2_addBlock 37 = .ok (.getfield 19, 3) := by decide +kernel
theorem dX2_addBlock_40 : decode cX2_addBlock 40 = .ok (.iload_n 1, 1) := by decide +kernel
theorem dX2_addBlock_41 : decode cX2_addBlock 41 = .ok (.aload_n 0, 1) := by decide +kernel
theorem dX2_addBlock_42 : decode cX2_addBlock 42 = .ok (.getfield 19, 3) := by decide +kernel
theorem dX2_addBlock_45 : decode cX2_addBlock 45 = .ok (.iload_n 1, 1) := by decide +kernel
theorem dX2_addBlock_46 : decode cX2_addBlock 46 = .ok (.iconst 1, 1) := by decide +kernel
theorem dX2_addBlock_47 : decode cX2_addBlock 47 = .ok (.iadd, 1) := by decide +kernel
theorem dX2_addBlock_48 : decode cX2_addBlock 48 = .ok (.aload_n 0, 1) := by decide +kernel
theorem dX2_addBlock_49 : decode cX2_addBlock 49 = .ok (.getfield 39, 3) := by decide +kernel
theorem dX2_addBlock_52 : decode cX2_addBlock 52 = .ok (.iload_n 1, 1) := by decide +kernel
theorem dX2_addBlock_53 : decode cX2_addBlock 53 = .ok (.isub, 1) := by decide +kernel
theorem dX2_addBlock_54 : decode cX2_addBlock 54 = .ok (.invokestatic 42, 3) := by decide +kernel
theorem dX2_addBlock_57 : decode cX2_addBlock 57 = .ok (.aload_n 0, 1) := by decide +kernel
theorem dX2_addBlock_58 : decode cX2_addBlock 58 = .ok (.getfield 15, 3) := by decide +kernel
theorem dX2_addBlock_61 : decode cX2_addBlock 61 = .ok (.iload_n 1, 1) := by decide +kernel
theorem dX2_addBlock_62 : decode cX2_addBlock 62 = .ok (.iload_n 2, 1) := by decide +kernel
theorem dX2_addBlock_63 : decode cX2_addBlock 63 = .ok (.iastore, 1) := by decide +kernel
theorem dX2_addBlock_64 : decode cX2_addBlock 64 = .ok (.aload_n 0, 1) := by decide +kernel
theorem dX2_addBlock_65 : decode cX2_addBlock 65 = .ok (.getfield 19, 3) := by decide +kernel
theorem dX2_addBlock_68 : decode cX2_addBlock 68 = .ok (.iload_n 1, 1) := by decide +kernel
theorem dX2_addBlock_69 : decode cX2_addBlock 69 = .ok (.iload_n 3, 1) := by decide +kernel
theorem dX2_addBlock_70 : decode cX2_addBlock 70 = .ok (.iastore, 1) := by decide +kernel
theorem dX2_addBlock_71 : decode cX2_addBlock 71 = .ok (.aload_n 0, 1) := by decide +kernel
theorem dX2_addBlock_72 : decode cX2_addBlock 72 = .ok (.dup, 1) := by decide +kernel
theorem dX2_addBlock_73 : decode cX2_addBlock 73 = .ok (.getfield 39, 3) := by decide +kernel
theorem dX2_addBlock_76 : decode cX2_addBlock 76 = .ok (.iconst 1, 1) := by decide +kernel
theorem dX2_addBlock_77 : decode cX2_addBlock 77 = .ok (.iadd, 1) := by decide +kernel
theorem dX2_addBlock_78 : decode cX2_addBlock 78 = .ok (.putfield 39, 3) := by decide +kernel
theorem dX2_addBlock_81 : decode cX2_addBlock 81 = .ok (.iload_n 2, 1) := by decide +kernel
theorem dX2_addBlock_82 : decode cX2_addBlock 82 = .ok (.iload_n 3, 1) := by decide +kernel
theorem dX2_addBlock_83 : decode cX2_addBlock 83 = .ok (.iadd, 1) := by decide +kernel
theorem dX2_addBlock_84 : decode cX2_addBlock 84 = .ok (.aload_n 0, 1) := by decide +kernel
theorem dX2_addBlock_85 : decode cX2_addBlock 85 = .ok (.getfield 32, 3) := by decide +kernel
theorem dX2_addBlock_88 : decode cX2_addBlock 88 = .ok (.if_icmp .le 24, 3) := by decide +kernel
theorem dX2_addBlock_91 : decode cX2_addBlock 91 = .ok (.aload_n 0, 1) := by decide +kernel
theorem dX2_addBlock_92 : decode cX2_addBlock 92 = .ok (.iload_n 2, 1) := by decide +kernel
theorem dX2_addBlock_93 : decode cX2_addBlock 93 = .ok (.iload_n 3, 1) := by decide +kernel
theorem dX2_addBlock_94 : decode cX2_addBlock 94 = .ok (.iadd, 1) := by decide +kernel
theorem dX2_addBlock_95 : decode cX2_addBlock 95 = .ok (.sipush 256, 3) := by decide +kernel
theorem dX2_addBlock_98 : decode cX2_addBlock 98 = .ok (.iadd, 1) := by decide +kernel
theorem dX2_addBlock_99 : decode cX2_addBlock 99 = .ok (.iconst 1, 1) := by decide +kernel
theorem dX2_addBlock_100 : decode cX2_addBlock 100 = .ok (.isub, 1) := by decide +kernel
theorem dX2_addBlock_101 : decode cX2_addBlock 101 = .ok (.sipush 256, 3) := by decide +kernel
theorem dX2_addBlock_104 : decode cX2_addBlock 104 = .ok (.idiv, 1) := by decide +kernel
theorem dX2_addBlock_105 : decode cX2_addBlock 105 = .ok (.sipush 256, 3) := by decide +kernel
theorem dX2_addBlock_108 : decode cX2_addBlock 108 = .ok (.imul, 1) := by decide +kernel
theorem dX2_addBlock_109 : decode cX2_addBlock 109 = .ok (.invokevirtual 57, 3) := by decide +kernel
theorem dX2_addBlock_112 : decode cX2_addBlock 112 = .ok (.return_, 1) := by decide +kernel
set_option maxRecDepth 20000 in
theorem ggX2_removeBlock_X2_changeSize : GoodIn wsX2_removeBlock wsX2_changeSize := goodIn_r _ [13, 14, 15, 16, 17, 18, 19, 20, 21, 22, 23, 24, 25, 26, 27, 28] (by decide +kernel) (by decide +kernel)
set_option maxRecDepth 20000 in
theorem gX2_removeBlock_X2_changeSize : GoodIn wsX2_removeBlock (wsV RX2 57 RX2 yX2_changeSize wsX2_changeSize) := goodIn_app (goodIn_of _ (by decide +kernel)) ggX2_removeBlock_X2_changeSize
theorem dX2_removeBlock_0 : decode cX2_removeBlock 0 = .ok (.aload_n 0, 1) := by decide +kernel
theorem dX2_removeBlock_1 : decode cX2_removeBlock 1 = .ok (.getfield 15, 3) := by decide +kernel
theorem dX2_removeBlock_4 : decode cX2_removeBlock 4 = .ok (.iload_n 1, 1) := by decide +kernel
theorem dX2_removeBlock_5 : decode cX2_removeBlock 5 = .ok (.iconst 1, 1) := by decide +kernel
theorem dX2_removeBlock_6 : decode cX2_removeBlock 6 = .ok (.iadd, 1) := by decide +kernel
theorem dX2_removeBlock_7 : decode cX2_removeBlock 7 = .ok (.aload_n 0, 1) := by decide +kernel
theorem dX2_removeBlock_8 : decode cX2_removeBlock 8 = .ok (.getfield 15, 3) := by decide +kernel
theorem dX2_removeBlock_11 : decode cX2_removeBlock 11 = .ok (.iload_n 1, 1) := by decide +kernel
theorem dX2_removeBlock_12 : decode cX2_removeBlock 12 = .ok (.aload_n 0, 1) := by decide +kernel
theorem dX2_removeBlock_13 : decode cX2_removeBlock 13 = .ok (.getfield 39, 3) := by decide +kernel
theorem dX2_removeBlock_16 : decode cX2_removeBlock 16 = .ok (.iload_n 1, 1) := by decide +kernel
theorem dX2_removeBlock_17 : decode cX2_removeBlock 17 = .ok (.isub, 1) := by decide +kernel
theorem dX2_removeBlock_18 : decode cX2_removeBlock 18 = .ok (.iconst 1, 1) := by decide +kernel
theorem dX2_removeBlock_19 : decode cX2_removeBlock 19 = .ok (.isub, 1) := by decide +kernel
theorem dX2_removeBlock_20 : decode cX2_removeBlock 20 = .ok (.invokestatic 42, 3) := by decide +kernel
theorem dX2_removeBlock_23 : decode cX2_removeBlock 23 = .ok (.aload_n 0, 1) := by decide +kernel
theorem dX2_removeBlock_24 : decode cX2_removeBlock 24 = .ok (.getfield 19, 3) := by decide +kernel
theorem dX2_removeBlock_27 : decode cX2_removeBlock 27 = .ok (.iload_n 1, 1) := by decide +kernel
theorem dX2_removeBlock_28 : decode cX2_removeBlock 28 = .ok (.iconst 1, 1) := by decide +kernel
theorem dX2_removeBlock_29 : decode cX2_removeBlock 29 = .ok (.iadd, 1) := by decide +kernel
theorem dX2_removeBlock_30 : decode cX2_removeBlock 30 = .ok (.aload_n 0, 1) := by decide +kernel
theorem dX2_removeBlock_31 : decode cX2_removeBlock 31 = .ok (.getfield 19, 3) := by decide +kernel
theorem dX2_removeBlock_34 : decode cX2_removeBlock 34 = .ok (.iload_n 1, 1) := by decide +kernel
theorem dX2_removeBlock_35 : decode cX2_removeBlock 35 = .ok (.aload_n 0, 1) := by decide +kernel
theorem dX2_removeBlock_36 : decode cX2_removeBlock 36 = .ok (.getfield 39, 3) := by decide +kernel
theorem dX2_removeBlock_39 : decode cX2_removeBlock 39 = .ok (.iload_n 1, 1) := by decide +kernel
theorem dX2_removeBlock_40 : decode cX2_removeBlock 40 = .ok (.isub, 1) := by decide +kernel
theorem dX2_removeBlock_41 : decode cX2_removeBlock 41 = .ok (.iconst 1, 1) := by decide +kernel
theorem dX2_removeBlock_42 : decode cX2_removeBlock 42 = .ok (.isub, 1) := by decide +kernel
theorem dX2_removeBlock_43 : decode cX2_removeBlock 43 = .ok (.invokestatic 42, 3) := by decide +kernel
theorem dX2_removeBlock_46 : decode cX2_removeBlock 46 = .ok (.aload_n 0, 1) := by decide +kernel
theorem dX2_removeBlock_47 : decode cX2_removeBlock 47 = .ok (.dup, 1) := by decide +kernel
theorem dX2_removeBlock_48 : decode cX2_removeBlock 48 = .ok (.getfield 39, 3) := by decide +kernel
theorem dX2_removeBlock_51 : decode cX2_removeBlock 51 = .ok (.iconst 1, 1) := by decide +kernel
theorem dX2_removeBlock_52 : decode cX2_removeBlock 52 = .ok (.isub, 1) := by decide +kernel
theorem dX2_removeBlock_53 : decode cX2_removeBlock 53 = .ok (.putfield 39, 3) := by decide +kernel
theorem dX2_removeBlock_56 : decode cX2_removeBlock 56 = .ok (.aload_n 0, 1) := by decide +kernel
theorem dX2_removeBlock_57 : decode cX2_removeBlock 57 = .ok (.getfield 39, 3) := by decide +kernel
theorem dX2_removeBlock_60 : decode cX2_removeBlock 60 = .ok (.ifCond .ne 16, 3) := by decide +kernel
theorem dX2_removeBlock_63 : decode cX2_removeBlock 63 = .ok (.aload_n 0, 1) := by decide +kernel
theorem dX2_removeBlock_64 : decode cX2_removeBlock 64 = .ok (.aload_n 0, 1) := by decide +kernel
theorem dX2_removeBlock_65 : decode cX2_removeBlock 65 = .ok (.getfield 36, 3) := by decide +kernel
theorem dX2_removeBlock_68 : decode cX2_removeBlock 68 = .ok (.invokevirtual 57, 3) := by decide +kernel
theorem dX2_removeBlock_71 : decode cX2_removeBlock 71 = .ok (.aload_n 0, 1) := by decide +kernel
theorem dX2_removeBlock_72 : decode cX2_removeBlock 72 = .ok (.iconst 0, 1) := by decide +kernel
theorem dX2_removeBlock_73 : decode cX2_removeBlock 73 = .ok (.putfield 36, 3) := by decide +kernel
theorem dX2_removeBlock_76 : decode cX2_removeBlock 76 = .ok (.return_, 1) := by decide +kernel
set_option maxRecDepth 20000 in
theorem ggX2_changedEnd_X2_difference : GoodIn wsX2_changedEnd wsX2_difference := goodIn_r _ [6, 7, 8, 9, 5, 10, 11, 12, 13, 14, 15, 16] (by decide +kernel) (by decide +kernel)
set_option maxRecDepth 20000 in
theorem gX2_changedEnd_X2_difference : GoodIn wsX2_changedEnd (wsV RX2 61 RX2 yX2_difference wsX2_difference) := goodIn_app (goodIn_of _ (by decide +kernel)) ggX2_changedEnd_X2_difference
theorem dX2_changedEnd_0 : decode cX2_changedEnd 0 = .ok (.aload_n 0, 1) := by decide +kernel
theorem dX2_changedEnd_1 : decode cX2_changedEnd 1 = .ok (.getfield 32, 3) := by decide +kernel
theorem dX2_changedEnd_4 : decode cX2_changedEnd 4 = .ok (.istore_n 1, 1) := by decide +kernel
theorem dX2_changedEnd_5 : decode cX2_changedEnd 5 = .ok (.iload_n 1, 1) := by decide +kernel
theorem dX2_changedEnd_6 : decode cX2_changedEnd 6 = .ok (.ifCond .le 21, 3) := by decide +kernel
theorem dX2_changedEnd_9 : decode cX2_changedEnd 9 = .ok (.aload_n 0, 1) := by decide +kernel
theorem dX2_changedEnd_10 : decode cX2_changedEnd 10 = .ok (.iload_n 1, 1) := by decide +kernel
theorem dX2_changedEnd_11 : decode cX2_changedEnd 11 = .ok (.iconst 1, 1) := by decide +kernel
theorem dX2_changedEnd_12 : decode cX2_changedEnd 12 = .ok (.isub, 1) := by decide +kernel
theorem dX2_changedEnd_13 : decode cX2_changedEnd 13 = .ok (.invokevirtual 61, 3) := by decide +kernel
theorem dX2_changedEnd_16 : decode cX2_changedEnd 16 = .ok (.ifCond .eq 5, 3) := by decide +kernel
theorem dX2_changedEnd_19 : decode cX2_changedEnd 19 = .ok (.iload_n 1, 1) := by decide +kernel
theorem dX2_changedEnd_20 : decode cX2_changedEnd 20 = .ok (.ireturn, 1) := by decide +kernel
theorem dX2_changedEnd_21 : decode cX2_changedEnd 21 = .ok (.iinc 1 (-1), 3) := by decide +kernel
theorem dX2_changedEnd_24 : decode cX2_changedEnd 24 = .ok (.goto (-19), 3) := by decide +kernel
theorem dX2_changedEnd_27 : decode cX2_changedEnd 27 = .ok (.iconst 0, 1) := by decide +kernel
theorem dX2_changedEnd_28 : decode cX2_changedEnd 28 = .ok (.ireturn, 1) := by decide +kernel
set_option maxRecDepth 20000 in
theorem ggX2_unchangedRow_X2_difference : GoodIn wsX2_unchangedRow wsX2_difference := goodIn_r _ [9, 10, 11, 12, 8, 13, 14, 15, 16, 17, 18, 19] (by decide +kernel) (by decide +kernel)
set_option maxRecDepth 20000 in
theorem gX2_unchangedRow_X2_difference : GoodIn wsX2_unchangedRow (wsV RX2 61 RX2 yX2_difference wsX2_difference) := goodIn_app (goodIn_of _ (by decide +kernel)) ggX2_unchangedRow_X2_difference
theorem dX2_unchangedRow_0 : decode cX2_unchangedRow 0 = .ok (.iload_n 2, 1) := by decide +kernel
theorem dX2_unchangedRow_1 : decode cX2_unchangedRow 1 = .ok (.iload_n 1, 1) := by decide +kernel
theorem dX2_unchangedRow_2 : decode cX2_unchangedRow 2 = .ok (.sipush 256, 3) := by decide +kernel
theorem dX2_unchangedRow_5 : decode cX2_unchangedRow 5 = .ok (.iadd, 1) := by decide +kernel
theorem dX2_unchangedRow_6 : decode cX2_unchangedRow 6 = .ok (.invokestatic 64, 3) := by decide +kernel
theorem dX2_unchangedRow_9 : decode cX2_unchangedRow 9 = .ok (.istore_n 3, 1) := by decide +kernel
theorem dX2_unchangedRow_10 : decode cX2_unchangedRow 10 = .ok (.iload_n 1, 1) := by decide +kernel
theorem dX2_unchangedRow_11 : decode cX2_unchangedRow 11 = .ok (.istore 4, 2) := by decide +kernel
theorem dX2_unchangedRow_13 : decode cX2_unchangedRow 13 = .ok (.iload 4, 2) := by decide +kernel
theorem dX2_unchangedRow_15 : decode cX2_unchangedRow 15 = .ok (.iload_n 3, 1) := by decide +kernel
theorem dX2_unchangedRow_16 : decode cX2_unchangedRow 16 = .ok (.if_icmp .ge 23, 3) := by decide +kernel
theorem dX2_unchangedRow_19 : decode cX2_unchangedRow 19 = .ok (.aload_n 0, 1) := by decide +kernel
theorem dX2_unchangedRow_20 : decode cX2_unchangedRow 20 = .ok (.iload 4, 2) := by decide +kernel
theorem dX2_unchangedRow_22 : decode cX2_unchangedRow 22 = .ok (.invokevirtual 61, 3) := by decide +kernel
theorem dX2_unchangedRow_25 : decode cX2_unchangedRow 25 = .ok (.ifCond .eq 8, 3) := by decide +kernel
theorem dX2_unchangedRow_28 : decode cX2_unchangedRow 28 = .ok (.iload 4, 2) := by decide +kernel
theorem dX2_unchangedRow_30 : decode cX2_unchangedRow 30 = .ok (.iload_n 1, 1) := by decide +kernel
theorem dX2_unchangedRow_31 : decode cX2_unchangedRow 31 = .ok (.isub, 1) := by decide +kernel
theorem dX2_unchangedRow_32 : decode cX2_unchangedRow 32 = .ok (.ireturn, 1) := by decide +kernel
theorem dX2_unchangedRow_33 : decode cX2_unchangedRow 33 = .ok (.iinc 4 1, 3) := by decide +kernel
theorem dX2_unchangedRow_36 : decode cX2_unchangedRow 36 = .ok (.goto (-23), 3) := by decide +kernel
theorem dX2_unchangedRow_39 : decode cX2_unchangedRow 39 = .ok (.iload_n 3, 1) := by decide +kernel
theorem dX2_unchangedRow_40 : decode cX2_unchangedRow 40 = .ok (.iload_n 1, 1) := by decide +kernel
theorem dX2_unchangedRow_41 : decode cX2_unchangedRow 41 = .ok (.isub, 1) := by decide +kernel
theorem dX2_unchangedRow_42 : decode cX2_unchangedRow 42 = .ok (.ireturn, 1) := by decide +kernel
