set_option maxRecDepth 20000 in
theorem ggX4_init_X4_first : GoodIn wsX4_init wsX4_first := goodIn_r _ [21] (by decide +kernel) (by decide +kernel)
set_option maxRecDepth 20000 in
theorem gX4_init_X4_first : GoodIn wsX4_init (va_wsS RX4 48 yX4_first wsX4_first) := goodIn_app (goodIn_of _ (by decide +kernel)) ggX4_init_X4_first
theorem dX4_init_0 : decode cX4_init 0 = .ok (.aload_n 0, 1) := by decide +kernel
theorem dX4_init_1 : decode cX4_init 1 = .ok (.invokespecial 1, 3) := by decide +kernel
theorem dX4_init_4 : decode cX4_init 4 = .ok (.aload_n 0, 1) := by decide +kernel
theorem dX4_init_5 : decode cX4_init 5 = .ok (.sipush 8192, 3) := by decide +kernel
theorem dX4_init_8 : decode cX4_init 8 = .ok (.newarray .int, 2) := by decide +kernel
theorem dX4_init_10 : decode cX4_init 10 = .ok (.putfield 7, 3) := by decide +kernel
theorem dX4_init_13 : decode cX4_init 13 = .ok (.aload_n 0, 1) := by decide +kernel
theorem dX4_init_14 : decode cX4_init 14 = .ok (.bipush 65, 2) := by decide +kernel
theorem dX4_init_16 : decode cX4_init 16 = .ok (.newarray .int, 2) := by decide +kernel
theorem dX4_init_18 : decode cX4_init 18 = .ok (.putfield 13, 3) := by decide +kernel
theorem dX4_init_21 : decode cX4_init 21 = .ok (.aload_n 0, 1) := by decide +kernel
theorem dX4_init_22 : decode cX4_init 22 = .ok (.bipush 65, 2) := by decide +kernel
theorem dX4_init_24 : decode cX4_init 24 = .ok (.newarray .int, 2) := by decide +kernel
theorem dX4_init_26 : decode cX4_init 26 = .ok (.putfield 16, 3) := by decide +kernel
theorem dX4_init_29 : decode cX4_init 29 = .ok (.aload_n 0, 1) := by decide +kernel
theorem dX4_init_30 : decode cX4_init 30 = .ok (.ldc 19, 2) := by decide +kernel
theorem dX4_init_32 : decode cX4_init 32 = .ok (.newarray .int, 2) := by decide +kernel
theorem dX4_init_34 : decode cX4_init 34 = .ok (.putfield 20, 3) := by decide +kernel
theorem dX4_init_37 : decode cX4_init 37 = .ok (.aload_n 0, 1) := by decide +kernel
theorem dX4_init_38 : decode cX4_init 38 = .ok (.iconst 5, 1) := by decide +kernel
theorem dX4_init_39 : decode cX4_init 39 = .ok (.newarray .int, 2) := by decide +kernel
theorem dX4_init_41 : decode cX4_init 41 = .ok (.putfield 23, 3) := by decide +kernel
theorem dX4_init_44 : decode cX4_init 44 = .ok (.aload_n 0, 1) := by decide +kernel
theorem dX4_init_45 : decode cX4_init 45 = .ok (.iconst 5, 1) := by decide +kernel
theorem dX4_init_46 : decode cX4_init 46 = .ok (.newarray .int, 2) := by decide +kernel
theorem dX4_init_48 : decode cX4_init 48 = .ok (.putfield 26, 3) := by decide +kernel
theorem dX4_init_51 : decode cX4_init 51 = .ok (.aload_n 0, 1) := by decide +kernel
theorem dX4_init_52 : decode cX4_init 52 = .ok (.iconst 5, 1) := by decide +kernel
theorem dX4_init_53 : decode cX4_init 53 = .ok (.newarray .int, 2) := by decide +kernel
theorem dX4_init_55 : decode cX4_init 55 = .ok (.putfield 29, 3) := by decide +kernel
theorem dX4_init_58 : decode cX4_init 58 = .ok (.aload_n 0, 1) := by decide +kernel
theorem dX4_init_59 : decode cX4_init 59 = .ok (.sipush 320, 3) := by decide +kernel
theorem dX4_init_62 : decode cX4_init 62 = .ok (.newarray .int, 2) := by decide +kernel
theorem dX4_init_64 : decode cX4_init 64 = .ok (.putfield 32, 3) := by decide +kernel
theorem dX4_init_67 : decode cX4_init 67 = .ok (.aload_n 0, 1) := by decide +kernel
theorem dX4_init_68 : decode cX4_init 68 = .ok (.sipush 320, 3) := by decide +kernel
theorem dX4_init_71 : decode cX4_init 71 = .ok (.newarray .int, 2) := by decide +kernel
theorem dX4_init_73 : decode cX4_init 73 = .ok (.putfield 35, 3) := by decide +kernel
theorem dX4_init_76 : decode cX4_init 76 = .ok (.aload_n 0, 1) := by decide +kernel
theorem dX4_init_77 : decode cX4_init 77 = .ok (.sipush 20000, 3) := by decide +kernel
theorem dX4_init_80 : decode cX4_init 80 = .ok (.newarray .int, 2) := by decide +kernel
theorem dX4_init_82 : decode cX4_init 82 = .ok (.putfield 38, 3) := by decide +kernel
theorem dX4_init_85 : decode cX4_init 85 = .ok (.aload_n 0, 1) := by decide +kernel
theorem dX4_init_86 : decode cX4_init 86 = .ok (.bipush 64, 2) := by decide +kernel
theorem dX4_init_88 : decode cX4_init 88 = .ok (.newarray .int, 2) := by decide +kernel
theorem dX4_init_90 : decode cX4_init 90 = .ok (.putfield 41, 3) := by decide +kernel
theorem dX4_init_93 : decode cX4_init 93 = .ok (.aload_n 0, 1) := by decide +kernel
theorem dX4_init_94 : decode cX4_init 94 = .ok (.sipush 1024, 3) := by decide +kernel
theorem dX4_init_97 : decode cX4_init 97 = .ok (.putfield 44, 3) := by decide +kernel
theorem dX4_init_100 : decode cX4_init 100 = .ok (.iconst 0, 1) := by decide +kernel
theorem dX4_init_101 : decode cX4_init 101 = .ok (.istore_n 1, 1) := by decide +kernel
theorem dX4_init_102 : decode cX4_init 102 = .ok (.iload_n 1, 1) := by decide +kernel
theorem dX4_init_103 : decode cX4_init 103 = .ok (.sipush 8192, 3) := by decide +kernel
theorem dX4_init_106 : decode cX4_init 106 = .ok (.if_icmp .ge 19, 3) := by decide +kernel
theorem dX4_init_109 : decode cX4_init 109 = .ok (.aload_n 0, 1) := by decide +kernel
theorem dX4_init_110 : decode cX4_init 110 = .ok (.getfield 7, 3) := by decide +kernel
theorem dX4_init_113 : decode cX4_init 113 = .ok (.iload_n 1, 1) := by decide +kernel
theorem dX4_init_114 : decode cX4_init 114 = .ok (.iload_n 1, 1) := by decide +kernel
theorem dX4_init_115 : decode cX4_init 115 = .ok (.invokestatic 48, 3) := by decide +kernel
theorem dX4_init_118 : decode cX4_init 118 = .ok (.iastore, 1) := by decide +kernel
theorem dX4_init_119 : decode cX4_init 119 = .ok (.iinc 1 1, 3) := by decide +kernel
theorem dX4_init_122 : decode cX4_init 122 = .ok (.goto (-20), 3) := by decide +kernel
theorem dX4_init_125 : decode cX4_init 125 = .ok (.return_, 1) := by decide +kernel
theorem dX4_first_0 : decode cX4_first 0 = .ok (.iload_n 0, 1) := by decide +kernel
theorem dX4_first_1 : decode cX4_first 1 = .ok (.bipush 64, 2) := by decide +kernel
theorem dX4_first_3 : decode cX4_first 3 = .ok (.if_icmp .ge 14, 3) := by decide +kernel
theorem dX4_first_6 : decode cX4_first 6 = .ok (.bipush 7, 2) := by decide +kernel
theorem dX4_first_8 : decode cX4_first 8 = .ok (.iload_n 0, 1) := by decide +kernel
theorem dX4_first_9 : decode cX4_first 9 = .ok (.imul, 1) := by decide +kernel
theorem dX4_first_10 : decode cX4_first 10 = .ok (.sipush 255, 3) := by decide +kernel
theorem dX4_first_13 : decode cX4_first 13 = .ok (.iand, 1) := by decide +kernel
theorem dX4_first_14 : decode cX4_first 14 = .ok (.goto 4, 3) := by decide +kernel
theorem dX4_first_17 : decode cX4_first 17 = .ok (.iconst 0, 1) := by decide +kernel
theorem dX4_first_18 : decode cX4_first 18 = .ok (.ireturn, 1) := by decide +kernel
theorem dX4_isIn_0 : decode cX4_isIn 0 = .ok (.lload_n 3, 1) := by decide +kernel
theorem dX4_isIn_1 : decode cX4_isIn 1 = .ok (.lconst 0, 1) := by decide +kernel
theorem dX4_isIn_2 : decode cX4_isIn 2 = .ok (.lcmp, 1) := by decide +kernel
theorem dX4_isIn_3 : decode cX4_isIn 3 = .ok (.ifCond .eq 21, 3) := by decide +kernel
theorem dX4_isIn_6 : decode cX4_isIn 6 = .ok (.lload_n 1, 1) := by decide +kernel
theorem dX4_isIn_7 : decode cX4_isIn 7 = .ok (.lconst 0, 1) := by decide +kernel
theorem dX4_isIn_8 : decode cX4_isIn 8 = .ok (.lcmp, 1) := by decide +kernel
theorem dX4_isIn_9 : decode cX4_isIn 9 = .ok (.ifCond .lt 19, 3) := by decide +kernel
theorem dX4_isIn_12 : decode cX4_isIn 12 = .ok (.lload_n 1, 1) := by decide +kernel
theorem dX4_isIn_13 : decode cX4_isIn 13 = .ok (.lload_n 3, 1) := by decide +kernel
theorem dX4_isIn_14 : decode cX4_isIn 14 = .ok (.ladd, 1) := by decide +kernel
theorem dX4_isIn_15 : decode cX4_isIn 15 = .ok (.aload_n 0, 1) := by decide +kernel
theorem dX4_isIn_16 : decode cX4_isIn 16 = .ok (.getfield 44, 3) := by decide +kernel
theorem dX4_isIn_19 : decode cX4_isIn 19 = .ok (.i2l, 1) := by decide +kernel
theorem dX4_isIn_20 : decode cX4_isIn 20 = .ok (.lcmp, 1) := by decide +kernel
theorem dX4_isIn_21 : decode cX4_isIn 21 = .ok (.ifCond .gt 7, 3) := by decide +kernel
theorem dX4_isIn_24 : decode cX4_isIn 24 = .ok (.iconst 1, 1) := by decide +kernel
theorem dX4_isIn_25 : decode cX4_isIn 25 = .ok (.goto 4, 3) := by decide +kernel
theorem dX4_isIn_28 : decode cX4_isIn 28 = .ok (.iconst 0, 1) := by decide +kernel
theorem dX4_isIn_29 : decode cX4_isIn 29 = .ok (.ireturn, 1) := by decide +kernel
theorem dX4_isWidth_0 : decode cX4_isWidth 0 = .ok (.iload_n 0, 1) := by decide +kernel
theorem dX4_isWidth_1 : decode cX4_isWidth 1 = .ok (.iconst 1, 1) := by decide +kernel
theorem dX4_isWidth_2 : decode cX4_isWidth 2 = .ok (.if_icmp .eq 13, 3) := by decide +kernel
theorem dX4_isWidth_5 : decode cX4_isWidth 5 = .ok (.iload_n 0, 1) := by decide +kernel
theorem dX4_isWidth_6 : decode cX4_isWidth 6 = .ok (.iconst 2, 1) := by decide +kernel
theorem dX4_isWidth_7 : decode cX4_isWidth 7 = .ok (.if_icmp .eq 8, 3) := by decide +kernel
theorem dX4_isWidth_10 : decode cX4_isWidth 10 = .ok (.iload_n 0, 1) := by decide +kernel
theorem dX4_isWidth_11 : decode cX4_isWidth 11 = .ok (.iconst 4, 1) := by decide +kernel
theorem dX4_isWidth_12 : decode cX4_isWidth 12 = .ok (.if_icmp .ne 7, 3) := by decide +kernel
theorem dX4_isWidth_15 : decode cX4_isWidth 15 = .ok (.iconst 1, 1) := by decide +kernel
theorem dX4_isWidth_16 : decode cX4_isWidth 16 = .ok (.goto 4, 3) := by decide +kernel
theorem dX4_isWidth_19 : decode cX4_isWidth 19 = .ok (.iconst 0, 1) := by decide +kernel
theorem dX4_isWidth_20 : decode cX4_isWidth 20 = .ok (.ireturn, 1) := by decide +kernel
theorem dX4_number_0 : decode cX4_number 0 = .ok (.lconst 0, 1) := by decide +kernel
theorem dX4_number_1 : decode cX4_number 1 = .ok (.lstore_n 3, 1) := by decide +kernel
theorem dX4_number_2 : decode cX4_number 2 = .ok (.iconst 0, 1) := by decide +kernel
theorem dX4_number_3 : decode cX4_number 3 = .ok (.istore 5, 2) := by decide +kernel
theorem dX4_number_5 : decode cX4_number 5 = .ok (.iload 5, 2) := by decide +kernel
theorem dX4_number_7 : decode cX4_number 7 = .ok (.iload_n 2, 1) := by decide +kernel
theorem dX4_number_8 : decode cX4_number 8 = .ok (.if_icmp .ge 25, 3) := by decide +kernel
theorem dX4_number_11 : decode cX4_number 11 = .ok (.lload_n 3, 1) := by decide +kernel
theorem dX4_number_12 : decode cX4_number 12 = .ok (.bipush 8, 2) := by decide +kernel
theorem dX4_number_14 : decode cX4_number 14 = .ok (.lshl, 1) := by decide +kernel
theorem dX4_number_15 : decode cX4_number 15 = .ok (.aload_n 0, 1) := by decide +kernel
theorem dX4_number_16 : decode cX4_number 16 = .ok (.getfield 7, 3) := by decide +kernel
theorem dX4_number_19 : decode cX4_number 19 = .ok (.iload_n 1, 1) := by decide +kernel
theorem dX4_number_20 : decode cX4_number 20 = .ok (.iload 5, 2) := by decide +kernel
theorem dX4_number_22 : decode cX4_number 22 = .ok (.iadd, 1) := by decide +kernel
theorem dX4_number_23 : decode cX4_number 23 = .ok (.iaload, 1) := by decide +kernel
theorem dX4_number_24 : decode cX4_number 24 = .ok (.i2l, 1) := by decide +kernel
theorem dX4_number_25 : decode cX4_number 25 = .ok (.lor, 1) := by decide +kernel
theorem dX4_number_26 : decode cX4_number 26 = .ok (.lstore_n 3, 1) := by decide +kernel
theorem dX4_number_27 : decode cX4_number 27 = .ok (.iinc 5 1, 3) := by decide +kernel
theorem dX4_number_30 : decode cX4_number 30 = .ok (.goto (-25), 3) := by decide +kernel
theorem dX4_number_33 : decode cX4_number 33 = .ok (.lload_n 3, 1) := by decide +kernel
theorem dX4_number_34 : decode cX4_number 34 = .ok (.lreturn, 1) := by decide +kernel
set_option maxRecDepth 20000 in
theorem ggX4_get_X4_isWidth : GoodIn wsX4_get wsX4_isWidth := goodIn_r _ [6] (by decide +kernel) (by decide +kernel)
set_option maxRecDepth 20000 in
theorem gX4_get_X4_isWidth : GoodIn wsX4_get (va_wsS RX4 52 yX4_isWidth wsX4_isWidth) := goodIn_app (goodIn_of _ (by decide +kernel)) ggX4_get_X4_isWidth
set_option maxRecDepth 20000 in
theorem ggX4_get_X4_isIn : GoodIn wsX4_get wsX4_isIn := goodIn_r _ [10, 11, 17, 18, 19, 20, 21, 22, 23, 24, 25, 26, 27, 28, 29, 30, 31, 32, 33, 34] (by decide +kernel) (by decide +kernel)
set_option maxRecDepth 20000 in
theorem gX4_get_X4_isIn : GoodIn wsX4_get (wsV RX4 58 RX4 yX4_isIn wsX4_isIn) := goodIn_app (goodIn_of _ (by decide +kernel)) ggX4_get_X4_isIn
set_option maxRecDepth 20000 in
theorem ggX4_get_X4_number : GoodIn wsX4_get wsX4_number := goodIn_r _ [15, 16, 17, 18, 19, 20, 21, 22, 23, 24, 25, 26, 27, 28, 29, 30, 31, 32, 33, 34] (by decide +kernel) (by decide +kernel)
set_option maxRecDepth 20000 in
theorem gX4_get_X4_number : GoodIn wsX4_get (wsV RX4 62 RX4 yX4_number wsX4_number) := goodIn_app (goodIn_of _ (by decide +kernel)) ggX4_get_X4_number
theorem dX4_get_0 : decode cX4_get 0 = .ok (.iload_n 2, 1) := by decide +kernel
theorem dX4_get_1 : decode cX4_get 1 = .ok (.invokestatic 52, 3) := by decide +kernel
theorem dX4_get_4 : decode cX4_get 4 = .ok (.ifCond .eq 7, 3) := by decide +kernel
theorem dX4_get_7 : decode cX4_get 7 = .ok (.iload_n 1, 1) := by decide +kernel
theorem dX4_get_8 : decode cX4_get 8 = .ok (.ifCond .ge 7, 3) := by decide +kernel
theorem dX4_get_11 : decode cX4_get 11 = .ok (.ldc2_w 56, 3) := by decide +kernel
theorem dX4_get_14 : decode cX4_get 14 = .ok (.lreturn, 1) := by decide +kernel
theorem dX4_get_15 : decode cX4_get 15 = .ok (.aload_n 0, 1) := by decide +kernel
theorem dX4_get_16 : decode cX4_get 16 = .ok (.iload_n 1, 1) := by decide +kernel
theorem dX4_get_17 : decode cX4_get 17 = .ok (.i2l, 1) := by decide +kernel
theorem dX4_get_18 : decode cX4_get 18 = .ok (.iload_n 2, 1) := by decide +kernel
theorem dX4_get_19 : decode cX4_get 19 = .ok (.i2l, 1) := by decide +kernel
theorem dX4_get_20 : decode cX4_get 20 = .ok (.invokevirtual 58, 3) := by decide +kernel
theorem dX4_get_23 : decode cX4_get 23 = .ok (.ifCond .eq 12, 3) := by decide +kernel
theorem dX4_get_26 : decode cX4_get 26 = .ok (.aload_n 0, 1) := by decide +kernel
theorem dX4_get_27 : decode cX4_get 27 = .ok (.iload_n 1, 1) := by decide +kernel
theorem dX4_get_28 : decode cX4_get 28 = .ok (.iload_n 2, 1) := by decide +kernel
theorem dX4_get_29 : decode cX4_get 29 = .ok (.invokevirtual 62, 3) := by decide +kernel
theorem dX4_get_32 : decode cX4_get 32 = .ok (.goto 6, 3) := by decide +kernel
theorem dX4_get_35 : decode cX4_get 35 = .ok (.ldc2_w 66, 3) := by decide +kernel
theorem dX4_get_38 : decode cX4_get 38 = .ok (.lreturn, 1) := by decide +kernel
set_option maxRecDepth 20000 in
theorem ggX4_set_X4_isWidth : GoodIn wsX4_set wsX4_isWidth := goodIn_r _ [5] (by decide +kernel) (by decide +kernel)
set_option maxRecDepth 20000 in
theorem gX4_set_X4_isWidth : GoodIn wsX4_set (va_wsS RX4 52 yX4_isWidth wsX4_isWidth) := goodIn_app (goodIn_of _ (by decide +kernel)) ggX4_set_X4_isWidth
set_option maxRecDepth 20000 in
theorem ggX4_set_X4_isIn : GoodIn wsX4_set wsX4_isIn := goodIn_r _ [9, 10, 11, 12, 13, 14, 15, 16, 17, 18, 19, 20, 21, 22, 23, 24, 25, 26, 27, 28] (by decide +kernel) (by decide +kernel)
set_option maxRecDepth 20000 in
theorem gX4_set_X4_isIn : GoodIn wsX4_set (wsV RX4 58 RX4 yX4_isIn wsX4_isIn) := goodIn_app (goodIn_of _ (by decide +kernel)) ggX4_set_X4_isIn
theorem dX4_set_0 : decode cX4_set 0 = .ok (.iload_n 2, 1) := by decide +kernel
theorem dX4_set_1 : decode cX4_set 1 = .ok (.invokestatic 52, 3) := by decide +kernel
theorem dX4_set_4 : decode cX4_set 4 = .ok (.ifCond .eq 7, 3) := by decide +kernel
theorem dX4_set_7 : decode cX4_set 7 = .ok (.iload_n 1, 1) := by decide +kernel
theorem dX4_set_8 : decode cX4_set 8 = .ok (.ifCond .ge 6, 3) := by decide +kernel
theorem dX4_set_11 : decode cX4_set 11 = .ok (.bipush (-11), 2) := by decide +kernel
theorem dX4_set_13 : decode cX4_set 13 = .ok (.ireturn, 1) := by decide +kernel
theorem dX4_set_14 : decode cX4_set 14 = .ok (.aload_n 0, 1) := by decide +kernel
theorem dX4_set_15 : decode cX4_set 15 = .ok (.iload_n 1, 1) := by decide +kernel
theorem dX4_set_16 : decode cX4_set 16 = .ok (.i2l, 1) := by decide +kernel
theorem dX4_set_17 : decode cX4_set 17 = .ok (.iload_n 2, 1) := by decide +kernel
theorem dX4_set_18 : decode cX4_set 18 = .ok (.i2l, 1) := by decide +kernel
theorem dX4_set_19 : decode cX4_set 19 = .ok (.invokevirtual 58, 3) := by decide +kernel
theorem dX4_set_22 : decode cX4_set 22 = .ok (.ifCond .ne 6, 3) := by decide +kernel
theorem dX4_set_25 : decode cX4_set 25 = .ok (.bipush (-12), 2) := by decide +kernel
theorem dX4_set_27 : decode cX4_set 27 = .ok (.ireturn, 1) := by decide +kernel
theorem dX4_set_28 : decode cX4_set 28 = .ok (.iload_n 1, 1) := by decide +kernel
theorem dX4_set_29 : decode cX4_set 29 = .ok (.bipush 64, 2) := by decide +kernel
theorem dX4_set_31 : decode cX4_set 31 = .ok (.if_icmp .ge 6, 3) := by decide +kernel
theorem dX4_set_34 : decode cX4_set 34 = .ok (.bipush (-13), 2) := by decide +kernel
theorem dX4_set_36 : decode cX4_set 36 = .ok (.ireturn, 1) := by decide +kernel
theorem dX4_set_37 : decode cX4_set 37 = .ok (.iconst 0, 1) := by decide +kernel
theorem dX4_set_38 : decode cX4_set 38 = .ok (.istore 4, 2) := by decide +kernel
theorem dX4_set_40 : decode cX4_set 40 = .ok (.iload 4, 2) := by decide +kernel
theorem dX4_set_42 : decode cX4_set 42 = .ok (.iload_n 2, 1) := by decide +kernel
theorem dX4_set_43 : decode cX4_set 43 = .ok (.if_icmp .ge 33, 3) := by decide +kernel
theorem dX4_set_46 : decode cX4_set 46 = .ok (.aload_n 0, 1) := by decide +kernel
theorem dX4_set_47 : decode cX4_set 47 = .ok (.getfield 7, 3) := by decide +kernel
theorem dX4_set_50 : decode cX4_set 50 = .ok (.iload_n 1, 1) := by decide +kernel
theorem dX4_set_51 : decode cX4_set 51 = .ok (.iload 4, 2) := by decide +kernel
theorem dX4_set_53 : decode cX4_set 53 = .ok (.iadd, 1) := by decide +kernel
theorem dX4_set_54 : decode cX4_set 54 = .ok (.iload_n 3, 1) := by decide +kernel
theorem dX4_set_55 : decode cX4_set 55 = .ok (.bipush 8, 2) := by decide +kernel
theorem dX4_set_57 : decode cX4_set 57 = .ok (.iload_n 2, 1) := by decide +kernel
theorem dX4_set_58 : decode cX4_set 58 = .ok (.iconst 1, 1) := by decide +kernel
theorem dX4_set_59 : decode cX4_set 59 = .ok (.isub, 1) := by decide +kernel
theorem dX4_set_60 : decode cX4_set 60 = .ok (.iload 4, 2) := by decide +kernel
theorem dX4_set_62 : decode cX4_set 62 = .ok (.isub, 1) := by decide +kernel
theorem dX4_set_63 : decode cX4_set 63 = .ok (.imul, 1) := by decide +kernel
theorem dX4_set_64 : decode cX4_set 64 = .ok (.ishr, 1) := by decide +kernel
theorem dX4_set_65 : decode cX4_set 65 = .ok (.sipush 255, 3) := by decide +kernel
theorem dX4_set_68 : decode cX4_set 68 = .ok (.iand, 1) := by decide +kernel
theorem dX4_set_69 : decode cX4_set 69 = .ok (.iastore, 1) := by decide +kernel
theorem dX4_set_70 : decode cX4_set 70 = .ok (.iinc 4 1, 3) := by decide +kernel
theorem dX4_set_73 : decode cX4_set 73 = .ok (.goto (-33), 3) := by decide +kernel
theorem dX4_set_76 : decode cX4_set 76 = .ok (.iconst 1, 1) := by decide +kernel
theorem dX4_set_77 : decode cX4_set 77 = .ok (.ireturn, 1) := by decide +kernel
set_option maxRecDepth 20000 in
theorem ggX4_zero_X4_isIn : GoodIn wsX4_zero wsX4_isIn := goodIn_r _ [6, 7, 8, 9, 10, 11, 12, 13, 14, 15, 16, 17, 18, 19, 20, 21, 22, 23, 24, 25] (by decide +kernel) (by decide +kernel)
set_option maxRecDepth 20000 in
theorem gX4_zero_X4_isIn : GoodIn wsX4_zero (wsV RX4 58 RX4 yX4_isIn wsX4_isIn) := goodIn_app (goodIn_of _ (by decide +kernel)) ggX4_zero_X4_isIn
theorem dX4_zero_0 : decode cX4_zero 0 = .ok (.iload_n 1, 1) := by decide +kernel
theorem dX4_zero_1 : decode cX4_zero 1 = .ok (.ifCond .lt 7, 3) := by decide +kernel
theorem dX4_zero_4 : decode cX4_zero 4 = .ok (.iload_n 2, 1) := by decide +kernel
theorem dX4_zero_5 : decode cX4_zero 5 = .ok (.ifCond .ge 6, 3) := by decide +kernel
theorem dX4_zero_8 : decode cX4_zero 8 = .ok (.bipush (-11), 2) := by decide +kernel
theorem dX4_zero_10 : decode cX4_zero 10 = .ok (.ireturn, 1) := by decide +kernel
theorem dX4_zero_11 : decode cX4_zero 11 = .ok (.aload_n 0, 1) := by decide +kernel
theorem dX4_zero_12 : decode cX4_zero 12 = .ok (.iload_n 1, 1) := by decide +kernel
theorem dX4_zero_13 : decode cX4_zero 13 = .ok (.i2l, 1) := by decide +kernel
theorem dX4_zero_14 : decode cX4_zero 14 = .ok (.iload_n 2, 1) := by decide +kernel
theorem dX4_zero_15 : decode cX4_zero 15 = .ok (.i2l, 1) := by decide +kernel
theorem dX4_zero_16 : decode cX4_zero 16 = .ok (.invokevirtual 58, 3) := by decide +kernel
theorem dX4_zero_19 : decode cX4_zero 19 = .ok (.ifCond .ne 6, 3) := by decide +kernel
theorem dX4_zero_22 : decode cX4_zero 22 = .ok (.bipush (-12), 2) := by decide +kernel
theorem dX4_zero_24 : decode cX4_zero 24 = .ok (.ireturn, 1) := by decide +kernel
theorem dX4_zero_25 : decode cX4_zero 25 = .ok (.iload_n 2, 1) := by decide +kernel
theorem dX4_zero_26 : decode cX4_zero 26 = .ok (.ifCond .le 12, 3) := by decide +kernel
theorem dX4_zero_29 : decode cX4_zero 29 = .ok (.iload_n 1, 1) := by decide +kernel
theorem dX4_zero_30 : decode cX4_zero 30 = .ok (.bipush 64, 2) := by decide +kernel
theorem dX4_zero_32 : decode cX4_zero 32 = .ok (.if_icmp .ge 6, 3) := by decide +kernel
theorem dX4_zero_35 : decode cX4_zero 35 = .ok (.bipush (-13), 2) := by decide +kernel
theorem dX4_zero_37 : decode cX4_zero 37 = .ok (.ireturn, 1) := by decide +kernel
theorem dX4_zero_38 : decode cX4_zero 38 = .ok (.iconst 0, 1) := by decide +kernel
theorem dX4_zero_39 : decode cX4_zero 39 = .ok (.istore_n 3, 1) := by decide +kernel
theorem dX4_zero_40 : decode cX4_zero 40 = .ok (.iload_n 3, 1) := by decide +kernel
theorem dX4_zero_41 : decode cX4_zero 41 = .ok (.iload_n 2, 1) := by decide +kernel
theorem dX4_zero_42 : decode cX4_zero 42 = .ok (.if_icmp .ge 18, 3) := by decide +kernel
theorem dX4_zero_45 : decode cX4_zero 45 = .ok (.aload_n 0, 1) := by decide +kernel
theorem dX4_zero_46 : decode cX4_zero 46 = .ok (.getfield 7, 3) := by decide +kernel
theorem dX4_zero_49 : decode cX4_zero 49 = .ok (.iload_n 1, 1) := by decide +kernel
theorem dX4_zero_50 : decode cX4_zero 50 = .ok (.iload_n 3, 1) := by decide +kernel
theorem dX4_zero_51 : decode cX4_zero 51 = .ok (.iadd, 1) := by decide +kernel
theorem dX4_zero_52 : decode cX4_zero 52 = .ok (.iconst 0, 1) := by decide +kernel
theorem dX4_zero_53 : decode cX4_zero 53 = .ok (.iastore, 1) := by decide +kernel
theorem dX4_zero_54 : decode cX4_zero 54 = .ok (.iinc 3 1, 3) := by decide +kernel
theorem dX4_zero_57 : decode cX4_zero 57 = .ok (.goto (-17), 3) := by decide +kernel
theorem dX4_zero_60 : decode cX4_zero 60 = .ok (.iconst 1, 1) := by decide +kernel
theorem dX4_zero_61 : decode cX4_zero 61 = .ok (.ireturn, 1) := by decide +kernel
set_option maxRecDepth 20000 in
theorem ggX4_copy_X4_isIn : GoodIn wsX4_copy wsX4_isIn := goodIn_r _ [6, 7, 8, 9, 10, 11, 12, 13, 14, 15, 16, 17, 18, 19, 20, 21, 22, 23, 24, 25] (by decide +kernel) (by decide +kernel)
set_option maxRecDepth 20000 in
theorem gX4_copy_X4_isIn : GoodIn wsX4_copy (wsV RX4 58 RX4 yX4_isIn wsX4_isIn) := goodIn_app (goodIn_of _ (by decide +kernel)) ggX4_copy_X4_isIn
theorem dX4_copy_0 : decode cX4_copy 0 = .ok (.iload_n 1, 1) := by decide +kernel
theorem dX4_copy_1 : decode cX4_copy 1 = .ok (.ifCond .lt 11, 3) := by decide +kernel
theorem dX4_copy_4 : decode cX4_copy 4 = .ok (.iload_n 2, 1) := by decide +kernel
theorem dX4_copy_5 : decode cX4_copy 5 = .ok (.ifCond .lt 7, 3) := by decide +kernel
theorem dX4_copy_8 : decode cX4_copy 8 = .ok (.iload_n 3, 1) := by decide +kernel
theorem dX4_copy_9 : decode cX4_copy 9 = .ok (.ifCond .ge 6, 3) := by decide +kernel
theorem dX4_copy_12 : decode cX4_copy 12 = .ok (.bipush (-11), 2) := by decide +kernel
theorem dX4_copy_14 : decode cX4_copy 14 = .ok (.ireturn, 1) := by decide +kernel
theorem dX4_copy_15 : decode cX4_copy 15 = .ok (.aload_n 0, 1) := by decide +kernel
theorem dX4_copy_16 : decode cX4_copy 16 = .ok (.iload_n 1, 1) := by decide +kernel
theorem dX4_copy_17 : decode cX4_copy 17 = .ok (.i2l, 1) := by decide +kernel
theorem dX4_copy_18 : decode cX4_copy 18 = .ok (.iload_n 3, 1) := by decide +kernel
theorem dX4_copy_19 : decode cX4_copy 19 = .ok (.i2l, 1) := by decide +kernel
theorem dX4_copy_20 : decode cX4_copy 20 = .ok (.invokevirtual 58, 3) := by decide +kernel
theorem dX4_copy_23 : decode cX4_copy 23 = .ok (.ifCond .eq 14, 3) := by decide +kernel
theorem dX4_copy_26 : decode cX4_copy 26 = .ok (.aload_n 0, 1) := by decide +kernel
theorem dX4_copy_27 : decode cX4_copy 27 = .ok (.iload_n 2, 1) := by decide +kernel
theorem dX4_copy_28 : decode cX4_copy 28 = .ok (.i2l, 1) := by decide +kernel
theorem dX4_copy_29 : decode cX4_copy 29 = .ok (.iload_n 3, 1) := by decide +kernel
theorem dX4_copy_30 : decode cX4_copy 30 = .ok (.i2l, 1) := by decide +kernel
theorem dX4_copy_31 : decode cX4_copy 31 = .ok (.invokevirtual 58, 3) := by decide +kernel
theorem dX4_copy_34 : decode cX4_copy 34 = .ok (.ifCond .ne 6, 3) := by decide +kernel
theorem dX4_copy_37 : decode cX4_copy 37 = .ok (.bipush (-12), 2) := by decide +kernel
theorem dX4_copy_39 : decode cX4_copy 39 = .ok (.ireturn, 1) := by decide +kernel
theorem dX4_copy_40 : decode cX4_copy 40 = .ok (.iload_n 3, 1) := by decide +kernel
theorem dX4_copy_41 : decode cX4_copy 41 = .ok (.ifCond .le 12, 3) := by decide +kernel
theorem dX4_copy_44 : decode cX4_copy 44 = .ok (.iload_n 2, 1) := by decide +kernel
theorem dX4_copy_45 : decode cX4_copy 45 = .ok (.bipush 64, 2) := by decide +kernel
theorem dX4_copy_47 : decode cX4_copy 47 = .ok (.if_icmp .ge 6, 3) := by decide +kernel
theorem dX4_copy_50 : decode cX4_copy 50 = .ok (.bipush (-13), 2) := by decide +kernel
theorem dX4_copy_52 : decode cX4_copy 52 = .ok (.ireturn, 1) := by decide +kernel
theorem dX4_copy_53 : decode cX4_copy 53 = .ok (.iconst 0, 1) := by decide +kernel
theorem dX4_copy_54 : decode cX4_copy 54 = .ok (.istore 4, 2) := by decide +kernel
theorem dX4_copy_56 : decode cX4_copy 56 = .ok (.iload 4, 2) := by decide +kernel
theorem dX4_copy_58 : decode cX4_copy 58 = .ok (.iload_n 3, 1) := by decide +kernel
theorem dX4_copy_59 : decode cX4_copy 59 = .ok (.if_icmp .ge 45, 3) := by decide +kernel
theorem dX4_copy_62 : decode cX4_copy 62 = .ok (.iload_n 1, 1) := by decide +kernel
theorem dX4_copy_63 : decode cX4_copy 63 = .ok (.iload_n 2, 1) := by decide +kernel
theorem dX4_copy_64 : decode cX4_copy 64 = .ok (.if_icmp .ge 12, 3) := by decide +kernel
theorem dX4_copy_67 : decode cX4_copy 67 = .ok (.iload_n 3, 1) := by decide +kernel
theorem dX4_copy_68 : decode cX4_copy 68 = .ok (.iconst 1, 1) := by decide +kernel
theorem dX4_copy_69 : decode cX4_copy 69 = .ok (.isub, 1) := by decide +kernel
theorem dX4_copy_70 : decode cX4_copy 70 = .ok (.iload 4, 2) := by decide +kernel
theorem dX4_copy_72 : decode cX4_copy 72 = .ok (.isub, 1) := by decide +kernel
theorem dX4_copy_73 : decode cX4_copy 73 = .ok (.goto 5, 3) := by decide +kernel
theorem dX4_copy_76 : decode cX4_copy 76 = .ok (.iload 4, 2) := by decide +kernel
theorem dX4_copy_78 : decode cX4_copy 78 = .ok (.istore 5, 2) := by decide +kernel
theorem dX4_copy_80 : decode cX4_copy 80 = .ok (.aload_n 0, 1) := by decide +kernel
theorem dX4_copy_81 : decode cX4_copy 81 = .ok (.getfield 7, 3) := by decide +kernel
theorem dX4_copy_84 : decode cX4_copy 84 = .ok (.iload_n 2, 1) := by decide +kernel
theorem dX4_copy_85 : decode cX4_copy 85 = .ok (.iload 5, 2) := by decide +kernel
theorem dX4_copy_87 : decode cX4_copy 87 = .ok (.iadd, 1) := by decide +kernel
theorem dX4_copy_88 : decode cX4_copy 88 = .ok (.aload_n 0, 1) := by decide +kernel
theorem dX4_copy_89 : decode cX4_copy 89 = .ok (.getfield 7, 3) := by decide +kernel
theorem dX4_copy_92 : decode cX4_copy 92 = .ok (.iload_n 1, 1) := by decide +kernel
theorem dX4_copy_93 : decode cX4_copy 93 = .ok (.iload 5, 2) := by decide +kernel
theorem dX4_copy_95 : decode cX4_copy 95 = .ok (.iadd, 1) := by decide +kernel
theorem dX4_copy_96 : decode cX4_copy 96 = .ok (.iaload, 1) := by decide +kernel
theorem dX4_copy_97 : decode cX4_copy 97 = .ok (.iastore, 1) := by decide +kernel
theorem dX4_copy_98 : decode cX4_copy 98 = .ok (.iinc 4 1, 3) := by decide +kernel
theorem dX4_copy_101 : decode cX4_copy 101 = .ok (.goto (-45), 3) := by decide +kernel
theorem dX4_copy_104 : decode cX4_copy 104 = .ok (.iconst 1, 1) := by decide +kernel
theorem dX4_copy_105 : decode cX4_copy 105 = .ok (.ireturn, 1) := by decide +kernel
theorem dX4_grow_0 : decode cX4_grow 0 = .ok (.aload_n 0, 1) := by decide +kernel
theorem dX4_grow_1 : decode cX4_grow 1 = .ok (.getfield 44, 3) := by decide +kernel
theorem dX4_grow_4 : decode cX4_grow 4 = .ok (.istore_n 2, 1) := by decide +kernel
theorem dX4_grow_5 : decode cX4_grow 5 = .ok (.iload_n 2, 1) := by decide +kernel
theorem dX4_grow_6 : decode cX4_grow 6 = .ok (.iload_n 1, 1) := by decide +kernel
theorem dX4_grow_7 : decode cX4_grow 7 = .ok (.if_icmp .ge 16, 3) := by decide +kernel
theorem dX4_grow_10 : decode cX4_grow 10 = .ok (.aload_n 0, 1) := by decide +kernel
theorem dX4_grow_11 : decode cX4_grow 11 = .ok (.getfield 7, 3) := by decide +kernel
theorem dX4_grow_14 : decode cX4_grow 14 = .ok (.iload_n 2, 1) := by decide +kernel
theorem dX4_grow_15 : decode cX4_grow 15 = .ok (.iconst 0, 1) := by decide +kernel
theorem dX4_grow_16 : decode cX4_grow 16 = .ok (.iastore, 1) := by decide +kernel
theorem dX4_grow_17 : decode cX4_grow 17 = .ok (.iinc 2 1, 3) := by decide +kernel
theorem dX4_grow_20 : decode cX4_grow 20 = .ok (.goto (-15), 3) := by decide +kernel
theorem dX4_grow_23 : decode cX4_grow 23 = .ok (.aload_n 0, 1) := by decide +kernel
theorem dX4_grow_24 : decode cX4_grow 24 = .ok (.iload_n 1, 1) := by decide +kernel
theorem dX4_grow_25 : decode cX4_grow 25 = .ok (.putfield 44, 3) := by decide +kernel
theorem dX4_grow_28 : decode cX4_grow 28 = .ok (.return_, 1) := by decide +kernel
theorem dX4_isSize_0 : decode cX4_isSize 0 = .ok (.iload_n 0, 1) := by decide +kernel
theorem dX4_isSize_1 : decode cX4_isSize 1 = .ok (.sipush 256, 3) := by decide +kernel
theorem dX4_isSize_4 : decode cX4_isSize 4 = .ok (.if_icmp .lt 22, 3) := by decide +kernel
theorem dX4_isSize_7 : decode cX4_isSize 7 = .ok (.iload_n 0, 1) := by decide +kernel
theorem dX4_isSize_8 : decode cX4_isSize 8 = .ok (.sipush 8192, 3) := by decide +kernel
theorem dX4_isSize_11 : decode cX4_isSize 11 = .ok (.if_icmp .gt 15, 3) := by decide +kernel
theorem dX4_isSize_14 : decode cX4_isSize 14 = .ok (.iload_n 0, 1) := by decide +kernel
theorem dX4_isSize_15 : decode cX4_isSize 15 = .ok (.sipush 256, 3) := by decide +kernel
theorem dX4_isSize_18 : decode cX4_isSize 18 = .ok (.irem, 1) := by decide +kernel
theorem dX4_isSize_19 : decode cX4_isSize 19 = .ok (.ifCond .ne 7, 3) := by decide +kernel
theorem dX4_isSize_22 : decode cX4_isSize 22 = .ok (.iconst 1, 1) := by decide +kernel
theorem dX4_isSize_23 : decode cX4_isSize 23 = .ok (.goto 4, 3) := by decide +kernel
theorem dX4_isSize_26 : decode cX4_isSize 26 = .ok (.iconst 0, 1) := by decide +kernel
theorem dX4_isSize_27 : decode cX4_isSize 27 = .ok (.ireturn, 1) := by decide +kernel
set_option maxRecDepth 20000 in
theorem ggX4_resize_X4_isSize : GoodIn wsX4_resize wsX4_isSize := goodIn_r _ [6] (by decide +kernel) (by decide +kernel)
set_option maxRecDepth 20000 in
theorem gX4_resize_X4_isSize : GoodIn wsX4_resize (va_wsS RX4 68 yX4_isSize wsX4_isSize) := goodIn_app (goodIn_of _ (by decide +kernel)) ggX4_resize_X4_isSize
set_option maxRecDepth 20000 in
theorem ggX4_resize_X4_grow : GoodIn wsX4_resize wsX4_grow := goodIn_r _ [10, 2, 11, 12, 13, 14, 15, 16, 17, 18, 19, 20, 21, 22, 23, 24, 25, 26, 27, 28, 29] (by decide +kernel) (by decide +kernel)
set_option maxRecDepth 20000 in
theorem gX4_resize_X4_grow : GoodIn wsX4_resize (wsV RX4 74 RX4 yX4_grow wsX4_grow) := goodIn_app (goodIn_of _ (by decide +kernel)) ggX4_resize_X4_grow
theorem dX4_resize_0 : decode cX4_resize 0 = .ok (.iload_n 1, 1) := by decide +kernel
theorem dX4_resize_1 : decode cX4_resize 1 = .ok (.invokestatic 68, 3) := by decide +kernel
theorem dX4_resize_4 : decode cX4_resize 4 = .ok (.ifCond .ne 6, 3) := by decide +kernel
theorem dX4_resize_7 : decode cX4_resize 7 = .ok (.bipush (-11), 2) := by decide +kernel
theorem dX4_resize_9 : decode cX4_resize 9 = .ok (.ireturn, 1) := by decide +kernel
theorem dX4_resize_10 : decode cX4_resize 10 = .ok (.aload_n 0, 1) := by decide +kernel
theorem dX4_resize_11 : decode cX4_resize 11 = .ok (.getfield 71, 3) := by decide +kernel
theorem dX4_resize_14 : decode cX4_resize 14 = .ok (.ifCond .le 6, 3) := by decide +kernel
theorem dX4_resize_17 : decode cX4_resize 17 = .ok (.bipush (-14), 2) := by decide +kernel
theorem dX4_resize_19 : decode cX4_resize 19 = .ok (.ireturn, 1) := by decide +kernel
theorem dX4_resize_20 : decode cX4_resize 20 = .ok (.aload_n 0, 1) := by decide +kernel
theorem dX4_resize_21 : decode cX4_resize 21 = .ok (.getfield 44, 3) := by decide +kernel
theorem dX4_resize_24 : decode cX4_resize 24 = .ok (.istore_n 2, 1) := by decide +kernel
theorem dX4_resize_25 : decode cX4_resize 25 = .ok (.aload_n 0, 1) := by decide +kernel
theorem dX4_resize_26 : decode cX4_resize 26 = .ok (.iload_n 1, 1) := by decide +kernel
theorem dX4_resize_27 : decode cX4_resize 27 = .ok (.invokevirtual 74, 3) := by decide +kernel
theorem dX4_resize_30 : decode cX4_resize 30 = .ok (.iload_n 2, 1) := by decide +kernel
theorem dX4_resize_31 : decode cX4_resize 31 = .ok (.ireturn, 1) := by decide +kernel
theorem dX4_behind_0 : decode cX4_behind 0 = .ok (.aload_n 0, 1) := by decide +kernel
theorem dX4_behind_1 : decode cX4_behind 1 = .ok (.getfield 13, 3) := by decide +kernel
theorem dX4_behind_4 : decode cX4_behind 4 = .ok (.iload_n 1, 1) := by decide +kernel
theorem dX4_behind_5 : decode cX4_behind 5 = .ok (.iaload, 1) := by decide +kernel
theorem dX4_behind_6 : decode cX4_behind 6 = .ok (.aload_n 0, 1) := by decide +kernel
theorem dX4_behind_7 : decode cX4_behind 7 = .ok (.getfield 16, 3) := by decide +kernel
theorem dX4_behind_10 : decode cX4_behind 10 = .ok (.iload_n 1, 1) := by decide +kernel
theorem dX4_behind_11 : decode cX4_behind 11 = .ok (.iaload, 1) := by decide +kernel
theorem dX4_behind_12 : decode cX4_behind 12 = .ok (.iadd, 1) := by decide +kernel
theorem dX4_behind_13 : decode cX4_behind 13 = .ok (.ireturn, 1) := by decide +kernel
set_option maxRecDepth 20000 in
theorem ggX4_gapAt_X4_behind : GoodIn wsX4_gapAt wsX4_behind := goodIn_r _ [6, 7, 8, 9, 10, 11, 12, 13, 14, 15, 16, 17, 18, 19, 20, 21, 22, 23, 24, 25, 26] (by decide +kernel) (by decide +kernel)
set_option maxRecDepth 20000 in
theorem gX4_gapAt_X4_behind : GoodIn wsX4_gapAt (wsV RX4 81 RX4 yX4_behind wsX4_behind) := goodIn_app (goodIn_of _ (by decide +kernel)) ggX4_gapAt_X4_behind
theorem dX4_gapAt_0 : decode cX4_gapAt 0 = .ok (.iload_n 1, 1) := by decide +kernel
theorem dX4_gapAt_1 : decode cX4_gapAt 1 = .ok (.ifCond .ne 10, 3) := by decide +kernel
theorem dX4_gapAt_4 : decode cX4_gapAt 4 = .ok (.aload_n 0, 1) := by decide +kernel
theorem dX4_gapAt_5 : decode cX4_gapAt 5 = .ok (.getfield 78, 3) := by decide +kernel
theorem dX4_gapAt_8 : decode cX4_gapAt 8 = .ok (.goto 10, 3) := by decide +kernel
theorem dX4_gapAt_11 : decode cX4_gapAt 11 = .ok (.aload_n 0, 1) := by decide +kernel
theorem dX4_gapAt_12 : decode cX4_gapAt 12 = .ok (.iload_n 1, 1) := by decide +kernel
theorem dX4_gapAt_13 : decode cX4_gapAt 13 = .ok (.iconst 1, 1) := by decide +kernel
theorem dX4_gapAt_14 : decode cX4_gapAt 14 = .ok (.isub, 1) := by decide +kernel
theorem dX4_gapAt_15 : decode cX4_gapAt 15 = .ok (.invokevirtual 81, 3) := by decide +kernel
theorem dX4_gapAt_18 : decode cX4_gapAt 18 = .ok (.ireturn, 1) := by decide +kernel
theorem dX4_gapEnd_0 : decode cX4_gapEnd 0 = .ok (.iload_n 1, 1) := by decide +kernel
theorem dX4_gapEnd_1 : decode cX4_gapEnd 1 = .ok (.aload_n 0, 1) := by decide +kernel
theorem dX4_gapEnd_2 : decode cX4_gapEnd 2 = .ok (.getfield 71, 3) := by decide +kernel
theorem dX4_gapEnd_5 : decode cX4_gapEnd 5 = .ok (.if_icmp .ne 10, 3) := by decide +kernel
theorem dX4_gapEnd_8 : decode cX4_gapEnd 8 = .ok (.aload_n 0, 1) := by decide +kernel
theorem dX4_gapEnd_9 : decode cX4_gapEnd 9 = .ok (.getfield 44, 3) := by decide +kernel
theorem dX4_gapEnd_12 : decode cX4_gapEnd 12 = .ok (.goto 9, 3) := by decide +kernel
theorem dX4_gapEnd_15 : decode cX4_gapEnd 15 = .ok (.aload_n 0, 1) := by decide +kernel
theorem dX4_gapEnd_16 : decode cX4_gapEnd 16 = .ok (.getfield 13, 3) := by decide +kernel
theorem dX4_gapEnd_19 : decode cX4_gapEnd 19 = .ok (.iload_n 1, 1) := by decide +kernel
theorem dX4_gapEnd_20 : decode cX4_gapEnd 20 = .ok (.iaload, 1) := by decide +kernel
theorem dX4_gapEnd_21 : decode cX4_gapEnd 21 = .ok (.ireturn, 1) := by decide +kernel
set_option maxRecDepth 20000 in
theorem ggX4_make_X4_gapEnd : GoodIn wsX4_make wsX4_gapEnd := goodIn_r _ [13, 1, 2, 7, 27, 28, 29, 30, 31, 32, 33, 34, 35, 36, 37, 38, 39, 40, 41, 42, 43, 44] (by decide +kernel) (by decide +kernel)
set_option maxRecDepth 20000 in
theorem gX4_make_X4_gapEnd : GoodIn wsX4_make (wsV RX4 84 RX4 yX4_gapEnd wsX4_gapEnd) := goodIn_app (goodIn_of _ (by decide +kernel)) ggX4_make_X4_gapEnd
set_option maxRecDepth 20000 in
theorem ggX4_make_X4_gapAt : GoodIn wsX4_make wsX4_gapAt := goodIn_r _ [17, 3, 18, 19, 20, 12, 21, 7, 8, 27, 28, 29, 30, 31, 32, 33, 34, 35, 36, 37, 38, 39, 40, 41, 42, 43, 44] (by decide +kernel) (by decide +kernel)
set_option maxRecDepth 20000 in
theorem gX4_make_X4_gapAt : GoodIn wsX4_make (wsV RX4 87 RX4 yX4_gapAt wsX4_gapAt) := goodIn_app (goodIn_of _ (by decide +kernel)) ggX4_make_X4_gapAt
set_option maxRecDepth 20000 in
theorem ggX4_make_X4_grow : GoodIn wsX4_make wsX4_grow := goodIn_r _ [25, 2, 26, 27, 28, 29, 30, 31, 32, 33, 34, 35, 36, 37, 38, 39, 40, 41, 42, 43, 44] (by decide +kernel) (by decide +kernel)
set_option maxRecDepth 20000 in
theorem gX4_make_X4_grow : GoodIn wsX4_make (wsV RX4 74 RX4 yX4_grow wsX4_grow) := goodIn_app (goodIn_of _ (by decide +kernel)) ggX4_make_X4_grow
theorem dX4_make_0 : decode cX4_make 0 = .ok (.iload_n 1, 1) := by decide +kernel
theorem dX4_make_1 : decode cX4_make 1 = .ok (.iconst 1, 1) := by decide +kernel
theorem dX4_make_2 : decode cX4_make 2 = .ok (.if_icmp .ge 6, 3) := by decide +kernel
theorem dX4_make_5 : decode cX4_make 5 = .ok (.bipush (-11), 2) := by decide +kernel
theorem dX4_make_7 : decode cX4_make 7 = .ok (.ireturn, 1) := by decide +kernel
theorem dX4_make_8 : decode cX4_make 8 = .ok (.aload_n 0, 1) := by decide +kernel
theorem dX4_make_9 : decode cX4_make 9 = .ok (.getfield 71, 3) := by decide +kernel
theorem dX4_make_12 : decode cX4_make 12 = .ok (.bipush 64, 2) := by decide +kernel
theorem dX4_make_14 : decode cX4_make 14 = .ok (.if_icmp .ne 5, 3) := by decide +kernel
theorem dX4_make_17 : decode cX4_make 17 = .ok (.iconst 0, 1) := by decide +kernel
theorem dX4_make_18 : decode cX4_make 18 = .ok (.ireturn, 1) := by decide +kernel
theorem dX4_make_19 : decode cX4_make 19 = .ok (.aload_n 0, 1) := by decide +kernel
theorem dX4_make_20 : decode cX4_make 20 = .ok (.getfield 71, 3) := by decide +kernel
theorem dX4_make_23 : decode cX4_make 23 = .ok (.ifCond .ne 10, 3) := by decide +kernel
theorem dX4_make_26 : decode cX4_make 26 = .ok (.aload_n 0, 1) := by decide +kernel
theorem dX4_make_27 : decode cX4_make 27 = .ok (.getfield 44, 3) := by decide +kernel
theorem dX4_make_30 : decode cX4_make 30 = .ok (.goto 7, 3) := by decide +kernel
theorem dX4_make_33 : decode cX4_make 33 = .ok (.aload_n 0, 1) := by decide +kernel
theorem dX4_make_34 : decode cX4_make 34 = .ok (.getfield 78, 3) := by decide +kernel
theorem dX4_make_37 : decode cX4_make 37 = .ok (.istore_n 2, 1) := by decide +kernel
theorem dX4_make_38 : decode cX4_make 38 = .ok (.iconst 0, 1) := by decide +kernel
theorem dX4_make_39 : decode cX4_make 39 = .ok (.istore_n 3, 1) := by decide +kernel
theorem dX4_make_40 : decode cX4_make 40 = .ok (.aload_n 0, 1) := by decide +kernel
theorem dX4_make_41 : decode cX4_make 41 = .ok (.getfield 71, 3) := by decide +kernel
theorem dX4_make_44 : decode cX4_make 44 = .ok (.ifCond .le 55, 3) := by decide +kernel
theorem dX4_make_47 : decode cX4_make 47 = .ok (.iload_n 3, 1) := by decide +kernel
theorem dX4_make_48 : decode cX4_make 48 = .ok (.aload_n 0, 1) := by decide +kernel
theorem dX4_make_49 : decode cX4_make 49 = .ok (.getfield 71, 3) := by decide +kernel
theorem dX4_make_52 : decode cX4_make 52 = .ok (.if_icmp .gt 24, 3) := by decide +kernel
theorem dX4_make_55 : decode cX4_make 55 = .ok (.aload_n 0, 1) := by decide +kernel
theorem dX4_make_56 : decode cX4_make 56 = .ok (.iload_n 3, 1) := by decide +kernel
theorem dX4_make_57 : decode cX4_make 57 = .ok (.invokevirtual 84, 3) := by decide +kernel
theorem dX4_make_60 : decode cX4_make 60 = .ok (.aload_n 0, 1) := by decide +kernel
theorem dX4_make_61 : decode cX4_make 61 = .ok (.iload_n 3, 1) := by decide +kernel
theorem dX4_make_62 : decode cX4_make 62 = .ok (.invokevirtual 87, 3) := by decide +kernel
theorem dX4_make_65 : decode cX4_make 65 = .ok (.isub, 1) := by decide +kernel
theorem dX4_make_66 : decode cX4_make 66 = .ok (.iload_n 1, 1) := by decide +kernel
theorem dX4_make_67 : decode cX4_make 67 = .ok (.if_icmp .ge 9, 3) := by decide +kernel
theorem dX4_make_70 : decode cX4_make 70 = .ok (.iinc 3 1, 3) := by decide +kernel
theorem dX4_make_73 : decode cX4_make 73 = .ok (.goto (-26), 3) := by decide +kernel
theorem dX4_make_76 : decode cX4_make 76 = .ok (.iload_n 3, 1) := by decide +kernel
theorem dX4_make_77 : decode cX4_make 77 = .ok (.aload_n 0, 1) := by decide +kernel
theorem dX4_make_78 : decode cX4_make 78 = .ok (.getfield 71, 3) := by decide +kernel
theorem dX4_make_81 : decode cX4_make 81 = .ok (.if_icmp .le 10, 3) := by decide +kernel
theorem dX4_make_84 : decode cX4_make 84 = .ok (.aload_n 0, 1) := by decide +kernel
theorem dX4_make_85 : decode cX4_make 85 = .ok (.getfield 71, 3) := by decide +kernel
theorem dX4_make_88 : decode cX4_make 88 = .ok (.goto 4, 3) := by decide +kernel
theorem dX4_make_91 : decode cX4_make 91 = .ok (.iload_n 3, 1) := by decide +kernel
theorem dX4_make_92 : decode cX4_make 92 = .ok (.istore_n 3, 1) := by decide +kernel
theorem dX4_make_93 : decode cX4_make 93 = .ok (.aload_n 0, 1) := by decide +kernel
theorem dX4_make_94 : decode cX4_make 94 = .ok (.iload_n 3, 1) := by decide +kernel
theorem dX4_make_95 : decode cX4_make 95 = .ok (.invokevirtual 87, 3) := by decide +kernel
theorem dX4_make_98 : decode cX4_make 98 = .ok (.istore_n 2, 1) := by decide +kernel
theorem dX4_make_99 : decode cX4_make 99 = .ok (.iload_n 2, 1) := by decide +kernel
theorem dX4_make_100 : decode cX4_make 100 = .ok (.i2l, 1) := by decide +kernel
theorem dX4_make_101 : decode cX4_make 101 = .ok (.iload_n 1, 1) := by decide +kernel
theorem dX4_make_102 : decode cX4_make 102 = .ok (.i2l, 1) := by decide +kernel
theorem dX4_make_103 : decode cX4_make 103 = .ok (.ladd, 1) := by decide +kernel
theorem dX4_make_104 : decode cX4_make 104 = .ok (.lstore 4, 2) := by decide +kernel
theorem dX4_make_106 : decode cX4_make 106 = .ok (.lload 4, 2) := by decide +kernel
theorem dX4_make_108 : decode cX4_make 108 = .ok (.ldc2_w 90, 3) := by decide +kernel
theorem dX4_make_111 : decode cX4_make 111 = .ok (.lcmp, 1) := by decide +kernel
theorem dX4_make_112 : decode cX4_make 112 = .ok (.ifCond .le 5, 3) := by decide +kernel
theorem dX4_make_115 : decode cX4_make 115 = .ok (.iconst 0, 1) := by decide +kernel
theorem dX4_make_116 : decode cX4_make 116 = .ok (.ireturn, 1) := by decide +kernel
theorem dX4_make_117 : decode cX4_make 117 = .ok (.aload_n 0, 1) := by decide +kernel
theorem dX4_make_118 : decode cX4_make 118 = .ok (.getfield 71, 3) := by decide +kernel
theorem dX4_make_121 : decode cX4_make 121 = .ok (.ifCond .ne 11, 3) := by decide +kernel
theorem dX4_make_124 : decode cX4_make 124 = .ok (.aload_n 0, 1) := by decide +kernel
theorem dX4_make_125 : decode cX4_make 125 = .ok (.aload_n 0, 1) := by decide +kernel
theorem dX4_make_126 : decode cX4_make 126 = .ok (.getfield 44, 3) := by decide +kernel
theorem dX4_make_129 : decode cX4_make 129 = .ok (.putfield 78, 3) := by decide +kernel
theorem dX4_make_132 : decode cX4_make 132 = .ok (.iload_n 3, 1) := by decide +kernel
theorem dX4_make_133 : decode cX4_make 133 = .ok (.aload_n 0, 1) := by decide +kernel
theorem dX4_make_134 : decode cX4_make 134 = .ok (.getfield 71, 3) := by decide +kernel
theorem dX4_make_137 : decode cX4_make 137 = .ok (.if_icmp .ne 33, 3) := by decide +kernel
theorem dX4_make_140 : decode cX4_make 140 = .ok (.lload 4, 2) := by decide +kernel
theorem dX4_make_142 : decode cX4_make 142 = .ok (.aload_n 0, 1) := by decide +kernel
theorem dX4_make_143 : decode cX4_make 143 = .ok (.getfield 44, 3) := by decide +kernel
theorem dX4_make_146 : decode cX4_make 146 = .ok (.i2l, 1) := by decide +kernel
theorem dX4_make_147 : decode cX4_make 147 = .ok (.lcmp, 1) := by decide +kernel
theorem dX4_make_148 : decode cX4_make 148 = .ok (.ifCond .le 22, 3) := by decide +kernel
theorem dX4_make_151 : decode cX4_make 151 = .ok (.aload_n 0, 1) := by decide +kernel
theorem dX4_make_152 : decode cX4_make 152 = .ok (.lload 4, 2) := by decide +kernel
theorem dX4_make_154 : decode cX4_make 154 = .ok (.ldc2_w 92, 3) := by decide +kernel
theorem dX4_make_157 : decode cX4_make 157 = .ok (.ladd, 1) := by decide +kernel
theorem dX4_make_158 : decode cX4_make 158 = .ok (.ldc2_w 94, 3) := by decide +kernel
theorem dX4_make_161 : decode cX4_make 161 = .ok (.ldiv, 1) := by decide +kernel
theorem dX4_make_162 : decode cX4_make 162 = .ok (.ldc2_w 94, 3) := by decide +kernel
theorem dX4_make_165 : decode cX4_make 165 = .ok (.lmul, 1) := by decide +kernel
theorem dX4_make_166 : decode cX4_make 166 = .ok (.l2i, 1) := by decide +kernel
theorem dX4_make_167 : decode cX4_make 167 = .ok (.invokevirtual 74, 3) := by decide +kernel
theorem dX4_make_170 : decode cX4_make 170 = .ok (.aload_n 0, 1) := by decide +kernel
theorem dX4_make_171 : decode cX4_make 171 = .ok (.getfield 71, 3) := by decide +kernel
theorem dX4_make_174 : decode cX4_make 174 = .ok (.istore 6, 2) := by decide +kernel
theorem dX4_make_176 : decode cX4_make 176 = .ok (.iload 6, 2) := by decide +kernel
theorem dX4_make_178 : decode cX4_make 178 = .ok (.iload_n 3, 1) := by decide +kernel
theorem dX4_make_179 : decode cX4_make 179 = .ok (.if_icmp .le 41, 3) := by decide +kernel
theorem dX4_make_182 : decode cX4_make 182 = .ok (.aload_n 0, 1) := by decide +kernel
theorem dX4_make_183 : decode cX4_make 183 = .ok (.getfield 13, 3) := by decide +kernel
theorem dX4_make_186 : decode cX4_make 186 = .ok (.iload 6, 2) := by decide +kernel
theorem dX4_make_188 : decode cX4_make 188 = .ok (.aload_n 0, 1) := by decide +kernel
theorem dX4_make_189 : decode cX4_make 189 = .ok (.getfield 13, 3) := by decide +kernel
theorem dX4_make_192 : decode cX4_make 192 = .ok (.iload 6, 2) := by decide +kernel
theorem dX4_make_194 : decode cX4_make 194 = .ok (.iconst 1, 1) := by decide +kernel
theorem dX4_make_195 : decode cX4_make 195 = .ok (.isub, 1) := by decide +kernel
theorem dX4_make_196 : decode cX4_make 196 = .ok (.iaload, 1) := by decide +kernel
theorem dX4_make_197 : decode cX4_make 197 = .ok (.iastore, 1) := by decide +kernel
theorem dX4_make_198 : decode cX4_make 198 = .ok (.aload_n 0, 1) := by decide +kernel
theorem dX4_make_199 : decode cX4_make 199 = .ok (.getfield 16, 3) := by decide +kernel
theorem dX4_make_202 : decode cX4_make 202 = .ok (.iload 6, 2) := by decide +kernel
theorem dX4_make_204 : decode cX4_make 204 = .ok (.aload_n 0, 1) := by decide +kernel
theorem dX4_make_205 : decode cX4_make 205 = .ok (.getfield 16, 3) := by decide +kernel
theorem dX4_make_208 : decode cX4_make 208 = .ok (.iload 6, 2) := by decide +kernel
theorem dX4_make_210 : decode cX4_make 210 = .ok (.iconst 1, 1) := by decide +kernel
theorem dX4_make_211 : decode cX4_make 211 = .ok (.isub, 1) := by decide +kernel
theorem dX4_make_212 : decode cX4_make 212 = .ok (.iaload, 1) := by decide +kernel
theorem dX4_make_213 : decode cX4_make 213 = .ok (.iastore, 1) := by decide +kernel
theorem dX4_make_214 : decode cX4_make 214 = .ok (.iinc 6 (-1), 3) := by decide +kernel
theorem dX4_make_217 : decode cX4_make 217 = .ok (.goto (-41), 3) := by decide +kernel
theorem dX4_make_220 : decode cX4_make 220 = .ok (.aload_n 0, 1) := by decide +kernel
theorem dX4_make_221 : decode cX4_make 221 = .ok (.getfield 13, 3) := by decide +kernel
theorem dX4_make_224 : decode cX4_make 224 = .ok (.iload_n 3, 1) := by decide +kernel
theorem dX4_make_225 : decode cX4_make 225 = .ok (.iload_n 2, 1) := by decide +kernel
theorem dX4_make_226 : decode cX4_make 226 = .ok (.iastore, 1) := by decide +kernel
theorem dX4_make_227 : decode cX4_make 227 = .ok (.aload_n 0, 1) := by decide +kernel
theorem dX4_make_228 : decode cX4_make 228 = .ok (.getfield 16, 3) := by decide +kernel
theorem dX4_make_231 : decode cX4_make 231 = .ok (.iload_n 3, 1) := by decide +kernel
theorem dX4_make_232 : decode cX4_make 232 = .ok (.iload_n 1, 1) := by decide +kernel
theorem dX4_make_233 : decode cX4_make 233 = .ok (.iastore, 1) := by decide +kernel
theorem dX4_make_234 : decode cX4_make 234 = .ok (.aload_n 0, 1) := by decide +kernel
theorem dX4_make_235 : decode cX4_make 235 = .ok (.dup, 1) := by decide +kernel
theorem dX4_make_236 : decode cX4_make 236 = .ok (.getfield 71, 3) := by decide +kernel
theorem dX4_make_239 : decode cX4_make 239 = .ok (.iconst 1, 1) := by decide +kernel
theorem dX4_make_240 : decode cX4_make 240 = .ok (.iadd, 1) := by decide +kernel
theorem dX4_make_241 : decode cX4_make 241 = .ok (.putfield 71, 3) := by decide +kernel
theorem dX4_make_244 : decode cX4_make 244 = .ok (.iload_n 2, 1) := by decide +kernel
theorem dX4_make_245 : decode cX4_make 245 = .ok (.ireturn, 1) := by decide +kernel
theorem dX4_free_0 : decode cX4_free 0 = .ok (.iconst 0, 1) := by decide +kernel
theorem dX4_free_1 : decode cX4_free 1 = .ok (.istore_n 2, 1) := by decide +kernel
theorem dX4_free_2 : decode cX4_free 2 = .ok (.iload_n 2, 1) := by decide +kernel
theorem dX4_free_3 : decode cX4_free 3 = .ok (.aload_n 0, 1) := by decide +kernel
theorem dX4_free_4 : decode cX4_free 4 = .ok (.getfield 71, 3) := by decide +kernel
theorem dX4_free_7 : decode cX4_free 7 = .ok (.if_icmp .ge 19, 3) := by decide +kernel
theorem dX4_free_10 : decode cX4_free 10 = .ok (.aload_n 0, 1) := by decide +kernel
theorem dX4_free_11 : decode cX4_free 11 = .ok (.getfield 13, 3) := by decide +kernel
theorem dX4_free_14 : decode cX4_free 14 = .ok (.iload_n 2, 1) := by decide +kernel
theorem dX4_free_15 : decode cX4_free 15 = .ok (.iaload, 1) := by decide +kernel
theorem dX4_free_16 : decode cX4_free 16 = .ok (.iload_n 1, 1) := by decide +kernel
theorem dX4_free_17 : decode cX4_free 17 = .ok (.if_icmp .eq 9, 3) := by decide +kernel
theorem dX4_free_20 : decode cX4_free 20 = .ok (.iinc 2 1, 3) := by decide +kernel
theorem dX4_free_23 : decode cX4_free 23 = .ok (.goto (-21), 3) := by decide +kernel
theorem dX4_free_26 : decode cX4_free 26 = .ok (.iload_n 2, 1) := by decide +kernel
theorem dX4_free_27 : decode cX4_free 27 = .ok (.aload_n 0, 1) := by decide +kernel
theorem dX4_free_28 : decode cX4_free 28 = .ok (.getfield 71, 3) := by decide +kernel
theorem dX4_free_31 : decode cX4_free 31 = .ok (.if_icmp .ne 6, 3) := by decide +kernel
theorem dX4_free_34 : decode cX4_free 34 = .ok (.bipush (-11), 2) := by decide +kernel
theorem dX4_free_36 : decode cX4_free 36 = .ok (.ireturn, 1) := by decide +kernel
theorem dX4_free_37 : decode cX4_free 37 = .ok (.aload_n 0, 1) := by decide +kernel
theorem dX4_free_38 : decode cX4_free 38 = .ok (.getfield 16, 3) := by decide +kernel
theorem dX4_free_41 : decode cX4_free 41 = .ok (.iload_n 2, 1) := by decide +kernel
theorem dX4_free_42 : decode cX4_free 42 = .ok (.iaload, 1) := by decide +kernel
theorem dX4_free_43 : decode cX4_free 43 = .ok (.istore_n 3, 1) := by decide +kernel
theorem dX4_free_44 : decode cX4_free 44 = .ok (.aload_n 0, 1) := by decide +kernel
theorem dX4_free_45 : decode cX4_free 45 = .ok (.dup, 1) := by decide +kernel
theorem dX4_free_46 : decode cX4_free 46 = .ok (.getfield 71, 3) := by decide +kernel
theorem dX4_free_49 : decode cX4_free 49 = .ok (.iconst 1, 1) := by decide +kernel
theorem dX4_free_50 : decode cX4_free 50 = .ok (.isub, 1) := by decide +kernel
theorem dX4_free_51 : decode cX4_free 51 = .ok (.putfield 71, 3) := by decide +kernel
theorem dX4_free_54 : decode cX4_free 54 = .ok (.iload_n 2, 1) := by decide +kernel
theorem dX4_free_55 : decode cX4_free 55 = .ok (.istore 4, 2) := by decide +kernel
theorem dX4_free_57 : decode cX4_free 57 = .ok (.iload 4, 2) := by decide +kernel
theorem dX4_free_59 : decode cX4_free 59 = .ok (.aload_n 0, 1) := by decide +kernel
theorem dX4_free_60 : decode cX4_free 60 = .ok (.getfield 71, 3) := by decide +kernel
theorem dX4_free_63 : decode cX4_free 63 = .ok (.if_icmp .ge 41, 3) := by decide +kernel
theorem dX4_free_66 : decode cX4_free 66 = .ok (.aload_n 0, 1) := by decide +kernel
theorem dX4_free_67 : decode cX4_free 67 = .ok (.getfield 13, 3) := by decide +kernel
theorem dX4_free_70 : decode cX4_free 70 = .ok (.iload 4, 2) := by decide +kernel
theorem dX4_free_72 : decode cX4_free 72 = .ok (.aload_n 0, 1) := by decide +kernel
theorem dX4_free_73 : decode cX4_free 73 = .ok (.getfield 13, 3) := by decide +kernel
theorem dX4_free_76 : decode cX4_free 76 = .ok (.iload 4, 2) := by decide +kernel
theorem dX4_free_78 : decode cX4_free 78 = .ok (.iconst 1, 1) := by decide +kernel
theorem dX4_free_79 : decode cX4_free 79 = .ok (.iadd, 1) := by decide +kernel
theorem dX4_free_80 : decode cX4_free 80 = .ok (.iaload, 1) := by decide +kernel
theorem dX4_free_81 : decode cX4_free 81 = .ok (.iastore, 1) := by decide +kernel
theorem dX4_free_82 : decode cX4_free 82 = .ok (.aload_n 0, 1) := by decide +kernel
theorem dX4_free_83 : decode cX4_free 83 = .ok (.getfield 16, 3) := by decide +kernel
theorem dX4_free_86 : decode cX4_free 86 = .ok (.iload 4, 2) := by decide +kernel
theorem dX4_free_88 : decode cX4_free 88 = .ok (.aload_n 0, 1) := by decide +kernel
theorem dX4_free_89 : decode cX4_free 89 = .ok (.getfield 16, 3) := by decide +kernel
theorem dX4_free_92 : decode cX4_free 92 = .ok (.iload 4, 2) := by decide +kernel
theorem dX4_free_94 : decode cX4_free 94 = .ok (.iconst 1, 1) := by decide +kernel
theorem dX4_free_95 : decode cX4_free 95 = .ok (.iadd, 1) := by decide +kernel
theorem dX4_free_96 : decode cX4_free 96 = .ok (.iaload, 1) := by decide +kernel
theorem dX4_free_97 : decode cX4_free 97 = .ok (.iastore, 1) := by decide +kernel
theorem dX4_free_98 : decode cX4_free 98 = .ok (.iinc 4 1, 3) := by decide +kernel
theorem dX4_free_101 : decode cX4_free 101 = .ok (.goto (-44), 3) := by decide +kernel
theorem dX4_free_104 : decode cX4_free 104 = .ok (.aload_n 0, 1) := by decide +kernel
theorem dX4_free_105 : decode cX4_free 105 = .ok (.getfield 71, 3) := by decide +kernel
theorem dX4_free_108 : decode cX4_free 108 = .ok (.ifCond .ne 16, 3) := by decide +kernel
theorem dX4_free_111 : decode cX4_free 111 = .ok (.aload_n 0, 1) := by decide +kernel
theorem dX4_free_112 : decode cX4_free 112 = .ok (.aload_n 0, 1) := by decide +kernel
theorem dX4_free_113 : decode cX4_free 113 = .ok (.getfield 78, 3) := by decide +kernel
theorem dX4_free_116 : decode cX4_free 116 = .ok (.putfield 44, 3) := by decide +kernel
theorem dX4_free_119 : decode cX4_free 119 = .ok (.aload_n 0, 1) := by decide +kernel
theorem dX4_free_120 : decode cX4_free 120 = .ok (.iconst 0, 1) := by decide +kernel
theorem dX4_free_121 : decode cX4_free 121 = .ok (.putfield 78, 3) := by decide +kernel
theorem dX4_free_124 : decode cX4_free 124 = .ok (.iload_n 3, 1) := by decide +kernel
theorem dX4_free_125 : decode cX4_free 125 = .ok (.ireturn, 1) := by decide +kernel
set_option maxRecDepth 20000 in
theorem ggX4_block_X4_gapEnd : GoodIn wsX4_block wsX4_gapEnd := goodIn_r _ [8, 1, 9, 2, 19, 20, 21, 22, 23, 24, 25, 26, 27, 28, 29, 30, 31, 32, 33, 34, 35, 36] (by decide +kernel) (by decide +kernel)
set_option maxRecDepth 20000 in
theorem gX4_block_X4_gapEnd : GoodIn wsX4_block (wsV RX4 84 RX4 yX4_gapEnd wsX4_gapEnd) := goodIn_app (goodIn_of _ (by decide +kernel)) ggX4_block_X4_gapEnd
set_option maxRecDepth 20000 in
theorem ggX4_block_X4_gapAt : GoodIn wsX4_block wsX4_gapAt := goodIn_r _ [13, 14, 15, 16, 17, 7, 18, 2, 3, 19, 20, 21, 22, 23, 24, 25, 26, 27, 28, 29, 30, 31, 32, 33, 34, 35, 36] (by decide +kernel) (by decide +kernel)
set_option maxRecDepth 20000 in
theorem gX4_block_X4_gapAt : GoodIn wsX4_block (wsV RX4 87 RX4 yX4_gapAt wsX4_gapAt) := goodIn_app (goodIn_of _ (by decide +kernel)) ggX4_block_X4_gapAt
theorem dX4_block_0 : decode cX4_block 0 = .ok (.iload_n 1, 1) := by decide +kernel
theorem dX4_block_1 : decode cX4_block 1 = .ok (.ifCond .lt 20, 3) := by decide +kernel
theorem dX4_block_4 : decode cX4_block 4 = .ok (.iload_n 1, 1) := by decide +kernel
theorem dX4_block_5 : decode cX4_block 5 = .ok (.aload_n 0, 1) := by decide +kernel
theorem dX4_block_6 : decode cX4_block 6 = .ok (.getfield 71, 3) := by decide +kernel
theorem dX4_block_9 : decode cX4_block 9 = .ok (.if_icmp .ge 12, 3) := by decide +kernel
theorem dX4_block_12 : decode cX4_block 12 = .ok (.iload_n 2, 1) := by decide +kernel
theorem dX4_block_13 : decode cX4_block 13 = .ok (.ifCond .lt 8, 3) := by decide +kernel
theorem dX4_block_16 : decode cX4_block 16 = .ok (.iload_n 2, 1) := by decide +kernel
theorem dX4_block_17 : decode cX4_block 17 = .ok (.iconst 2, 1) := by decide +kernel
theorem dX4_block_18 : decode cX4_block 18 = .ok (.if_icmp .le 6, 3) := by decide +kernel
theorem dX4_block_21 : decode cX4_block 21 = .ok (.bipush (-11), 2) := by decide +kernel
theorem dX4_block_23 : decode cX4_block 23 = .ok (.ireturn, 1) := by decide +kernel
theorem dX4_block_24 : decode cX4_block 24 = .ok (.iload_n 2, 1) := by decide +kernel
theorem dX4_block_25 : decode cX4_block 25 = .ok (.ifCond .ne 12, 3) := by decide +kernel
theorem dX4_block_28 : decode cX4_block 28 = .ok (.aload_n 0, 1) := by decide +kernel
theorem dX4_block_29 : decode cX4_block 29 = .ok (.getfield 13, 3) := by decide +kernel
theorem dX4_block_32 : decode cX4_block 32 = .ok (.iload_n 1, 1) := by decide +kernel
theorem dX4_block_33 : decode cX4_block 33 = .ok (.iaload, 1) := by decide +kernel
theorem dX4_block_34 : decode cX4_block 34 = .ok (.goto 32, 3) := by decide +kernel
theorem dX4_block_37 : decode cX4_block 37 = .ok (.iload_n 2, 1) := by decide +kernel
theorem dX4_block_38 : decode cX4_block 38 = .ok (.iconst 1, 1) := by decide +kernel
theorem dX4_block_39 : decode cX4_block 39 = .ok (.if_icmp .ne 12, 3) := by decide +kernel
theorem dX4_block_42 : decode cX4_block 42 = .ok (.aload_n 0, 1) := by decide +kernel
theorem dX4_block_43 : decode cX4_block 43 = .ok (.getfield 16, 3) := by decide +kernel
theorem dX4_block_46 : decode cX4_block 46 = .ok (.iload_n 1, 1) := by decide +kernel
theorem dX4_block_47 : decode cX4_block 47 = .ok (.iaload, 1) := by decide +kernel
theorem dX4_block_48 : decode cX4_block 48 = .ok (.goto 18, 3) := by decide +kernel
theorem dX4_block_51 : decode cX4_block 51 = .ok (.aload_n 0, 1) := by decide +kernel
theorem dX4_block_52 : decode cX4_block 52 = .ok (.iload_n 1, 1) := by decide +kernel
theorem dX4_block_53 : decode cX4_block 53 = .ok (.iconst 1, 1) := by decide +kernel
theorem dX4_block_54 : decode cX4_block 54 = .ok (.iadd, 1) := by decide +kernel
theorem dX4_block_55 : decode cX4_block 55 = .ok (.invokevirtual 84, 3) := by decide +kernel
theorem dX4_block_58 : decode cX4_block 58 = .ok (.aload_n 0, 1) := by decide +kernel
theorem dX4_block_59 : decode cX4_block 59 = .ok (.iload_n 1, 1) := by decide +kernel
theorem dX4_block_60 : decode cX4_block 60 = .ok (.iconst 1, 1) := by decide +kernel
theorem dX4_block_61 : decode cX4_block 61 = .ok (.iadd, 1) := by decide +kernel
theorem dX4_block_62 : decode cX4_block 62 = .ok (.invokevirtual 87, 3) := by decide +kernel
theorem dX4_block_65 : decode cX4_block 65 = .ok (.isub, 1) := by decide +kernel
theorem dX4_block_66 : decode cX4_block 66 = .ok (.ireturn, 1) := by decide +kernel
set_option maxRecDepth 20000 in
theorem ggX4_isKey_X4_isWidth : GoodIn wsX4_isKey wsX4_isWidth := goodIn_r _ [4] (by decide +kernel) (by decide +kernel)
set_option maxRecDepth 20000 in
theorem gX4_isKey_X4_isWidth : GoodIn wsX4_isKey (va_wsS RX4 52 yX4_isWidth wsX4_isWidth) := goodIn_app (goodIn_of _ (by decide +kernel)) ggX4_isKey_X4_isWidth
theorem dX4_isKey_0 : decode cX4_isKey 0 = .ok (.iload_n 1, 1) := by decide +kernel
theorem dX4_isKey_1 : decode cX4_isKey 1 = .ok (.iconst 1, 1) := by decide +kernel
theorem dX4_isKey_2 : decode cX4_isKey 2 = .ok (.iand, 1) := by decide +kernel
theorem dX4_isKey_3 : decode cX4_isKey 3 = .ok (.iconst 1, 1) := by decide +kernel
theorem dX4_isKey_4 : decode cX4_isKey 4 = .ok (.if_icmp .ne 22, 3) := by decide +kernel
theorem dX4_isKey_7 : decode cX4_isKey 7 = .ok (.iload_n 0, 1) := by decide +kernel
theorem dX4_isKey_8 : decode cX4_isKey 8 = .ok (.iconst 1, 1) := by decide +kernel
theorem dX4_isKey_9 : decode cX4_isKey 9 = .ok (.if_icmp .lt 13, 3) := by decide +kernel
theorem dX4_isKey_12 : decode cX4_isKey 12 = .ok (.iload_n 0, 1) := by decide +kernel
theorem dX4_isKey_13 : decode cX4_isKey 13 = .ok (.bipush 64, 2) := by decide +kernel
theorem dX4_isKey_15 : decode cX4_isKey 15 = .ok (.if_icmp .gt 7, 3) := by decide +kernel
theorem dX4_isKey_18 : decode cX4_isKey 18 = .ok (.iconst 1, 1) := by decide +kernel
theorem dX4_isKey_19 : decode cX4_isKey 19 = .ok (.goto 11, 3) := by decide +kernel
theorem dX4_isKey_22 : decode cX4_isKey 22 = .ok (.iconst 0, 1) := by decide +kernel
theorem dX4_isKey_23 : decode cX4_isKey 23 = .ok (.goto 7, 3) := by decide +kernel
theorem dX4_isKey_26 : decode cX4_isKey 26 = .ok (.iload_n 0, 1) := by decide +kernel
theorem dX4_isKey_27 : decode cX4_isKey 27 = .ok (.invokestatic 52, 3) := by decide +kernel
theorem dX4_isKey_30 : decode cX4_isKey 30 = .ok (.ireturn, 1) := by decide +kernel
set_option maxRecDepth 20000 in
theorem ggX4_isTaken_X4_isIn : GoodIn wsX4_isTaken wsX4_isIn := goodIn_r _ [7, 8, 9, 10, 11, 12, 13, 14, 15, 16, 17, 18, 19, 20, 21, 22, 23, 24, 25, 26] (by decide +kernel) (by decide +kernel)
set_option maxRecDepth 20000 in
theorem gX4_isTaken_X4_isIn : GoodIn wsX4_isTaken (wsV RX4 58 RX4 yX4_isIn wsX4_isIn) := goodIn_app (goodIn_of _ (by decide +kernel)) ggX4_isTaken_X4_isIn
theorem dX4_isTaken_0 : decode cX4_isTaken 0 = .ok (.iload_n 3, 1) := by decide +kernel
theorem dX4_isTaken_1 : decode cX4_isTaken 1 = .ok (.iconst 1, 1) := by decide +kernel
theorem dX4_isTaken_2 : decode cX4_isTaken 2 = .ok (.iand, 1) := by decide +kernel
theorem dX4_isTaken_3 : decode cX4_isTaken 3 = .ok (.ifCond .ne 42, 3) := by decide +kernel
theorem dX4_isTaken_6 : decode cX4_isTaken 6 = .ok (.iconst 0, 1) := by decide +kernel
theorem dX4_isTaken_7 : decode cX4_isTaken 7 = .ok (.istore 4, 2) := by decide +kernel
theorem dX4_isTaken_9 : decode cX4_isTaken 9 = .ok (.iload 4, 2) := by decide +kernel
theorem dX4_isTaken_11 : decode cX4_isTaken 11 = .ok (.iload_n 2, 1) := by decide +kernel
theorem dX4_isTaken_12 : decode cX4_isTaken 12 = .ok (.if_icmp .ge 31, 3) := by decide +kernel
theorem dX4_isTaken_15 : decode cX4_isTaken 15 = .ok (.aload_n 0, 1) := by decide +kernel
theorem dX4_isTaken_16 : decode cX4_isTaken 16 = .ok (.getfield 41, 3) := by decide +kernel
theorem dX4_isTaken_19 : decode cX4_isTaken 19 = .ok (.iload 4, 2) := by decide +kernel
theorem dX4_isTaken_21 : decode cX4_isTaken 21 = .ok (.iload_n 1, 1) := by decide +kernel
theorem dX4_isTaken_22 : decode cX4_isTaken 22 = .ok (.bipush 8, 2) := by decide +kernel
theorem dX4_isTaken_24 : decode cX4_isTaken 24 = .ok (.iload_n 2, 1) := by decide +kernel
theorem dX4_isTaken_25 : decode cX4_isTaken 25 = .ok (.iconst 1, 1) := by decide +kernel
theorem dX4_isTaken_26 : decode cX4_isTaken 26 = .ok (.isub, 1) := by decide +kernel
theorem dX4_isTaken_27 : decode cX4_isTaken 27 = .ok (.iload 4, 2) := by decide +kernel
theorem dX4_isTaken_29 : decode cX4_isTaken 29 = .ok (.isub, 1) := by decide +kernel
theorem dX4_isTaken_30 : decode cX4_isTaken 30 = .ok (.imul, 1) := by decide +kernel
theorem dX4_isTaken_31 : decode cX4_isTaken 31 = .ok (.ishr, 1) := by decide +kernel
theorem dX4_isTaken_32 : decode cX4_isTaken 32 = .ok (.sipush 255, 3) := by decide +kernel
theorem dX4_isTaken_35 : decode cX4_isTaken 35 = .ok (.iand, 1) := by decide +kernel
theorem dX4_isTaken_36 : decode cX4_isTaken 36 = .ok (.iastore, 1) := by decide +kernel
theorem dX4_isTaken_37 : decode cX4_isTaken 37 = .ok (.iinc 4 1, 3) := by decide +kernel
theorem dX4_isTaken_40 : decode cX4_isTaken 40 = .ok (.goto (-31), 3) := by decide +kernel
theorem dX4_isTaken_43 : decode cX4_isTaken 43 = .ok (.iconst 1, 1) := by decide +kernel
theorem dX4_isTaken_44 : decode cX4_isTaken 44 = .ok (.ireturn, 1) := by decide +kernel
theorem dX4_isTaken_45 : decode cX4_isTaken 45 = .ok (.aload_n 0, 1) := by decide +kernel
theorem dX4_isTaken_46 : decode cX4_isTaken 46 = .ok (.iload_n 1, 1) := by decide +kernel
theorem dX4_isTaken_47 : decode cX4_isTaken 47 = .ok (.i2l, 1) := by decide +kernel
theorem dX4_isTaken_48 : decode cX4_isTaken 48 = .ok (.iload_n 2, 1) := by decide +kernel
theorem dX4_isTaken_49 : decode cX4_isTaken 49 = .ok (.i2l, 1) := by decide +kernel
theorem dX4_isTaken_50 : decode cX4_isTaken 50 = .ok (.invokevirtual 58, 3) := by decide +kernel
theorem dX4_isTaken_53 : decode cX4_isTaken 53 = .ok (.ifCond .ne 5, 3) := by decide +kernel
theorem dX4_isTaken_56 : decode cX4_isTaken 56 = .ok (.iconst 0, 1) := by decide +kernel
theorem dX4_isTaken_57 : decode cX4_isTaken 57 = .ok (.ireturn, 1) := by decide +kernel
theorem dX4_isTaken_58 : decode cX4_isTaken 58 = .ok (.iconst 0, 1) := by decide +kernel
theorem dX4_isTaken_59 : decode cX4_isTaken 59 = .ok (.istore 4, 2) := by decide +kernel
theorem dX4_isTaken_61 : decode cX4_isTaken 61 = .ok (.iload 4, 2) := by decide +kernel
theorem dX4_isTaken_63 : decode cX4_isTaken 63 = .ok (.iload_n 2, 1) := by decide +kernel
theorem dX4_isTaken_64 : decode cX4_isTaken 64 = .ok (.if_icmp .ge 25, 3) := by decide +kernel
theorem dX4_isTaken_67 : decode cX4_isTaken 67 = .ok (.aload_n 0, 1) := by decide +kernel
theorem dX4_isTaken_68 : decode cX4_isTaken 68 = .ok (.getfield 41, 3) := by decide +kernel
theorem dX4_isTaken_71 : decode cX4_isTaken 71 = .ok (.iload 4, 2) := by decide +kernel
theorem dX4_isTaken_73 : decode cX4_isTaken 73 = .ok (.aload_n 0, 1) := by decide +kernel
theorem dX4_isTaken_74 : decode cX4_isTaken 74 = .ok (.getfield 7, 3) := by decide +kernel
theorem dX4_isTaken_77 : decode cX4_isTaken 77 = .ok (.iload_n 1, 1) := by decide +kernel
theorem dX4_isTaken_78 : decode cX4_isTaken 78 = .ok (.iload 4, 2) := by decide +kernel
theorem dX4_isTaken_80 : decode cX4_isTaken 80 = .ok (.iadd, 1) := by decide +kernel
theorem dX4_isTaken_81 : decode cX4_isTaken 81 = .ok (.iaload, 1) := by decide +kernel
theorem dX4_isTaken_82 : decode cX4_isTaken 82 = .ok (.iastore, 1) := by decide +kernel
theorem dX4_isTaken_83 : decode cX4_isTaken 83 = .ok (.iinc 4 1, 3) := by decide +kernel
theorem dX4_isTaken_86 : decode cX4_isTaken 86 = .ok (.goto (-25), 3) := by decide +kernel
theorem dX4_isTaken_89 : decode cX4_isTaken 89 = .ok (.iconst 1, 1) := by decide +kernel
theorem dX4_isTaken_90 : decode cX4_isTaken 90 = .ok (.ireturn, 1) := by decide +kernel
theorem dX4_compare_0 : decode cX4_compare 0 = .ok (.iconst 0, 1) := by decide +kernel
theorem dX4_compare_1 : decode cX4_compare 1 = .ok (.istore_n 3, 1) := by decide +kernel
theorem dX4_compare_2 : decode cX4_compare 2 = .ok (.iload_n 3, 1) := by decide +kernel
theorem dX4_compare_3 : decode cX4_compare 3 = .ok (.iload_n 2, 1) := by decide +kernel
theorem dX4_compare_4 : decode cX4_compare 4 = .ok (.if_icmp .ge 49, 3) := by decide +kernel
theorem dX4_compare_7 : decode cX4_compare 7 = .ok (.aload_n 0, 1) := by decide +kernel
theorem dX4_compare_8 : decode cX4_compare 8 = .ok (.getfield 7, 3) := by decide +kernel
theorem dX4_compare_11 : decode cX4_compare 11 = .ok (.iload_n 1, 1) := by decide +kernel
theorem dX4_compare_12 : decode cX4_compare 12 = .ok (.iload_n 3, 1) := by decide +kernel
theorem dX4_compare_13 : decode cX4_compare 13 = .ok (.iadd, 1) := by decide +kernel
theorem dX4_compare_14 : decode cX4_compare 14 = .ok (.iaload, 1) := by decide +kernel
theorem dX4_compare_15 : decode cX4_compare 15 = .ok (.aload_n 0, 1) := by decide +kernel
theorem dX4_compare_16 : decode cX4_compare 16 = .ok (.getfield 41, 3) := by decide +kernel
theorem dX4_compare_19 : decode cX4_compare 19 = .ok (.iload_n 3, 1) := by decide +kernel
theorem dX4_compare_20 : decode cX4_compare 20 = .ok (.iaload, 1) := by decide +kernel
theorem dX4_compare_21 : decode cX4_compare 21 = .ok (.if_icmp .eq 26, 3) := by decide +kernel
theorem dX4_compare_24 : decode cX4_compare 24 = .ok (.aload_n 0, 1) := by decide +kernel
theorem dX4_compare_25 : decode cX4_compare 25 = .ok (.getfield 7, 3) := by decide +kernel
theorem dX4_compare_28 : decode cX4_compare 28 = .ok (.iload_n 1, 1) := by decide +kernel
theorem dX4_compare_29 : decode cX4_compare 29 = .ok (.iload_n 3, 1) := by decide +kernel
theorem dX4_compare_30 : decode cX4_compare 30 = .ok (.iadd, 1) := by decide +kernel
theorem dX4_compare_31 : decode cX4_compare 31 = .ok (.iaload, 1) := by decide +kernel
theorem dX4_compare_32 : decode cX4_compare 32 = .ok (.aload_n 0, 1) := by decide +kernel
theorem dX4_compare_33 : decode cX4_compare 33 = .ok (.getfield 41, 3) := by decide +kernel
theorem dX4_compare_36 : decode cX4_compare 36 = .ok (.iload_n 3, 1) := by decide +kernel
theorem dX4_compare_37 : decode cX4_compare 37 = .ok (.iaload, 1) := by decide +kernel
theorem dX4_compare_38 : decode cX4_compare 38 = .ok (.if_icmp .ge 7, 3) := by decide +kernel
theorem dX4_compare_41 : decode cX4_compare 41 = .ok (.iconst (-1), 1) := by decide +kernel
theorem dX4_compare_42 : decode cX4_compare 42 = .ok (.goto 4, 3) := by decide +kernel
theorem dX4_compare_45 : decode cX4_compare 45 = .ok (.iconst 1, 1) := by decide +kernel
theorem dX4_compare_46 : decode cX4_compare 46 = .ok (.ireturn, 1) := by decide +kernel
theorem dX4_compare_47 : decode cX4_compare 47 = .ok (.iinc 3 1, 3) := by decide +kernel
theorem dX4_compare_50 : decode cX4_compare 50 = .ok (.goto (-48), 3) := by decide +kernel
theorem dX4_compare_53 : decode cX4_compare 53 = .ok (.iconst 0, 1) := by decide +kernel
theorem dX4_compare_54 : decode cX4_compare 54 = .ok (.ireturn, 1) := by decide +kernel
theorem dX4_isZero_0 : decode cX4_isZero 0 = .ok (.iconst 1, 1) := by decide +kernel
theorem dX4_isZero_1 : decode cX4_isZero 1 = .ok (.istore_n 3, 1) := by decide +kernel
theorem dX4_isZero_2 : decode cX4_isZero 2 = .ok (.iconst 0, 1) := by decide +kernel
theorem dX4_isZero_3 : decode cX4_isZero 3 = .ok (.istore 4, 2) := by decide +kernel
theorem dX4_isZero_5 : decode cX4_isZero 5 = .ok (.iload 4, 2) := by decide +kernel
theorem dX4_isZero_7 : decode cX4_isZero 7 = .ok (.iload_n 2, 1) := by decide +kernel
theorem dX4_isZero_8 : decode cX4_isZero 8 = .ok (.if_icmp .ge 31, 3) := by decide +kernel
theorem dX4_isZero_11 : decode cX4_isZero 11 = .ok (.iload_n 3, 1) := by decide +kernel
theorem dX4_isZero_12 : decode cX4_isZero 12 = .ok (.ifCond .eq 19, 3) := by decide +kernel
theorem dX4_isZero_15 : decode cX4_isZero 15 = .ok (.aload_n 0, 1) := by decide +kernel
theorem dX4_isZero_16 : decode cX4_isZero 16 = .ok (.getfield 7, 3) := by decide +kernel
theorem dX4_isZero_19 : decode cX4_isZero 19 = .ok (.iload_n 1, 1) := by decide +kernel
theorem dX4_isZero_20 : decode cX4_isZero 20 = .ok (.iload 4, 2) := by decide +kernel
theorem dX4_isZero_22 : decode cX4_isZero 22 = .ok (.iadd, 1) := by decide +kernel
theorem dX4_isZero_23 : decode cX4_isZero 23 = .ok (.iaload, 1) := by decide +kernel
theorem dX4_isZero_24 : decode cX4_isZero 24 = .ok (.ifCond .ne 7, 3) := by decide +kernel
theorem dX4_isZero_27 : decode cX4_isZero 27 = .ok (.iconst 1, 1) := by decide +kernel
theorem dX4_isZero_28 : decode cX4_isZero 28 = .ok (.goto 4, 3) := by decide +kernel
theorem dX4_isZero_31 : decode cX4_isZero 31 = .ok (.iconst 0, 1) := by decide +kernel
theorem dX4_isZero_32 : decode cX4_isZero 32 = .ok (.istore_n 3, 1) := by decide +kernel
theorem dX4_isZero_33 : decode cX4_isZero 33 = .ok (.iinc 4 1, 3) := by decide +kernel
theorem dX4_isZero_36 : decode cX4_isZero 36 = .ok (.goto (-31), 3) := by decide +kernel
theorem dX4_isZero_39 : decode cX4_isZero 39 = .ok (.iload_n 3, 1) := by decide +kernel
theorem dX4_isZero_40 : decode cX4_isZero 40 = .ok (.ireturn, 1) := by decide +kernel
set_option maxRecDepth 20000 in
theorem ggX4_linear_X4_isKey : GoodIn wsX4_linear wsX4_isKey := goodIn_r _ [4, 5, 6, 3, 7] (by decide +kernel) (by decide +kernel)
set_option maxRecDepth 20000 in
theorem gX4_linear_X4_isKey : GoodIn wsX4_linear (va_wsS RX4 96 yX4_isKey wsX4_isKey) := goodIn_app (goodIn_of _ (by decide +kernel)) ggX4_linear_X4_isKey
set_option maxRecDepth 20000 in
theorem ggX4_linear_X4_isTaken : GoodIn wsX4_linear wsX4_isTaken := goodIn_r _ [11, 12, 13, 14, 15, 16, 3, 17, 18, 27, 28, 29, 30, 31, 32, 33, 34, 35, 36, 37, 38, 39, 40, 41, 42, 43, 44] (by decide +kernel) (by decide +kernel)
set_option maxRecDepth 20000 in
theorem gX4_linear_X4_isTaken : GoodIn wsX4_linear (wsV RX4 100 RX4 yX4_isTaken wsX4_isTaken) := goodIn_app (goodIn_of _ (by decide +kernel)) ggX4_linear_X4_isTaken
set_option maxRecDepth 20000 in
theorem ggX4_linear_X4_isIn : GoodIn wsX4_linear wsX4_isIn := goodIn_r _ [17, 18, 27, 28, 29, 30, 31, 32, 33, 34, 35, 36, 37, 38, 39, 40, 41, 42, 43, 44] (by decide +kernel) (by decide +kernel)
set_option maxRecDepth 20000 in
theorem gX4_linear_X4_isIn : GoodIn wsX4_linear (wsV RX4 58 RX4 yX4_isIn wsX4_isIn) := goodIn_app (goodIn_of _ (by decide +kernel)) ggX4_linear_X4_isIn
set_option maxRecDepth 20000 in
theorem ggX4_linear_X4_compare : GoodIn wsX4_linear wsX4_compare := goodIn_r _ [22, 13, 12, 27, 28, 29, 30, 31, 32, 33, 34, 35, 36, 37, 38, 39, 40, 41, 42, 43, 44] (by decide +kernel) (by decide +kernel)
set_option maxRecDepth 20000 in
theorem gX4_linear_X4_compare : GoodIn wsX4_linear (wsV RX4 104 RX4 yX4_compare wsX4_compare) := goodIn_app (goodIn_of _ (by decide +kernel)) ggX4_linear_X4_compare
set_option maxRecDepth 20000 in
theorem ggX4_linear_X4_isZero : GoodIn wsX4_linear wsX4_isZero := goodIn_r _ [26, 13, 27, 28, 29, 30, 31, 32, 33, 34, 35, 36, 37, 38, 39, 40, 41, 42, 43, 44] (by decide +kernel) (by decide +kernel)
set_option maxRecDepth 20000 in
theorem gX4_linear_X4_isZero : GoodIn wsX4_linear (wsV RX4 108 RX4 yX4_isZero wsX4_isZero) := goodIn_app (goodIn_of _ (by decide +kernel)) ggX4_linear_X4_isZero
theorem dX4_linear_0 : decode cX4_linear 0 = .ok (.iload 4, 2) := by decide +kernel
theorem dX4_linear_2 : decode cX4_linear 2 = .ok (.ifCond .lt 39, 3) := by decide +kernel
theorem dX4_linear_5 : decode cX4_linear 5 = .ok (.iload 5, 2) := by decide +kernel
theorem dX4_linear_7 : decode cX4_linear 7 = .ok (.iconst (-1), 1) := by decide +kernel
theorem dX4_linear_8 : decode cX4_linear 8 = .ok (.if_icmp .lt 33, 3) := by decide +kernel
theorem dX4_linear_11 : decode cX4_linear 11 = .ok (.iload 6, 2) := by decide +kernel
theorem dX4_linear_13 : decode cX4_linear 13 = .ok (.ifCond .lt 28, 3) := by decide +kernel
theorem dX4_linear_16 : decode cX4_linear 16 = .ok (.iload_n 3, 1) := by decide +kernel
theorem dX4_linear_17 : decode cX4_linear 17 = .ok (.ifCond .lt 24, 3) := by decide +kernel
theorem dX4_linear_20 : decode cX4_linear 20 = .ok (.iload 7, 2) := by decide +kernel
theorem dX4_linear_22 : decode cX4_linear 22 = .ok (.ifCond .lt 19, 3) := by decide +kernel
theorem dX4_linear_25 : decode cX4_linear 25 = .ok (.iload 7, 2) := by decide +kernel
theorem dX4_linear_27 : decode cX4_linear 27 = .ok (.bipush 7, 2) := by decide +kernel
theorem dX4_linear_29 : decode cX4_linear 29 = .ok (.if_icmp .gt 12, 3) := by decide +kernel
theorem dX4_linear_32 : decode cX4_linear 32 = .ok (.iload_n 2, 1) := by decide +kernel
theorem dX4_linear_33 : decode cX4_linear 33 = .ok (.iload 7, 2) := by decide +kernel
theorem dX4_linear_35 : decode cX4_linear 35 = .ok (.invokestatic 96, 3) := by decide +kernel
theorem dX4_linear_38 : decode cX4_linear 38 = .ok (.ifCond .ne 6, 3) := by decide +kernel
theorem dX4_linear_41 : decode cX4_linear 41 = .ok (.bipush (-11), 2) := by decide +kernel
theorem dX4_linear_43 : decode cX4_linear 43 = .ok (.ireturn, 1) := by decide +kernel
theorem dX4_linear_44 : decode cX4_linear 44 = .ok (.aload_n 0, 1) := by decide +kernel
theorem dX4_linear_45 : decode cX4_linear 45 = .ok (.iload_n 1, 1) := by decide +kernel
theorem dX4_linear_46 : decode cX4_linear 46 = .ok (.iload_n 2, 1) := by decide +kernel
theorem dX4_linear_47 : decode cX4_linear 47 = .ok (.iload 7, 2) := by decide +kernel
theorem dX4_linear_49 : decode cX4_linear 49 = .ok (.invokevirtual 100, 3) := by decide +kernel
theorem dX4_linear_52 : decode cX4_linear 52 = .ok (.ifCond .ne 6, 3) := by decide +kernel
theorem dX4_linear_55 : decode cX4_linear 55 = .ok (.bipush (-12), 2) := by decide +kernel
theorem dX4_linear_57 : decode cX4_linear 57 = .ok (.ireturn, 1) := by decide +kernel
theorem dX4_linear_58 : decode cX4_linear 58 = .ok (.iload 7, 2) := by decide +kernel
theorem dX4_linear_60 : decode cX4_linear 60 = .ok (.iconst 4, 1) := by decide +kernel
theorem dX4_linear_61 : decode cX4_linear 61 = .ok (.if_icmp .lt 7, 3) := by decide +kernel
theorem dX4_linear_64 : decode cX4_linear 64 = .ok (.iconst 1, 1) := by decide +kernel
theorem dX4_linear_65 : decode cX4_linear 65 = .ok (.goto 4, 3) := by decide +kernel
theorem dX4_linear_68 : decode cX4_linear 68 = .ok (.iconst 0, 1) := by decide +kernel
theorem dX4_linear_69 : decode cX4_linear 69 = .ok (.istore 8, 2) := by decide +kernel
theorem dX4_linear_71 : decode cX4_linear 71 = .ok (.iconst 0, 1) := by decide +kernel
theorem dX4_linear_72 : decode cX4_linear 72 = .ok (.istore 9, 2) := by decide +kernel
theorem dX4_linear_74 : decode cX4_linear 74 = .ok (.iload 5, 2) := by decide +kernel
theorem dX4_linear_76 : decode cX4_linear 76 = .ok (.iconst (-1), 1) := by decide +kernel
theorem dX4_linear_77 : decode cX4_linear 77 = .ok (.if_icmp .eq 10, 3) := by decide +kernel
theorem dX4_linear_80 : decode cX4_linear 80 = .ok (.iload 9, 2) := by decide +kernel
theorem dX4_linear_82 : decode cX4_linear 82 = .ok (.iload 5, 2) := by decide +kernel
theorem dX4_linear_84 : decode cX4_linear 84 = .ok (.if_icmp .ge 120, 3) := by decide +kernel
theorem dX4_linear_87 : decode cX4_linear 87 = .ok (.iload 9, 2) := by decide +kernel
theorem dX4_linear_89 : decode cX4_linear 89 = .ok (.sipush 3000, 3) := by decide +kernel
theorem dX4_linear_92 : decode cX4_linear 92 = .ok (.if_icmp .ne 6, 3) := by decide +kernel
theorem dX4_linear_95 : decode cX4_linear 95 = .ok (.bipush (-16), 2) := by decide +kernel
theorem dX4_linear_97 : decode cX4_linear 97 = .ok (.ireturn, 1) := by decide +kernel
theorem dX4_linear_98 : decode cX4_linear 98 = .ok (.iload_n 3, 1) := by decide +kernel
theorem dX4_linear_99 : decode cX4_linear 99 = .ok (.i2l, 1) := by decide +kernel
theorem dX4_linear_100 : decode cX4_linear 100 = .ok (.iload 9, 2) := by decide +kernel
theorem dX4_linear_102 : decode cX4_linear 102 = .ok (.i2l, 1) := by decide +kernel
theorem dX4_linear_103 : decode cX4_linear 103 = .ok (.iload 4, 2) := by decide +kernel
theorem dX4_linear_105 : decode cX4_linear 105 = .ok (.i2l, 1) := by decide +kernel
theorem dX4_linear_106 : decode cX4_linear 106 = .ok (.lmul, 1) := by decide +kernel
theorem dX4_linear_107 : decode cX4_linear 107 = .ok (.ladd, 1) := by decide +kernel
theorem dX4_linear_108 : decode cX4_linear 108 = .ok (.lstore 10, 2) := by decide +kernel
theorem dX4_linear_110 : decode cX4_linear 110 = .ok (.aload_n 0, 1) := by decide +kernel
theorem dX4_linear_111 : decode cX4_linear 111 = .ok (.lload 10, 2) := by decide +kernel
theorem dX4_linear_113 : decode cX4_linear 113 = .ok (.iload 6, 2) := by decide +kernel
theorem dX4_linear_115 : decode cX4_linear 115 = .ok (.i2l, 1) := by decide +kernel
theorem dX4_linear_116 : decode cX4_linear 116 = .ok (.ladd, 1) := by decide +kernel
theorem dX4_linear_117 : decode cX4_linear 117 = .ok (.iload_n 2, 1) := by decide +kernel
theorem dX4_linear_118 : decode cX4_linear 118 = .ok (.i2l, 1) := by decide +kernel
theorem dX4_linear_119 : decode cX4_linear 119 = .ok (.invokevirtual 58, 3) := by decide +kernel
theorem dX4_linear_122 : decode cX4_linear 122 = .ok (.ifCond .ne 6, 3) := by decide +kernel
theorem dX4_linear_125 : decode cX4_linear 125 = .ok (.bipush (-12), 2) := by decide +kernel
theorem dX4_linear_127 : decode cX4_linear 127 = .ok (.ireturn, 1) := by decide +kernel
theorem dX4_linear_128 : decode cX4_linear 128 = .ok (.iload_n 2, 1) := by decide +kernel
theorem dX4_linear_129 : decode cX4_linear 129 = .ok (.ifCond .ne 7, 3) := by decide +kernel
theorem dX4_linear_132 : decode cX4_linear 132 = .ok (.lconst 0, 1) := by decide +kernel
theorem dX4_linear_133 : decode cX4_linear 133 = .ok (.goto 9, 3) := by decide +kernel
theorem dX4_linear_136 : decode cX4_linear 136 = .ok (.lload 10, 2) := by decide +kernel
theorem dX4_linear_138 : decode cX4_linear 138 = .ok (.iload 6, 2) := by decide +kernel
theorem dX4_linear_140 : decode cX4_linear 140 = .ok (.i2l, 1) := by decide +kernel
theorem dX4_linear_141 : decode cX4_linear 141 = .ok (.ladd, 1) := by decide +kernel
theorem dX4_linear_142 : decode cX4_linear 142 = .ok (.l2i, 1) := by decide +kernel
theorem dX4_linear_143 : decode cX4_linear 143 = .ok (.istore 12, 2) := by decide +kernel
theorem dX4_linear_145 : decode cX4_linear 145 = .ok (.aload_n 0, 1) := by decide +kernel
theorem dX4_linear_146 : decode cX4_linear 146 = .ok (.iload 12, 2) := by decide +kernel
theorem dX4_linear_148 : decode cX4_linear 148 = .ok (.iload_n 2, 1) := by decide +kernel
theorem dX4_linear_149 : decode cX4_linear 149 = .ok (.invokevirtual 104, 3) := by decide +kernel
theorem dX4_linear_152 : decode cX4_linear 152 = .ok (.ifCond .ne 17, 3) := by decide +kernel
theorem dX4_linear_155 : decode cX4_linear 155 = .ok (.iload 8, 2) := by decide +kernel
theorem dX4_linear_157 : decode cX4_linear 157 = .ok (.ifCond .eq 8, 3) := by decide +kernel
theorem dX4_linear_160 : decode cX4_linear 160 = .ok (.iload 9, 2) := by decide +kernel
theorem dX4_linear_162 : decode cX4_linear 162 = .ok (.goto 6, 3) := by decide +kernel
theorem dX4_linear_165 : decode cX4_linear 165 = .ok (.lload 10, 2) := by decide +kernel
theorem dX4_linear_167 : decode cX4_linear 167 = .ok (.l2i, 1) := by decide +kernel
theorem dX4_linear_168 : decode cX4_linear 168 = .ok (.ireturn, 1) := by decide +kernel
theorem dX4_linear_169 : decode cX4_linear 169 = .ok (.iload 7, 2) := by decide +kernel
theorem dX4_linear_171 : decode cX4_linear 171 = .ok (.iconst 2, 1) := by decide +kernel
theorem dX4_linear_172 : decode cX4_linear 172 = .ok (.iand, 1) := by decide +kernel
theorem dX4_linear_173 : decode cX4_linear 173 = .ok (.iconst 2, 1) := by decide +kernel
theorem dX4_linear_174 : decode cX4_linear 174 = .ok (.if_icmp .ne 24, 3) := by decide +kernel
theorem dX4_linear_177 : decode cX4_linear 177 = .ok (.aload_n 0, 1) := by decide +kernel
theorem dX4_linear_178 : decode cX4_linear 178 = .ok (.iload 12, 2) := by decide +kernel
theorem dX4_linear_180 : decode cX4_linear 180 = .ok (.iload_n 2, 1) := by decide +kernel
theorem dX4_linear_181 : decode cX4_linear 181 = .ok (.invokevirtual 108, 3) := by decide +kernel
theorem dX4_linear_184 : decode cX4_linear 184 = .ok (.ifCond .eq 14, 3) := by decide +kernel
theorem dX4_linear_187 : decode cX4_linear 187 = .ok (.iload 8, 2) := by decide +kernel
theorem dX4_linear_189 : decode cX4_linear 189 = .ok (.ifCond .eq 7, 3) := by decide +kernel
theorem dX4_linear_192 : decode cX4_linear 192 = .ok (.iconst (-1), 1) := by decide +kernel
theorem dX4_linear_193 : decode cX4_linear 193 = .ok (.goto 4, 3) := by decide +kernel
theorem dX4_linear_196 : decode cX4_linear 196 = .ok (.iconst 0, 1) := by decide +kernel
theorem dX4_linear_197 : decode cX4_linear 197 = .ok (.ireturn, 1) := by decide +kernel
theorem dX4_linear_198 : decode cX4_linear 198 = .ok (.iinc 9 1, 3) := by decide +kernel
theorem dX4_linear_201 : decode cX4_linear 201 = .ok (.goto (-127), 3) := by decide +kernel
theorem dX4_linear_204 : decode cX4_linear 204 = .ok (.iload 8, 2) := by decide +kernel
theorem dX4_linear_206 : decode cX4_linear 206 = .ok (.ifCond .eq 7, 3) := by decide +kernel
theorem dX4_linear_209 : decode cX4_linear 209 = .ok (.iconst (-1), 1) := by decide +kernel
theorem dX4_linear_210 : decode cX4_linear 210 = .ok (.goto 4, 3) := by decide +kernel
theorem dX4_linear_213 : decode cX4_linear 213 = .ok (.iconst 0, 1) := by decide +kernel
theorem dX4_linear_214 : decode cX4_linear 214 = .ok (.ireturn, 1) := by decide +kernel
set_option maxRecDepth 20000 in
theorem ggX4_binary_X4_isKey : GoodIn wsX4_binary wsX4_isKey := goodIn_r _ [5, 6, 7, 4, 8] (by decide +kernel) (by decide +kernel)
set_option maxRecDepth 20000 in
theorem gX4_binary_X4_isKey : GoodIn wsX4_binary (va_wsS RX4 96 yX4_isKey wsX4_isKey) := goodIn_app (goodIn_of _ (by decide +kernel)) ggX4_binary_X4_isKey
set_option maxRecDepth 20000 in
theorem ggX4_binary_X4_isTaken : GoodIn wsX4_binary wsX4_isTaken := goodIn_r _ [12, 13, 14, 15, 16, 17, 4, 18, 19, 24, 25, 26, 27, 28, 29, 30, 31, 32, 33, 34, 35, 36, 37, 38, 39, 40, 41] (by decide +kernel) (by decide +kernel)
set_option maxRecDepth 20000 in
theorem gX4_binary_X4_isTaken : GoodIn wsX4_binary (wsV RX4 100 RX4 yX4_isTaken wsX4_isTaken) := goodIn_app (goodIn_of _ (by decide +kernel)) ggX4_binary_X4_isTaken
set_option maxRecDepth 20000 in
theorem ggX4_binary_X4_isIn : GoodIn wsX4_binary wsX4_isIn := goodIn_r _ [18, 19, 24, 25, 26, 27, 28, 29, 30, 31, 32, 33, 34, 35, 36, 37, 38, 39, 40, 41] (by decide +kernel) (by decide +kernel)
set_option maxRecDepth 20000 in
theorem gX4_binary_X4_isIn : GoodIn wsX4_binary (wsV RX4 58 RX4 yX4_isIn wsX4_isIn) := goodIn_app (goodIn_of _ (by decide +kernel)) ggX4_binary_X4_isIn
set_option maxRecDepth 20000 in
theorem ggX4_binary_X4_compare : GoodIn wsX4_binary wsX4_compare := goodIn_r _ [23, 14, 13, 24, 25, 26, 27, 28, 29, 30, 31, 32, 33, 34, 35, 36, 37, 38, 39, 40, 41] (by decide +kernel) (by decide +kernel)
set_option maxRecDepth 20000 in
theorem gX4_binary_X4_compare : GoodIn wsX4_binary (wsV RX4 104 RX4 yX4_compare wsX4_compare) := goodIn_app (goodIn_of _ (by decide +kernel)) ggX4_binary_X4_compare
theorem dX4_binary_0 : decode cX4_binary 0 = .ok (.iload 4, 2) := by decide +kernel
theorem dX4_binary_2 : decode cX4_binary 2 = .ok (.ifCond .lt 46, 3) := by decide +kernel
theorem dX4_binary_5 : decode cX4_binary 5 = .ok (.iload 5, 2) := by decide +kernel
theorem dX4_binary_7 : decode cX4_binary 7 = .ok (.ifCond .lt 41, 3) := by decide +kernel
theorem dX4_binary_10 : decode cX4_binary 10 = .ok (.iload 6, 2) := by decide +kernel
theorem dX4_binary_12 : decode cX4_binary 12 = .ok (.ifCond .lt 36, 3) := by decide +kernel
theorem dX4_binary_15 : decode cX4_binary 15 = .ok (.iload_n 3, 1) := by decide +kernel
theorem dX4_binary_16 : decode cX4_binary 16 = .ok (.ifCond .lt 32, 3) := by decide +kernel
theorem dX4_binary_19 : decode cX4_binary 19 = .ok (.iload 7, 2) := by decide +kernel
theorem dX4_binary_21 : decode cX4_binary 21 = .ok (.ifCond .lt 27, 3) := by decide +kernel
theorem dX4_binary_24 : decode cX4_binary 24 = .ok (.iload 7, 2) := by decide +kernel
theorem dX4_binary_26 : decode cX4_binary 26 = .ok (.bipush 7, 2) := by decide +kernel
theorem dX4_binary_28 : decode cX4_binary 28 = .ok (.if_icmp .gt 20, 3) := by decide +kernel
theorem dX4_binary_31 : decode cX4_binary 31 = .ok (.iload 7, 2) := by decide +kernel
theorem dX4_binary_33 : decode cX4_binary 33 = .ok (.iconst 2, 1) := by decide +kernel
theorem dX4_binary_34 : decode cX4_binary 34 = .ok (.iand, 1) := by decide +kernel
theorem dX4_binary_35 : decode cX4_binary 35 = .ok (.iconst 2, 1) := by decide +kernel
theorem dX4_binary_36 : decode cX4_binary 36 = .ok (.if_icmp .eq 12, 3) := by decide +kernel
theorem dX4_binary_39 : decode cX4_binary 39 = .ok (.iload_n 2, 1) := by decide +kernel
theorem dX4_binary_40 : decode cX4_binary 40 = .ok (.iload 7, 2) := by decide +kernel
theorem dX4_binary_42 : decode cX4_binary 42 = .ok (.invokestatic 96, 3) := by decide +kernel
theorem dX4_binary_45 : decode cX4_binary 45 = .ok (.ifCond .ne 6, 3) := by decide +kernel
theorem dX4_binary_48 : decode cX4_binary 48 = .ok (.bipush (-11), 2) := by decide +kernel
theorem dX4_binary_50 : decode cX4_binary 50 = .ok (.ireturn, 1) := by decide +kernel
theorem dX4_binary_51 : decode cX4_binary 51 = .ok (.aload_n 0, 1) := by decide +kernel
theorem dX4_binary_52 : decode cX4_binary 52 = .ok (.iload_n 1, 1) := by decide +kernel
theorem dX4_binary_53 : decode cX4_binary 53 = .ok (.iload_n 2, 1) := by decide +kernel
theorem dX4_binary_54 : decode cX4_binary 54 = .ok (.iload 7, 2) := by decide +kernel
theorem dX4_binary_56 : decode cX4_binary 56 = .ok (.invokevirtual 100, 3) := by decide +kernel
theorem dX4_binary_59 : decode cX4_binary 59 = .ok (.ifCond .ne 6, 3) := by decide +kernel
theorem dX4_binary_62 : decode cX4_binary 62 = .ok (.bipush (-12), 2) := by decide +kernel
theorem dX4_binary_64 : decode cX4_binary 64 = .ok (.ireturn, 1) := by decide +kernel
theorem dX4_binary_65 : decode cX4_binary 65 = .ok (.iload 7, 2) := by decide +kernel
theorem dX4_binary_67 : decode cX4_binary 67 = .ok (.iconst 4, 1) := by decide +kernel
theorem dX4_binary_68 : decode cX4_binary 68 = .ok (.if_icmp .lt 7, 3) := by decide +kernel
theorem dX4_binary_71 : decode cX4_binary 71 = .ok (.iconst 1, 1) := by decide +kernel
theorem dX4_binary_72 : decode cX4_binary 72 = .ok (.goto 4, 3) := by decide +kernel
theorem dX4_binary_75 : decode cX4_binary 75 = .ok (.iconst 0, 1) := by decide +kernel
theorem dX4_binary_76 : decode cX4_binary 76 = .ok (.istore 8, 2) := by decide +kernel
theorem dX4_binary_78 : decode cX4_binary 78 = .ok (.lconst 0, 1) := by decide +kernel
theorem dX4_binary_79 : decode cX4_binary 79 = .ok (.lstore 9, 2) := by decide +kernel
theorem dX4_binary_81 : decode cX4_binary 81 = .ok (.iload 5, 2) := by decide +kernel
theorem dX4_binary_83 : decode cX4_binary 83 = .ok (.i2l, 1) := by decide +kernel
theorem dX4_binary_84 : decode cX4_binary 84 = .ok (.lstore 11, 2) := by decide +kernel
theorem dX4_binary_86 : decode cX4_binary 86 = .ok (.lload 9, 2) := by decide +kernel
theorem dX4_binary_88 : decode cX4_binary 88 = .ok (.lload 11, 2) := by decide +kernel
theorem dX4_binary_90 : decode cX4_binary 90 = .ok (.lcmp, 1) := by decide +kernel
theorem dX4_binary_91 : decode cX4_binary 91 = .ok (.ifCond .ge 117, 3) := by decide +kernel
theorem dX4_binary_94 : decode cX4_binary 94 = .ok (.lload 9, 2) := by decide +kernel
theorem dX4_binary_96 : decode cX4_binary 96 = .ok (.lload 11, 2) := by decide +kernel
theorem dX4_binary_98 : decode cX4_binary 98 = .ok (.ladd, 1) := by decide +kernel
theorem dX4_binary_99 : decode cX4_binary 99 = .ok (.ldc2_w 111, 3) := by decide +kernel
theorem dX4_binary_102 : decode cX4_binary 102 = .ok (.ldiv, 1) := by decide +kernel
theorem dX4_binary_103 : decode cX4_binary 103 = .ok (.lstore 13, 2) := by decide +kernel
theorem dX4_binary_105 : decode cX4_binary 105 = .ok (.iload_n 3, 1) := by decide +kernel
theorem dX4_binary_106 : decode cX4_binary 106 = .ok (.i2l, 1) := by decide +kernel
theorem dX4_binary_107 : decode cX4_binary 107 = .ok (.lload 13, 2) := by decide +kernel
theorem dX4_binary_109 : decode cX4_binary 109 = .ok (.iload 4, 2) := by decide +kernel
theorem dX4_binary_111 : decode cX4_binary 111 = .ok (.i2l, 1) := by decide +kernel
theorem dX4_binary_112 : decode cX4_binary 112 = .ok (.lmul, 1) := by decide +kernel
theorem dX4_binary_113 : decode cX4_binary 113 = .ok (.ladd, 1) := by decide +kernel
theorem dX4_binary_114 : decode cX4_binary 114 = .ok (.lstore 15, 2) := by decide +kernel
theorem dX4_binary_116 : decode cX4_binary 116 = .ok (.aload_n 0, 1) := by decide +kernel
theorem dX4_binary_117 : decode cX4_binary 117 = .ok (.lload 15, 2) := by decide +kernel
theorem dX4_binary_119 : decode cX4_binary 119 = .ok (.iload 6, 2) := by decide +kernel
theorem dX4_binary_121 : decode cX4_binary 121 = .ok (.i2l, 1) := by decide +kernel
theorem dX4_binary_122 : decode cX4_binary 122 = .ok (.ladd, 1) := by decide +kernel
theorem dX4_binary_123 : decode cX4_binary 123 = .ok (.iload_n 2, 1) := by decide +kernel
theorem dX4_binary_124 : decode cX4_binary 124 = .ok (.i2l, 1) := by decide +kernel
theorem dX4_binary_125 : decode cX4_binary 125 = .ok (.invokevirtual 58, 3) := by decide +kernel
theorem dX4_binary_128 : decode cX4_binary 128 = .ok (.ifCond .ne 6, 3) := by decide +kernel
theorem dX4_binary_131 : decode cX4_binary 131 = .ok (.bipush (-12), 2) := by decide +kernel
theorem dX4_binary_133 : decode cX4_binary 133 = .ok (.ireturn, 1) := by decide +kernel
theorem dX4_binary_134 : decode cX4_binary 134 = .ok (.aload_n 0, 1) := by decide +kernel
theorem dX4_binary_135 : decode cX4_binary 135 = .ok (.iload_n 2, 1) := by decide +kernel
theorem dX4_binary_136 : decode cX4_binary 136 = .ok (.ifCond .ne 7, 3) := by decide +kernel
theorem dX4_binary_139 : decode cX4_binary 139 = .ok (.lconst 0, 1) := by decide +kernel
theorem dX4_binary_140 : decode cX4_binary 140 = .ok (.goto 9, 3) := by decide +kernel
theorem dX4_binary_143 : decode cX4_binary 143 = .ok (.lload 15, 2) := by decide +kernel
theorem dX4_binary_145 : decode cX4_binary 145 = .ok (.iload 6, 2) := by decide +kernel
theorem dX4_binary_147 : decode cX4_binary 147 = .ok (.i2l, 1) := by decide +kernel
theorem dX4_binary_148 : decode cX4_binary 148 = .ok (.ladd, 1) := by decide +kernel
theorem dX4_binary_149 : decode cX4_binary 149 = .ok (.l2i, 1) := by decide +kernel
theorem dX4_binary_150 : decode cX4_binary 150 = .ok (.iload_n 2, 1) := by decide +kernel
theorem dX4_binary_151 : decode cX4_binary 151 = .ok (.invokevirtual 104, 3) := by decide +kernel
theorem dX4_binary_154 : decode cX4_binary 154 = .ok (.istore 17, 2) := by decide +kernel
theorem dX4_binary_156 : decode cX4_binary 156 = .ok (.iload 17, 2) := by decide +kernel
theorem dX4_binary_158 : decode cX4_binary 158 = .ok (.ifCond .ne 17, 3) := by decide +kernel
theorem dX4_binary_161 : decode cX4_binary 161 = .ok (.iload 8, 2) := by decide +kernel
theorem dX4_binary_163 : decode cX4_binary 163 = .ok (.ifCond .eq 8, 3) := by decide +kernel
theorem dX4_binary_166 : decode cX4_binary 166 = .ok (.lload 13, 2) := by decide +kernel
theorem dX4_binary_168 : decode cX4_binary 168 = .ok (.goto 5, 3) := by decide +kernel
theorem dX4_binary_171 : decode cX4_binary 171 = .ok (.lload 15, 2) := by decide +kernel
theorem dX4_binary_173 : decode cX4_binary 173 = .ok (.l2i, 1) := by decide +kernel
theorem dX4_binary_174 : decode cX4_binary 174 = .ok (.ireturn, 1) := by decide +kernel
theorem dX4_binary_175 : decode cX4_binary 175 = .ok (.iload 17, 2) := by decide +kernel
theorem dX4_binary_177 : decode cX4_binary 177 = .ok (.ifCond .ge 10, 3) := by decide +kernel
theorem dX4_binary_180 : decode cX4_binary 180 = .ok (.lload 13, 2) := by decide +kernel
theorem dX4_binary_182 : decode cX4_binary 182 = .ok (.lconst 1, 1) := by decide +kernel
theorem dX4_binary_183 : decode cX4_binary 183 = .ok (.ladd, 1) := by decide +kernel
theorem dX4_binary_184 : decode cX4_binary 184 = .ok (.goto 5, 3) := by decide +kernel
theorem dX4_binary_187 : decode cX4_binary 187 = .ok (.lload 9, 2) := by decide +kernel
theorem dX4_binary_189 : decode cX4_binary 189 = .ok (.lstore 9, 2) := by decide +kernel
theorem dX4_binary_191 : decode cX4_binary 191 = .ok (.iload 17, 2) := by decide +kernel
theorem dX4_binary_193 : decode cX4_binary 193 = .ok (.ifCond .ge 8, 3) := by decide +kernel
theorem dX4_binary_196 : decode cX4_binary 196 = .ok (.lload 11, 2) := by decide +kernel
theorem dX4_binary_198 : decode cX4_binary 198 = .ok (.goto 5, 3) := by decide +kernel
theorem dX4_binary_201 : decode cX4_binary 201 = .ok (.lload 13, 2) := by decide +kernel
theorem dX4_binary_203 : decode cX4_binary 203 = .ok (.lstore 11, 2) := by decide +kernel
theorem dX4_binary_205 : decode cX4_binary 205 = .ok (.goto (-119), 3) := by decide +kernel
theorem dX4_binary_208 : decode cX4_binary 208 = .ok (.iload 8, 2) := by decide +kernel
theorem dX4_binary_210 : decode cX4_binary 210 = .ok (.ifCond .eq 7, 3) := by decide +kernel
theorem dX4_binary_213 : decode cX4_binary 213 = .ok (.iconst (-1), 1) := by decide +kernel
theorem dX4_binary_214 : decode cX4_binary 214 = .ok (.goto 4, 3) := by decide +kernel
theorem dX4_binary_217 : decode cX4_binary 217 = .ok (.iconst 0, 1) := by decide +kernel
theorem dX4_binary_218 : decode cX4_binary 218 = .ok (.ireturn, 1) := by decide +kernel
set_option maxRecDepth 20000 in
theorem ggX4_linked_X4_isKey : GoodIn wsX4_linked wsX4_isKey := goodIn_r _ [5, 6, 7, 4, 8] (by decide +kernel) (by decide +kernel)
set_option maxRecDepth 20000 in
theorem gX4_linked_X4_isKey : GoodIn wsX4_linked (va_wsS RX4 96 yX4_isKey wsX4_isKey) := goodIn_app (goodIn_of _ (by decide +kernel)) ggX4_linked_X4_isKey
set_option maxRecDepth 20000 in
theorem ggX4_linked_X4_isTaken : GoodIn wsX4_linked wsX4_isTaken := goodIn_r _ [12, 13, 14, 15, 16, 17, 4, 18, 19, 32, 33, 34, 35, 36, 37, 38, 39, 40, 41, 42, 43, 44, 45, 46, 47, 48, 49] (by decide +kernel) (by decide +kernel)
set_option maxRecDepth 20000 in
theorem gX4_linked_X4_isTaken : GoodIn wsX4_linked (wsV RX4 100 RX4 yX4_isTaken wsX4_isTaken) := goodIn_app (goodIn_of _ (by decide +kernel)) ggX4_linked_X4_isTaken
set_option maxRecDepth 20000 in
theorem ggX4_linked_X4_isIn : GoodIn wsX4_linked wsX4_isIn := goodIn_r _ [18, 19, 32, 33, 34, 35, 36, 37, 38, 39, 40, 41, 42, 43, 44, 45, 46, 47, 48, 49] (by decide +kernel) (by decide +kernel)
set_option maxRecDepth 20000 in
theorem gX4_linked_X4_isIn : GoodIn wsX4_linked (wsV RX4 58 RX4 yX4_isIn wsX4_isIn) := goodIn_app (goodIn_of _ (by decide +kernel)) ggX4_linked_X4_isIn
set_option maxRecDepth 20000 in
theorem ggX4_linked_X4_compare : GoodIn wsX4_linked wsX4_compare := goodIn_r _ [23, 14, 13, 32, 33, 34, 35, 36, 37, 38, 39, 40, 41, 42, 43, 44, 45, 46, 47, 48, 49] (by decide +kernel) (by decide +kernel)
set_option maxRecDepth 20000 in
theorem gX4_linked_X4_compare : GoodIn wsX4_linked (wsV RX4 104 RX4 yX4_compare wsX4_compare) := goodIn_app (goodIn_of _ (by decide +kernel)) ggX4_linked_X4_compare
set_option maxRecDepth 20000 in
theorem ggX4_linked_X4_isZero : GoodIn wsX4_linked wsX4_isZero := goodIn_r _ [27, 14, 32, 33, 34, 35, 36, 37, 38, 39, 40, 41, 42, 43, 44, 45, 46, 47, 48, 49] (by decide +kernel) (by decide +kernel)
set_option maxRecDepth 20000 in
theorem gX4_linked_X4_isZero : GoodIn wsX4_linked (wsV RX4 108 RX4 yX4_isZero wsX4_isZero) := goodIn_app (goodIn_of _ (by decide +kernel)) ggX4_linked_X4_isZero
set_option maxRecDepth 20000 in
theorem ggX4_linked_X4_number : GoodIn wsX4_linked wsX4_number := goodIn_r _ [31, 14, 32, 33, 34, 35, 36, 37, 38, 39, 40, 41, 42, 43, 44, 45, 46, 47, 48, 49] (by decide +kernel) (by decide +kernel)
set_option maxRecDepth 20000 in
theorem gX4_linked_X4_number : GoodIn wsX4_linked (wsV RX4 62 RX4 yX4_number wsX4_number) := goodIn_app (goodIn_of _ (by decide +kernel)) ggX4_linked_X4_number
theorem dX4_linked_0 : decode cX4_linked 0 = .ok (.iload 4, 2) := by decide +kernel
theorem dX4_linked_2 : decode cX4_linked 2 = .ok (.ifCond .lt 32, 3) := by decide +kernel
theorem dX4_linked_5 : decode cX4_linked 5 = .ok (.iload_n 3, 1) := by decide +kernel
theorem dX4_linked_6 : decode cX4_linked 6 = .ok (.ifCond .lt 28, 3) := by decide +kernel
theorem dX4_linked_9 : decode cX4_linked 9 = .ok (.iload 5, 2) := by decide +kernel
theorem dX4_linked_11 : decode cX4_linked 11 = .ok (.ifCond .lt 23, 3) := by decide +kernel
theorem dX4_linked_14 : decode cX4_linked 14 = .ok (.iload 6, 2) := by decide +kernel
theorem dX4_linked_16 : decode cX4_linked 16 = .ok (.ifCond .lt 18, 3) := by decide +kernel
theorem dX4_linked_19 : decode cX4_linked 19 = .ok (.iload 6, 2) := by decide +kernel
theorem dX4_linked_21 : decode cX4_linked 21 = .ok (.iconst 3, 1) := by decide +kernel
theorem dX4_linked_22 : decode cX4_linked 22 = .ok (.if_icmp .gt 12, 3) := by decide +kernel
theorem dX4_linked_25 : decode cX4_linked 25 = .ok (.iload_n 2, 1) := by decide +kernel
theorem dX4_linked_26 : decode cX4_linked 26 = .ok (.iload 6, 2) := by decide +kernel
theorem dX4_linked_28 : decode cX4_linked 28 = .ok (.invokestatic 96, 3) := by decide +kernel
theorem dX4_linked_31 : decode cX4_linked 31 = .ok (.ifCond .ne 6, 3) := by decide +kernel
theorem dX4_linked_34 : decode cX4_linked 34 = .ok (.bipush (-11), 2) := by decide +kernel
theorem dX4_linked_36 : decode cX4_linked 36 = .ok (.ireturn, 1) := by decide +kernel
theorem dX4_linked_37 : decode cX4_linked 37 = .ok (.aload_n 0, 1) := by decide +kernel
theorem dX4_linked_38 : decode cX4_linked 38 = .ok (.iload_n 1, 1) := by decide +kernel
theorem dX4_linked_39 : decode cX4_linked 39 = .ok (.iload_n 2, 1) := by decide +kernel
theorem dX4_linked_40 : decode cX4_linked 40 = .ok (.iload 6, 2) := by decide +kernel
theorem dX4_linked_42 : decode cX4_linked 42 = .ok (.invokevirtual 100, 3) := by decide +kernel
theorem dX4_linked_45 : decode cX4_linked 45 = .ok (.ifCond .ne 6, 3) := by decide +kernel
theorem dX4_linked_48 : decode cX4_linked 48 = .ok (.bipush (-12), 2) := by decide +kernel
theorem dX4_linked_50 : decode cX4_linked 50 = .ok (.ireturn, 1) := by decide +kernel
theorem dX4_linked_51 : decode cX4_linked 51 = .ok (.iload_n 3, 1) := by decide +kernel
theorem dX4_linked_52 : decode cX4_linked 52 = .ok (.i2l, 1) := by decide +kernel
theorem dX4_linked_53 : decode cX4_linked 53 = .ok (.lstore 7, 2) := by decide +kernel
theorem dX4_linked_55 : decode cX4_linked 55 = .ok (.iconst 0, 1) := by decide +kernel
theorem dX4_linked_56 : decode cX4_linked 56 = .ok (.istore 9, 2) := by decide +kernel
theorem dX4_linked_58 : decode cX4_linked 58 = .ok (.lload 7, 2) := by decide +kernel
theorem dX4_linked_60 : decode cX4_linked 60 = .ok (.lconst 0, 1) := by decide +kernel
theorem dX4_linked_61 : decode cX4_linked 61 = .ok (.lcmp, 1) := by decide +kernel
theorem dX4_linked_62 : decode cX4_linked 62 = .ok (.ifCond .eq 122, 3) := by decide +kernel
theorem dX4_linked_65 : decode cX4_linked 65 = .ok (.iload 9, 2) := by decide +kernel
theorem dX4_linked_67 : decode cX4_linked 67 = .ok (.sipush 3000, 3) := by decide +kernel
theorem dX4_linked_70 : decode cX4_linked 70 = .ok (.if_icmp .ne 6, 3) := by decide +kernel
theorem dX4_linked_73 : decode cX4_linked 73 = .ok (.bipush (-16), 2) := by decide +kernel
theorem dX4_linked_75 : decode cX4_linked 75 = .ok (.ireturn, 1) := by decide +kernel
theorem dX4_linked_76 : decode cX4_linked 76 = .ok (.iinc 9 1, 3) := by decide +kernel
theorem dX4_linked_79 : decode cX4_linked 79 = .ok (.aload_n 0, 1) := by decide +kernel
theorem dX4_linked_80 : decode cX4_linked 80 = .ok (.lload 7, 2) := by decide +kernel
theorem dX4_linked_82 : decode cX4_linked 82 = .ok (.iload 4, 2) := by decide +kernel
theorem dX4_linked_84 : decode cX4_linked 84 = .ok (.i2l, 1) := by decide +kernel
theorem dX4_linked_85 : decode cX4_linked 85 = .ok (.ladd, 1) := by decide +kernel
theorem dX4_linked_86 : decode cX4_linked 86 = .ok (.iload_n 2, 1) := by decide +kernel
theorem dX4_linked_87 : decode cX4_linked 87 = .ok (.i2l, 1) := by decide +kernel
theorem dX4_linked_88 : decode cX4_linked 88 = .ok (.invokevirtual 58, 3) := by decide +kernel
theorem dX4_linked_91 : decode cX4_linked 91 = .ok (.ifCond .ne 6, 3) := by decide +kernel
theorem dX4_linked_94 : decode cX4_linked 94 = .ok (.bipush (-12), 2) := by decide +kernel
theorem dX4_linked_96 : decode cX4_linked 96 = .ok (.ireturn, 1) := by decide +kernel
theorem dX4_linked_97 : decode cX4_linked 97 = .ok (.iload_n 2, 1) := by decide +kernel
theorem dX4_linked_98 : decode cX4_linked 98 = .ok (.ifCond .ne 7, 3) := by decide +kernel
theorem dX4_linked_101 : decode cX4_linked 101 = .ok (.lconst 0, 1) := by decide +kernel
theorem dX4_linked_102 : decode cX4_linked 102 = .ok (.goto 9, 3) := by decide +kernel
theorem dX4_linked_105 : decode cX4_linked 105 = .ok (.lload 7, 2) := by decide +kernel
theorem dX4_linked_107 : decode cX4_linked 107 = .ok (.iload 4, 2) := by decide +kernel
theorem dX4_linked_109 : decode cX4_linked 109 = .ok (.i2l, 1) := by decide +kernel
theorem dX4_linked_110 : decode cX4_linked 110 = .ok (.ladd, 1) := by decide +kernel
theorem dX4_linked_111 : decode cX4_linked 111 = .ok (.l2i, 1) := by decide +kernel
theorem dX4_linked_112 : decode cX4_linked 112 = .ok (.istore 10, 2) := by decide +kernel
theorem dX4_linked_114 : decode cX4_linked 114 = .ok (.aload_n 0, 1) := by decide +kernel
theorem dX4_linked_115 : decode cX4_linked 115 = .ok (.iload 10, 2) := by decide +kernel
theorem dX4_linked_117 : decode cX4_linked 117 = .ok (.iload_n 2, 1) := by decide +kernel
theorem dX4_linked_118 : decode cX4_linked 118 = .ok (.invokevirtual 104, 3) := by decide +kernel
theorem dX4_linked_121 : decode cX4_linked 121 = .ok (.ifCond .ne 7, 3) := by decide +kernel
theorem dX4_linked_124 : decode cX4_linked 124 = .ok (.lload 7, 2) := by decide +kernel
theorem dX4_linked_126 : decode cX4_linked 126 = .ok (.l2i, 1) := by decide +kernel
theorem dX4_linked_127 : decode cX4_linked 127 = .ok (.ireturn, 1) := by decide +kernel
theorem dX4_linked_128 : decode cX4_linked 128 = .ok (.iload 6, 2) := by decide +kernel
theorem dX4_linked_130 : decode cX4_linked 130 = .ok (.iconst 2, 1) := by decide +kernel
theorem dX4_linked_131 : decode cX4_linked 131 = .ok (.iand, 1) := by decide +kernel
theorem dX4_linked_132 : decode cX4_linked 132 = .ok (.iconst 2, 1) := by decide +kernel
theorem dX4_linked_133 : decode cX4_linked 133 = .ok (.if_icmp .ne 15, 3) := by decide +kernel
theorem dX4_linked_136 : decode cX4_linked 136 = .ok (.aload_n 0, 1) := by decide +kernel
theorem dX4_linked_137 : decode cX4_linked 137 = .ok (.iload 10, 2) := by decide +kernel
theorem dX4_linked_139 : decode cX4_linked 139 = .ok (.iload_n 2, 1) := by decide +kernel
theorem dX4_linked_140 : decode cX4_linked 140 = .ok (.invokevirtual 108, 3) := by decide +kernel
theorem dX4_linked_143 : decode cX4_linked 143 = .ok (.ifCond .eq 5, 3) := by decide +kernel
theorem dX4_linked_146 : decode cX4_linked 146 = .ok (.iconst 0, 1) := by decide +kernel
theorem dX4_linked_147 : decode cX4_linked 147 = .ok (.ireturn, 1) := by decide +kernel
theorem dX4_linked_148 : decode cX4_linked 148 = .ok (.aload_n 0, 1) := by decide +kernel
theorem dX4_linked_149 : decode cX4_linked 149 = .ok (.lload 7, 2) := by decide +kernel
theorem dX4_linked_151 : decode cX4_linked 151 = .ok (.iload 5, 2) := by decide +kernel
theorem dX4_linked_153 : decode cX4_linked 153 = .ok (.i2l, 1) := by decide +kernel
theorem dX4_linked_154 : decode cX4_linked 154 = .ok (.ladd, 1) := by decide +kernel
theorem dX4_linked_155 : decode cX4_linked 155 = .ok (.ldc2_w 113, 3) := by decide +kernel
theorem dX4_linked_158 : decode cX4_linked 158 = .ok (.invokevirtual 58, 3) := by decide +kernel
theorem dX4_linked_161 : decode cX4_linked 161 = .ok (.ifCond .ne 6, 3) := by decide +kernel
theorem dX4_linked_164 : decode cX4_linked 164 = .ok (.bipush (-12), 2) := by decide +kernel
theorem dX4_linked_166 : decode cX4_linked 166 = .ok (.ireturn, 1) := by decide +kernel
theorem dX4_linked_167 : decode cX4_linked 167 = .ok (.aload_n 0, 1) := by decide +kernel
theorem dX4_linked_168 : decode cX4_linked 168 = .ok (.lload 7, 2) := by decide +kernel
theorem dX4_linked_170 : decode cX4_linked 170 = .ok (.iload 5, 2) := by decide +kernel
theorem dX4_linked_172 : decode cX4_linked 172 = .ok (.i2l, 1) := by decide +kernel
theorem dX4_linked_173 : decode cX4_linked 173 = .ok (.ladd, 1) := by decide +kernel
theorem dX4_linked_174 : decode cX4_linked 174 = .ok (.l2i, 1) := by decide +kernel
theorem dX4_linked_175 : decode cX4_linked 175 = .ok (.iconst 4, 1) := by decide +kernel
theorem dX4_linked_176 : decode cX4_linked 176 = .ok (.invokevirtual 62, 3) := by decide +kernel
theorem dX4_linked_179 : decode cX4_linked 179 = .ok (.lstore 7, 2) := by decide +kernel
theorem dX4_linked_181 : decode cX4_linked 181 = .ok (.goto (-123), 3) := by decide +kernel
theorem dX4_linked_184 : decode cX4_linked 184 = .ok (.iconst 0, 1) := by decide +kernel
theorem dX4_linked_185 : decode cX4_linked 185 = .ok (.ireturn, 1) := by decide +kernel
