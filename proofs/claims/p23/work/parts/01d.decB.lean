set_option maxRecDepth 20000 in
theorem ggX3_init_X1_init : GoodIn wsX3_init wsX1_init := goodIn_r _ [18, 19, 2, 3, 20, 21, 55, 56] (by decide +kernel) (by decide +kernel)
set_option maxRecDepth 20000 in
theorem gX3_init_X1_init_n17 : GoodIn wsX3_init (wsX1_init) := ggX3_init_X1_init
set_option maxRecDepth 20000 in
theorem ggX3_init_X0_init : GoodIn wsX3_init wsX0_init := goodIn_r _ [23, 24, 2, 3, 20, 25, 57, 58] (by decide +kernel) (by decide +kernel)
set_option maxRecDepth 20000 in
theorem gX3_init_X0_init_n24 : GoodIn wsX3_init (wsX0_init) := ggX3_init_X0_init
set_option maxRecDepth 20000 in
theorem ggX3_init_X2_init : GoodIn wsX3_init wsX2_init := goodIn_r _ [27, 28, 2, 3, 20, 29, 30, 31, 32, 59, 60, 61, 62, 63, 64] (by decide +kernel) (by decide +kernel)
set_option maxRecDepth 20000 in
theorem gX3_init_X2_init_n29 : GoodIn wsX3_init (wsX2_init) := ggX3_init_X2_init
set_option maxRecDepth 20000 in
theorem ggX3_init_X2_begin : GoodIn wsX3_init wsX2_begin := goodIn_r _ [36, 29, 37, 38, 39, 40, 41, 42, 43, 44, 45, 15, 46, 59, 60, 61, 62, 63, 64] (by decide +kernel) (by decide +kernel)
set_option maxRecDepth 20000 in
theorem gX3_init_X2_begin : GoodIn wsX3_init (wsV RX3 34 RX2 yX2_begin wsX2_begin) := goodIn_app (goodIn_of _ (by decide +kernel)) ggX3_init_X2_begin
theorem dX3_init_0 : decode cX3_init 0 = .ok (.aload_n 0, 1) := by decide +kernel
theorem dX3_init_1 : decode cX3_init 1 = .ok (.invokespecial 3, 3) := by decide +kernel
theorem dX3_init_4 : decode cX3_init 4 = .ok (.aload_n 0, 1) := by decide +kernel
theorem dX3_init_5 : decode cX3_init 5 = .ok (.iconst 4, 1) := by decide +kernel
theorem dX3_init_6 : decode cX3_init 6 = .ok (.anewarray 9, 3) := by decide +kernel
theorem dX3_init_9 : decode cX3_init 9 = .ok (.putfield 11, 3) := by decide +kernel
theorem dX3_init_12 : decode cX3_init 12 = .ok (.aload_n 0, 1) := by decide +kernel
theorem dX3_init_13 : decode cX3_init 13 = .ok (.new 15, 3) := by decide +kernel
theorem dX3_init_16 : decode cX3_init 16 = .ok (.dup, 1) := by decide +kernel
theorem dX3_init_17 : decode cX3_init 17 = .ok (.invokespecial 17, 3) := by decide +kernel
theorem dX3_init_20 : decode cX3_init 20 = .ok (.putfield 18, 3) := by decide +kernel
theorem dX3_init_23 : decode cX3_init 23 = .ok (.aload_n 0, 1) := by decide +kernel
theorem dX3_init_24 : decode cX3_init 24 = .ok (.new 22, 3) := by decide +kernel
theorem dX3_init_27 : decode cX3_init 27 = .ok (.dup, 1) := by decide +kernel
theorem dX3_init_28 : decode cX3_init 28 = .ok (.invokespecial 24, 3) := by decide +kernel
theorem dX3_init_31 : decode cX3_init 31 = .ok (.putfield 25, 3) := by decide +kernel
theorem dX3_init_34 : decode cX3_init 34 = .ok (.aload_n 0, 1) := by decide +kernel
theorem dX3_init_35 : decode cX3_init 35 = .ok (.new 9, 3) := by decide +kernel
theorem dX3_init_38 : decode cX3_init 38 = .ok (.dup, 1) := by decide +kernel
theorem dX3_init_39 : decode cX3_init 39 = .ok (.invokespecial 29, 3) := by decide +kernel
theorem dX3_init_42 : decode cX3_init 42 = .ok (.putfield 30, 3) := by decide +kernel
theorem dX3_init_45 : decode cX3_init 45 = .ok (.aload_n 0, 1) := by decide +kernel
theorem dX3_init_46 : decode cX3_init 46 = .ok (.getfield 30, 3) := by decide +kernel
theorem dX3_init_49 : decode cX3_init 49 = .ok (.invokevirtual 34, 3) := by decide +kernel
theorem dX3_init_52 : decode cX3_init 52 = .ok (.return_, 1) := by decide +kernel
set_option maxRecDepth 20000 in
theorem ggX3_get_X3_isWidth : GoodIn wsX3_get wsX3_isWidth := goodIn_r _ [7] (by decide +kernel) (by decide +kernel)
set_option maxRecDepth 20000 in
theorem gX3_get_X3_isWidth : GoodIn wsX3_get (va_wsS RX3 37 yX3_isWidth wsX3_isWidth) := goodIn_app (goodIn_of _ (by decide +kernel)) ggX3_get_X3_isWidth
set_option maxRecDepth 20000 in
theorem ggX3_get_X2_has : GoodIn wsX3_get wsX2_has := goodIn_r _ [12, 13, 27, 28, 29, 30, 31, 32] (by decide +kernel) (by decide +kernel)
set_option maxRecDepth 20000 in
theorem gX3_get_X2_has : GoodIn wsX3_get (wsV RX3 43 RX2 yX2_has wsX2_has) := goodIn_app (goodIn_of _ (by decide +kernel)) ggX3_get_X2_has
set_option maxRecDepth 20000 in
theorem ggX3_get_X2_number : GoodIn wsX3_get wsX2_number := goodIn_r _ [17, 18, 27, 28, 29, 30, 31, 32] (by decide +kernel) (by decide +kernel)
set_option maxRecDepth 20000 in
theorem gX3_get_X2_number : GoodIn wsX3_get (wsV RX3 49 RX2 yX2_number wsX2_number) := goodIn_app (goodIn_of _ (by decide +kernel)) ggX3_get_X2_number
theorem dX3_get_0 : decode cX3_get 0 = .ok (.iload_n 1, 1) := by decide +kernel
theorem dX3_get_1 : decode cX3_get 1 = .ok (.ifCond .lt 10, 3) := by decide +kernel
theorem dX3_get_4 : decode cX3_get 4 = .ok (.iload_n 2, 1) := by decide +kernel
theorem dX3_get_5 : decode cX3_get 5 = .ok (.invokestatic 37, 3) := by decide +kernel
theorem dX3_get_8 : decode cX3_get 8 = .ok (.ifCond .ne 7, 3) := by decide +kernel
theorem dX3_get_11 : decode cX3_get 11 = .ok (.ldc2_w 41, 3) := by decide +kernel
theorem dX3_get_14 : decode cX3_get 14 = .ok (.lreturn, 1) := by decide +kernel
theorem dX3_get_15 : decode cX3_get 15 = .ok (.aload_n 0, 1) := by decide +kernel
theorem dX3_get_16 : decode cX3_get 16 = .ok (.getfield 30, 3) := by decide +kernel
theorem dX3_get_19 : decode cX3_get 19 = .ok (.iload_n 1, 1) := by decide +kernel
theorem dX3_get_20 : decode cX3_get 20 = .ok (.i2l, 1) := by decide +kernel
theorem dX3_get_21 : decode cX3_get 21 = .ok (.iload_n 2, 1) := by decide +kernel
theorem dX3_get_22 : decode cX3_get 22 = .ok (.invokevirtual 43, 3) := by decide +kernel
theorem dX3_get_25 : decode cX3_get 25 = .ok (.ifCond .ne 7, 3) := by decide +kernel
theorem dX3_get_28 : decode cX3_get 28 = .ok (.ldc2_w 47, 3) := by decide +kernel
theorem dX3_get_31 : decode cX3_get 31 = .ok (.lreturn, 1) := by decide +kernel
theorem dX3_get_32 : decode cX3_get 32 = .ok (.aload_n 0, 1) := by decide +kernel
theorem dX3_get_33 : decode cX3_get 33 = .ok (.getfield 30, 3) := by decide +kernel
theorem dX3_get_36 : decode cX3_get 36 = .ok (.iload_n 1, 1) := by decide +kernel
theorem dX3_get_37 : decode cX3_get 37 = .ok (.iload_n 2, 1) := by decide +kernel
theorem dX3_get_38 : decode cX3_get 38 = .ok (.invokevirtual 49, 3) := by decide +kernel
theorem dX3_get_41 : decode cX3_get 41 = .ok (.lreturn, 1) := by decide +kernel
set_option maxRecDepth 20000 in
theorem ggX3_set_X3_isWidth : GoodIn wsX3_set wsX3_isWidth := goodIn_r _ [5] (by decide +kernel) (by decide +kernel)
set_option maxRecDepth 20000 in
theorem gX3_set_X3_isWidth : GoodIn wsX3_set (va_wsS RX3 37 yX3_isWidth wsX3_isWidth) := goodIn_app (goodIn_of _ (by decide +kernel)) ggX3_set_X3_isWidth
set_option maxRecDepth 20000 in
theorem ggX3_set_X3_writeRefusal : GoodIn wsX3_set wsX3_writeRefusal := goodIn_r _ [9, 1, 10, 11, 12, 13, 14, 15, 21, 22, 23, 24, 25, 26, 27, 28, 29, 30, 31, 32, 33, 34] (by decide +kernel) (by decide +kernel)
set_option maxRecDepth 20000 in
theorem gX3_set_X3_writeRefusal : GoodIn wsX3_set (wsV RX3 53 RX3 yX3_writeRefusal wsX3_writeRefusal) := goodIn_app (goodIn_of _ (by decide +kernel)) ggX3_set_X3_writeRefusal
set_option maxRecDepth 20000 in
theorem ggX3_set_X2_store : GoodIn wsX3_set wsX2_store := goodIn_r _ [19, 20, 29, 30, 31, 32, 33, 34] (by decide +kernel) (by decide +kernel)
set_option maxRecDepth 20000 in
theorem gX3_set_X2_store : GoodIn wsX3_set (wsV RX3 57 RX2 yX2_store wsX2_store) := goodIn_app (goodIn_of _ (by decide +kernel)) ggX3_set_X2_store
theorem dX3_set_0 : decode cX3_set 0 = .ok (.iload_n 1, 1) := by decide +kernel
theorem dX3_set_1 : decode cX3_set 1 = .ok (.ifCond .lt 10, 3) := by decide +kernel
theorem dX3_set_4 : decode cX3_set 4 = .ok (.iload_n 2, 1) := by decide +kernel
theorem dX3_set_5 : decode cX3_set 5 = .ok (.invokestatic 37, 3) := by decide +kernel
theorem dX3_set_8 : decode cX3_set 8 = .ok (.ifCond .ne 6, 3) := by decide +kernel
theorem dX3_set_11 : decode cX3_set 11 = .ok (.bipush (-11), 2) := by decide +kernel
theorem dX3_set_13 : decode cX3_set 13 = .ok (.ireturn, 1) := by decide +kernel
theorem dX3_set_14 : decode cX3_set 14 = .ok (.aload_n 0, 1) := by decide +kernel
theorem dX3_set_15 : decode cX3_set 15 = .ok (.iload_n 1, 1) := by decide +kernel
theorem dX3_set_16 : decode cX3_set 16 = .ok (.iload_n 2, 1) := by decide +kernel
theorem dX3_set_17 : decode cX3_set 17 = .ok (.invokevirtual 53, 3) := by decide +kernel
theorem dX3_set_20 : decode cX3_set 20 = .ok (.istore 4, 2) := by decide +kernel
theorem dX3_set_22 : decode cX3_set 22 = .ok (.iload 4, 2) := by decide +kernel
theorem dX3_set_24 : decode cX3_set 24 = .ok (.ifCond .eq 6, 3) := by decide +kernel
theorem dX3_set_27 : decode cX3_set 27 = .ok (.iload 4, 2) := by decide +kernel
theorem dX3_set_29 : decode cX3_set 29 = .ok (.ireturn, 1) := by decide +kernel
theorem dX3_set_30 : decode cX3_set 30 = .ok (.aload_n 0, 1) := by decide +kernel
theorem dX3_set_31 : decode cX3_set 31 = .ok (.getfield 30, 3) := by decide +kernel
theorem dX3_set_34 : decode cX3_set 34 = .ok (.iload_n 1, 1) := by decide +kernel
theorem dX3_set_35 : decode cX3_set 35 = .ok (.iload_n 2, 1) := by decide +kernel
theorem dX3_set_36 : decode cX3_set 36 = .ok (.iload_n 3, 1) := by decide +kernel
theorem dX3_set_37 : decode cX3_set 37 = .ok (.invokevirtual 57, 3) := by decide +kernel
theorem dX3_set_40 : decode cX3_set 40 = .ok (.iconst 1, 1) := by decide +kernel
theorem dX3_set_41 : decode cX3_set 41 = .ok (.ireturn, 1) := by decide +kernel
set_option maxRecDepth 20000 in
theorem ggX3_zero_X3_writeRefusal : GoodIn wsX3_zero wsX3_writeRefusal := goodIn_r _ [7, 1, 8, 9, 10, 11, 12, 13, 21, 22, 23, 24, 25, 26, 27, 28, 29, 30, 31, 32, 33, 34] (by decide +kernel) (by decide +kernel)
set_option maxRecDepth 20000 in
theorem gX3_zero_X3_writeRefusal : GoodIn wsX3_zero (wsV RX3 53 RX3 yX3_writeRefusal wsX3_writeRefusal) := goodIn_app (goodIn_of _ (by decide +kernel)) ggX3_zero_X3_writeRefusal
set_option maxRecDepth 20000 in
theorem ggX3_zero_J7_fill_eb02e : GoodIn wsX3_zero wsJ7_fill_eb02e := goodIn_r _ [17, 18, 19, 16, 20] (by decide +kernel) (by decide +kernel)
set_option maxRecDepth 20000 in
theorem gX3_zero_J7_fill_eb02e : GoodIn wsX3_zero (va_wsS RX3 65 yJ7_fill_eb02e wsJ7_fill_eb02e) := goodIn_app (goodIn_of _ (by decide +kernel)) ggX3_zero_J7_fill_eb02e
theorem dX3_zero_0 : decode cX3_zero 0 = .ok (.iload_n 1, 1) := by decide +kernel
theorem dX3_zero_1 : decode cX3_zero 1 = .ok (.ifCond .lt 7, 3) := by decide +kernel
theorem dX3_zero_4 : decode cX3_zero 4 = .ok (.iload_n 2, 1) := by decide +kernel
theorem dX3_zero_5 : decode cX3_zero 5 = .ok (.ifCond .ge 6, 3) := by decide +kernel
theorem dX3_zero_8 : decode cX3_zero 8 = .ok (.bipush (-11), 2) := by decide +kernel
theorem dX3_zero_10 : decode cX3_zero 10 = .ok (.ireturn, 1) := by decide +kernel
theorem dX3_zero_11 : decode cX3_zero 11 = .ok (.iload_n 2, 1) := by decide +kernel
theorem dX3_zero_12 : decode cX3_zero 12 = .ok (.ifCond .ne 5, 3) := by decide +kernel
theorem dX3_zero_15 : decode cX3_zero 15 = .ok (.iconst 1, 1) := by decide +kernel
theorem dX3_zero_16 : decode cX3_zero 16 = .ok (.ireturn, 1) := by decide +kernel
theorem dX3_zero_17 : decode cX3_zero 17 = .ok (.aload_n 0, 1) := by decide +kernel
theorem dX3_zero_18 : decode cX3_zero 18 = .ok (.iload_n 1, 1) := by decide +kernel
theorem dX3_zero_19 : decode cX3_zero 19 = .ok (.iload_n 2, 1) := by decide +kernel
theorem dX3_zero_20 : decode cX3_zero 20 = .ok (.invokevirtual 53, 3) := by decide +kernel
theorem dX3_zero_23 : decode cX3_zero 23 = .ok (.istore_n 3, 1) := by decide +kernel
theorem dX3_zero_24 : decode cX3_zero 24 = .ok (.iload_n 3, 1) := by decide +kernel
theorem dX3_zero_25 : decode cX3_zero 25 = .ok (.ifCond .eq 5, 3) := by decide +kernel
theorem dX3_zero_28 : decode cX3_zero 28 = .ok (.iload_n 3, 1) := by decide +kernel
theorem dX3_zero_29 : decode cX3_zero 29 = .ok (.ireturn, 1) := by decide +kernel
theorem dX3_zero_30 : decode cX3_zero 30 = .ok (.aload_n 0, 1) := by decide +kernel
theorem dX3_zero_31 : decode cX3_zero 31 = .ok (.getfield 30, 3) := by decide +kernel
theorem dX3_zero_34 : decode cX3_zero 34 = .ok (.getfield 61, 3) := by decide +kernel
theorem dX3_zero_37 : decode cX3_zero 37 = .ok (.iload_n 1, 1) := by decide +kernel
theorem dX3_zero_38 : decode cX3_zero 38 = .ok (.iload_n 1, 1) := by decide +kernel
theorem dX3_zero_39 : decode cX3_zero 39 = .ok (.iload_n 2, 1) := by decide +kernel
theorem dX3_zero_40 : decode cX3_zero 40 = .ok (.iadd, 1) := by decide +kernel
theorem dX3_zero_41 : decode cX3_zero 41 = .ok (.iconst 0, 1) := by decide +kernel
theorem dX3_zero_42 : decode cX3_zero 42 = .ok (.invokestatic 65, 3) := by decide +kernel
theorem dX3_zero_45 : decode cX3_zero 45 = .ok (.iconst 1, 1) := by decide +kernel
theorem dX3_zero_46 : decode cX3_zero 46 = .ok (.ireturn, 1) := by decide +kernel
set_option maxRecDepth 20000 in
theorem ggX3_copy_X2_has : GoodIn wsX3_copy wsX2_has := goodIn_r _ [11, 12, 26, 27, 28, 29, 30, 31] (by decide +kernel) (by decide +kernel)
set_option maxRecDepth 20000 in
theorem gX3_copy_X2_has : GoodIn wsX3_copy (wsV RX3 43 RX2 yX2_has wsX2_has) := goodIn_app (goodIn_of _ (by decide +kernel)) ggX3_copy_X2_has
set_option maxRecDepth 20000 in
theorem ggX3_copy_X3_writeRefusal : GoodIn wsX3_copy wsX3_writeRefusal := goodIn_r _ [17, 1, 7, 8, 9, 10, 11, 12, 18, 19, 20, 21, 22, 23, 24, 25, 26, 27, 28, 29, 30, 31] (by decide +kernel) (by decide +kernel)
set_option maxRecDepth 20000 in
theorem gX3_copy_X3_writeRefusal : GoodIn wsX3_copy (wsV RX3 53 RX3 yX3_writeRefusal wsX3_writeRefusal) := goodIn_app (goodIn_of _ (by decide +kernel)) ggX3_copy_X3_writeRefusal
theorem dX3_copy_0 : decode cX3_copy 0 = .ok (.iload_n 1, 1) := by decide +kernel
theorem dX3_copy_1 : decode cX3_copy 1 = .ok (.ifCond .lt 11, 3) := by decide +kernel
theorem dX3_copy_4 : decode cX3_copy 4 = .ok (.iload_n 2, 1) := by decide +kernel
theorem dX3_copy_5 : decode cX3_copy 5 = .ok (.ifCond .lt 7, 3) := by decide +kernel
theorem dX3_copy_8 : decode cX3_copy 8 = .ok (.iload_n 3, 1) := by decide +kernel
theorem dX3_copy_9 : decode cX3_copy 9 = .ok (.ifCond .ge 6, 3) := by decide +kernel
theorem dX3_copy_12 : decode cX3_copy 12 = .ok (.bipush (-11), 2) := by decide +kernel
theorem dX3_copy_14 : decode cX3_copy 14 = .ok (.ireturn, 1) := by decide +kernel
theorem dX3_copy_15 : decode cX3_copy 15 = .ok (.iload_n 3, 1) := by decide +kernel
theorem dX3_copy_16 : decode cX3_copy 16 = .ok (.ifCond .ne 5, 3) := by decide +kernel
theorem dX3_copy_19 : decode cX3_copy 19 = .ok (.iconst 1, 1) := by decide +kernel
theorem dX3_copy_20 : decode cX3_copy 20 = .ok (.ireturn, 1) := by decide +kernel
theorem dX3_copy_21 : decode cX3_copy 21 = .ok (.aload_n 0, 1) := by decide +kernel
theorem dX3_copy_22 : decode cX3_copy 22 = .ok (.getfield 30, 3) := by decide +kernel
theorem dX3_copy_25 : decode cX3_copy 25 = .ok (.iload_n 1, 1) := by decide +kernel
theorem dX3_copy_26 : decode cX3_copy 26 = .ok (.i2l, 1) := by decide +kernel
theorem dX3_copy_27 : decode cX3_copy 27 = .ok (.iload_n 3, 1) := by decide +kernel
theorem dX3_copy_28 : decode cX3_copy 28 = .ok (.invokevirtual 43, 3) := by decide +kernel
theorem dX3_copy_31 : decode cX3_copy 31 = .ok (.ifCond .ne 6, 3) := by decide +kernel
theorem dX3_copy_34 : decode cX3_copy 34 = .ok (.bipush (-12), 2) := by decide +kernel
theorem dX3_copy_36 : decode cX3_copy 36 = .ok (.ireturn, 1) := by decide +kernel
theorem dX3_copy_37 : decode cX3_copy 37 = .ok (.aload_n 0, 1) := by decide +kernel
theorem dX3_copy_38 : decode cX3_copy 38 = .ok (.iload_n 2, 1) := by decide +kernel
theorem dX3_copy_39 : decode cX3_copy 39 = .ok (.iload_n 3, 1) := by decide +kernel
theorem dX3_copy_40 : decode cX3_copy 40 = .ok (.invokevirtual 53, 3) := by decide +kernel
theorem dX3_copy_43 : decode cX3_copy 43 = .ok (.istore 4, 2) := by decide +kernel
theorem dX3_copy_45 : decode cX3_copy 45 = .ok (.iload 4, 2) := by decide +kernel
theorem dX3_copy_47 : decode cX3_copy 47 = .ok (.ifCond .eq 6, 3) := by decide +kernel
theorem dX3_copy_50 : decode cX3_copy 50 = .ok (.iload 4, 2) := by decide +kernel
theorem dX3_copy_52 : decode cX3_copy 52 = .ok (.ireturn, 1) := by decide +kernel
theorem dX3_copy_53 : decode cX3_copy 53 = .ok (.aload_n 0, 1) := by decide +kernel
theorem dX3_copy_54 : decode cX3_copy 54 = .ok (.getfield 30, 3) := by decide +kernel
theorem dX3_copy_57 : decode cX3_copy 57 = .ok (.getfield 61, 3) := by decide +kernel
theorem dX3_copy_60 : decode cX3_copy 60 = .ok (.iload_n 1, 1) := by decide +kernel
theorem dX3_copy_61 : decode cX3_copy 61 = .ok (.aload_n 0, 1) := by decide +kernel
theorem dX3_copy_62 : decode cX3_copy 62 = .ok (.getfield 30, 3) := by decide +kernel
theorem dX3_copy_65 : decode cX3_copy 65 = .ok (.getfield 61, 3) := by decide +kernel
theorem dX3_copy_68 : decode cX3_copy 68 = .ok (.iload_n 2, 1) := by decide +kernel
theorem dX3_copy_69 : decode cX3_copy 69 = .ok (.iload_n 3, 1) := by decide +kernel
theorem dX3_copy_70 : decode cX3_copy 70 = .ok (.invokestatic 71, 3) := by decide +kernel
theorem dX3_copy_73 : decode cX3_copy 73 = .ok (.iconst 1, 1) := by decide +kernel
theorem dX3_copy_74 : decode cX3_copy 74 = .ok (.ireturn, 1) := by decide +kernel
set_option maxRecDepth 20000 in
theorem ggX3_resize_X3_isSize : GoodIn wsX3_resize wsX3_isSize := goodIn_r _ [7] (by decide +kernel) (by decide +kernel)
set_option maxRecDepth 20000 in
theorem gX3_resize_X3_isSize : GoodIn wsX3_resize (va_wsS RX3 77 yX3_isSize wsX3_isSize) := goodIn_app (goodIn_of _ (by decide +kernel)) ggX3_resize_X3_isSize
set_option maxRecDepth 20000 in
theorem ggX3_resize_X2_changeSize : GoodIn wsX3_resize wsX2_changeSize := goodIn_r _ [12, 13, 14, 15, 16, 17, 18, 19, 20, 21, 30, 31, 32, 33, 34, 35] (by decide +kernel) (by decide +kernel)
set_option maxRecDepth 20000 in
theorem gX3_resize_X2_changeSize : GoodIn wsX3_resize (wsV RX3 87 RX2 yX2_changeSize wsX2_changeSize) := goodIn_app (goodIn_of _ (by decide +kernel)) ggX3_resize_X2_changeSize
theorem dX3_resize_0 : decode cX3_resize 0 = .ok (.iload_n 1, 1) := by decide +kernel
theorem dX3_resize_1 : decode cX3_resize 1 = .ok (.invokestatic 77, 3) := by decide +kernel
theorem dX3_resize_4 : decode cX3_resize 4 = .ok (.ifCond .ne 6, 3) := by decide +kernel
theorem dX3_resize_7 : decode cX3_resize 7 = .ok (.bipush (-11), 2) := by decide +kernel
theorem dX3_resize_9 : decode cX3_resize 9 = .ok (.ireturn, 1) := by decide +kernel
theorem dX3_resize_10 : decode cX3_resize 10 = .ok (.aload_n 0, 1) := by decide +kernel
theorem dX3_resize_11 : decode cX3_resize 11 = .ok (.getfield 30, 3) := by decide +kernel
theorem dX3_resize_14 : decode cX3_resize 14 = .ok (.getfield 80, 3) := by decide +kernel
theorem dX3_resize_17 : decode cX3_resize 17 = .ok (.ifCond .le 6, 3) := by decide +kernel
theorem dX3_resize_20 : decode cX3_resize 20 = .ok (.bipush (-14), 2) := by decide +kernel
theorem dX3_resize_22 : decode cX3_resize 22 = .ok (.ireturn, 1) := by decide +kernel
theorem dX3_resize_23 : decode cX3_resize 23 = .ok (.aload_n 0, 1) := by decide +kernel
theorem dX3_resize_24 : decode cX3_resize 24 = .ok (.getfield 30, 3) := by decide +kernel
theorem dX3_resize_27 : decode cX3_resize 27 = .ok (.getfield 84, 3) := by decide +kernel
theorem dX3_resize_30 : decode cX3_resize 30 = .ok (.istore_n 2, 1) := by decide +kernel
theorem dX3_resize_31 : decode cX3_resize 31 = .ok (.aload_n 0, 1) := by decide +kernel
theorem dX3_resize_32 : decode cX3_resize 32 = .ok (.getfield 30, 3) := by decide +kernel
theorem dX3_resize_35 : decode cX3_resize 35 = .ok (.iload_n 1, 1) := by decide +kernel
theorem dX3_resize_36 : decode cX3_resize 36 = .ok (.invokevirtual 87, 3) := by decide +kernel
theorem dX3_resize_39 : decode cX3_resize 39 = .ok (.iload_n 2, 1) := by decide +kernel
theorem dX3_resize_40 : decode cX3_resize 40 = .ok (.ireturn, 1) := by decide +kernel
set_option maxRecDepth 20000 in
theorem ggX3_writeRefusal_X2_has : GoodIn wsX3_writeRefusal wsX2_has := goodIn_r _ [6, 7, 16, 17, 18, 19, 20, 21] (by decide +kernel) (by decide +kernel)
set_option maxRecDepth 20000 in
theorem gX3_writeRefusal_X2_has : GoodIn wsX3_writeRefusal (wsV RX3 43 RX2 yX2_has wsX2_has) := goodIn_app (goodIn_of _ (by decide +kernel)) ggX3_writeRefusal_X2_has
theorem dX3_writeRefusal_0 : decode cX3_writeRefusal 0 = .ok (.aload_n 0, 1) := by decide +kernel
theorem dX3_writeRefusal_1 : decode cX3_writeRefusal 1 = .ok (.getfield 30, 3) := by decide +kernel
theorem dX3_writeRefusal_4 : decode cX3_writeRefusal 4 = .ok (.iload_n 1, 1) := by decide +kernel
theorem dX3_writeRefusal_5 : decode cX3_writeRefusal 5 = .ok (.i2l, 1) := by decide +kernel
theorem dX3_writeRefusal_6 : decode cX3_writeRefusal 6 = .ok (.iload_n 2, 1) := by decide +kernel
theorem dX3_writeRefusal_7 : decode cX3_writeRefusal 7 = .ok (.invokevirtual 43, 3) := by decide +kernel
theorem dX3_writeRefusal_10 : decode cX3_writeRefusal 10 = .ok (.ifCond .ne 6, 3) := by decide +kernel
theorem dX3_writeRefusal_13 : decode cX3_writeRefusal 13 = .ok (.bipush (-12), 2) := by decide +kernel
theorem dX3_writeRefusal_15 : decode cX3_writeRefusal 15 = .ok (.ireturn, 1) := by decide +kernel
theorem dX3_writeRefusal_16 : decode cX3_writeRefusal 16 = .ok (.iload_n 1, 1) := by decide +kernel
theorem dX3_writeRefusal_17 : decode cX3_writeRefusal 17 = .ok (.bipush 64, 2) := by decide +kernel
theorem dX3_writeRefusal_19 : decode cX3_writeRefusal 19 = .ok (.if_icmp .ge 8, 3) := by decide +kernel
theorem dX3_writeRefusal_22 : decode cX3_writeRefusal 22 = .ok (.bipush (-13), 2) := by decide +kernel
theorem dX3_writeRefusal_24 : decode cX3_writeRefusal 24 = .ok (.goto 4, 3) := by decide +kernel
theorem dX3_writeRefusal_27 : decode cX3_writeRefusal 27 = .ok (.iconst 0, 1) := by decide +kernel
theorem dX3_writeRefusal_28 : decode cX3_writeRefusal 28 = .ok (.ireturn, 1) := by decide +kernel
theorem dX3_isWidth_0 : decode cX3_isWidth 0 = .ok (.iload_n 0, 1) := by decide +kernel
theorem dX3_isWidth_1 : decode cX3_isWidth 1 = .ok (.iconst 1, 1) := by decide +kernel
theorem dX3_isWidth_2 : decode cX3_isWidth 2 = .ok (.if_icmp .eq 13, 3) := by decide +kernel
theorem dX3_isWidth_5 : decode cX3_isWidth 5 = .ok (.iload_n 0, 1) := by decide +kernel
theorem dX3_isWidth_6 : decode cX3_isWidth 6 = .ok (.iconst 2, 1) := by decide +kernel
theorem dX3_isWidth_7 : decode cX3_isWidth 7 = .ok (.if_icmp .eq 8, 3) := by decide +kernel
theorem dX3_isWidth_10 : decode cX3_isWidth 10 = .ok (.iload_n 0, 1) := by decide +kernel
theorem dX3_isWidth_11 : decode cX3_isWidth 11 = .ok (.iconst 4, 1) := by decide +kernel
theorem dX3_isWidth_12 : decode cX3_isWidth 12 = .ok (.if_icmp .ne 7, 3) := by decide +kernel
theorem dX3_isWidth_15 : decode cX3_isWidth 15 = .ok (.iconst 1, 1) := by decide +kernel
theorem dX3_isWidth_16 : decode cX3_isWidth 16 = .ok (.goto 4, 3) := by decide +kernel
theorem dX3_isWidth_19 : decode cX3_isWidth 19 = .ok (.iconst 0, 1) := by decide +kernel
theorem dX3_isWidth_20 : decode cX3_isWidth 20 = .ok (.ireturn, 1) := by decide +kernel
theorem dX3_isSize_0 : decode cX3_isSize 0 = .ok (.iload_n 0, 1) := by decide +kernel
theorem dX3_isSize_1 : decode cX3_isSize 1 = .ok (.sipush 256, 3) := by decide +kernel
theorem dX3_isSize_4 : decode cX3_isSize 4 = .ok (.if_icmp .lt 22, 3) := by decide +kernel
theorem dX3_isSize_7 : decode cX3_isSize 7 = .ok (.iload_n 0, 1) := by decide +kernel
theorem dX3_isSize_8 : decode cX3_isSize 8 = .ok (.sipush 8192, 3) := by decide +kernel
theorem dX3_isSize_11 : decode cX3_isSize 11 = .ok (.if_icmp .gt 15, 3) := by decide +kernel
theorem dX3_isSize_14 : decode cX3_isSize 14 = .ok (.iload_n 0, 1) := by decide +kernel
theorem dX3_isSize_15 : decode cX3_isSize 15 = .ok (.sipush 256, 3) := by decide +kernel
theorem dX3_isSize_18 : decode cX3_isSize 18 = .ok (.irem, 1) := by decide +kernel
theorem dX3_isSize_19 : decode cX3_isSize 19 = .ok (.ifCond .ne 7, 3) := by decide +kernel
theorem dX3_isSize_22 : decode cX3_isSize 22 = .ok (.iconst 1, 1) := by decide +kernel
theorem dX3_isSize_23 : decode cX3_isSize 23 = .ok (.goto 4, 3) := by decide +kernel
theorem dX3_isSize_26 : decode cX3_isSize 26 = .ok (.iconst 0, 1) := by decide +kernel
theorem dX3_isSize_27 : decode cX3_isSize 27 = .ok (.ireturn, 1) := by decide +kernel
set_option maxRecDepth 20000 in
theorem ggX3_make_X2_gapFor : GoodIn wsX3_make wsX2_gapFor := goodIn_r _ [7, 8, 9, 10, 11, 6, 12, 13, 14, 15, 16, 17, 18, 19, 20, 50, 51, 52, 53, 54, 55] (by decide +kernel) (by decide +kernel)
set_option maxRecDepth 20000 in
theorem gX3_make_X2_gapFor : GoodIn wsX3_make (wsV RX3 91 RX2 yX2_gapFor wsX2_gapFor) := goodIn_app (goodIn_of _ (by decide +kernel)) ggX3_make_X2_gapFor
set_option maxRecDepth 20000 in
theorem ggX3_make_X2_gapBegin : GoodIn wsX3_make wsX2_gapBegin := goodIn_r _ [18, 13, 19, 8, 14, 20, 50, 51, 52, 53, 54, 55] (by decide +kernel) (by decide +kernel)
set_option maxRecDepth 20000 in
theorem gX3_make_X2_gapBegin : GoodIn wsX3_make (wsV RX3 95 RX2 yX2_gapBegin wsX2_gapBegin) := goodIn_app (goodIn_of _ (by decide +kernel)) ggX3_make_X2_gapBegin
set_option maxRecDepth 20000 in
theorem ggX3_make_X2_addBlock : GoodIn wsX3_make wsX2_addBlock := goodIn_r _ [25, 8, 14, 20, 13, 26, 27, 28, 29, 19, 30, 31, 32, 6, 33, 34, 35, 36, 37, 38, 39, 40, 41, 50, 51, 52, 53, 54, 55] (by decide +kernel) (by decide +kernel)
set_option maxRecDepth 20000 in
theorem gX3_make_X2_addBlock : GoodIn wsX3_make (wsV RX3 98 RX2 yX2_addBlock wsX2_addBlock) := goodIn_app (goodIn_of _ (by decide +kernel)) ggX3_make_X2_addBlock
theorem dX3_make_0 : decode cX3_make 0 = .ok (.iload_n 1, 1) := by decide +kernel
theorem dX3_make_1 : decode cX3_make 1 = .ok (.iconst 1, 1) := by decide +kernel
theorem dX3_make_2 : decode cX3_make 2 = .ok (.if_icmp .ge 6, 3) := by decide +kernel
theorem dX3_make_5 : decode cX3_make 5 = .ok (.bipush (-11), 2) := by decide +kernel
theorem dX3_make_7 : decode cX3_make 7 = .ok (.ireturn, 1) := by decide +kernel
theorem dX3_make_8 : decode cX3_make 8 = .ok (.aload_n 0, 1) := by decide +kernel
theorem dX3_make_9 : decode cX3_make 9 = .ok (.getfield 30, 3) := by decide +kernel
theorem dX3_make_12 : decode cX3_make 12 = .ok (.getfield 80, 3) := by decide +kernel
theorem dX3_make_15 : decode cX3_make 15 = .ok (.bipush 64, 2) := by decide +kernel
theorem dX3_make_17 : decode cX3_make 17 = .ok (.if_icmp .lt 5, 3) := by decide +kernel
theorem dX3_make_20 : decode cX3_make 20 = .ok (.iconst 0, 1) := by decide +kernel
theorem dX3_make_21 : decode cX3_make 21 = .ok (.ireturn, 1) := by decide +kernel
theorem dX3_make_22 : decode cX3_make 22 = .ok (.aload_n 0, 1) := by decide +kernel
theorem dX3_make_23 : decode cX3_make 23 = .ok (.getfield 30, 3) := by decide +kernel
theorem dX3_make_26 : decode cX3_make 26 = .ok (.iload_n 1, 1) := by decide +kernel
theorem dX3_make_27 : decode cX3_make 27 = .ok (.invokevirtual 91, 3) := by decide +kernel
theorem dX3_make_30 : decode cX3_make 30 = .ok (.istore_n 2, 1) := by decide +kernel
theorem dX3_make_31 : decode cX3_make 31 = .ok (.aload_n 0, 1) := by decide +kernel
theorem dX3_make_32 : decode cX3_make 32 = .ok (.getfield 30, 3) := by decide +kernel
theorem dX3_make_35 : decode cX3_make 35 = .ok (.iload_n 2, 1) := by decide +kernel
theorem dX3_make_36 : decode cX3_make 36 = .ok (.invokevirtual 95, 3) := by decide +kernel
theorem dX3_make_39 : decode cX3_make 39 = .ok (.istore_n 3, 1) := by decide +kernel
theorem dX3_make_40 : decode cX3_make 40 = .ok (.iload_n 1, 1) := by decide +kernel
theorem dX3_make_41 : decode cX3_make 41 = .ok (.sipush 8192, 3) := by decide +kernel
theorem dX3_make_44 : decode cX3_make 44 = .ok (.iload_n 3, 1) := by decide +kernel
theorem dX3_make_45 : decode cX3_make 45 = .ok (.isub, 1) := by decide +kernel
theorem dX3_make_46 : decode cX3_make 46 = .ok (.if_icmp .le 5, 3) := by decide +kernel
theorem dX3_make_49 : decode cX3_make 49 = .ok (.iconst 0, 1) := by decide +kernel
theorem dX3_make_50 : decode cX3_make 50 = .ok (.ireturn, 1) := by decide +kernel
theorem dX3_make_51 : decode cX3_make 51 = .ok (.aload_n 0, 1) := by decide +kernel
theorem dX3_make_52 : decode cX3_make 52 = .ok (.getfield 30, 3) := by decide +kernel
theorem dX3_make_55 : decode cX3_make 55 = .ok (.iload_n 2, 1) := by decide +kernel
theorem dX3_make_56 : decode cX3_make 56 = .ok (.iload_n 3, 1) := by decide +kernel
theorem dX3_make_57 : decode cX3_make 57 = .ok (.iload_n 1, 1) := by decide +kernel
theorem dX3_make_58 : decode cX3_make 58 = .ok (.invokevirtual 98, 3) := by decide +kernel
theorem dX3_make_61 : decode cX3_make 61 = .ok (.iload_n 3, 1) := by decide +kernel
theorem dX3_make_62 : decode cX3_make 62 = .ok (.ireturn, 1) := by decide +kernel
set_option maxRecDepth 20000 in
theorem ggX3_free_X2_blockAt : GoodIn wsX3_free wsX2_blockAt := goodIn_r _ [7, 8, 9, 41, 42, 43, 44, 45, 46] (by decide +kernel) (by decide +kernel)
set_option maxRecDepth 20000 in
theorem gX3_free_X2_blockAt : GoodIn wsX3_free (wsV RX3 101 RX2 yX2_blockAt wsX2_blockAt) := goodIn_app (goodIn_of _ (by decide +kernel)) ggX3_free_X2_blockAt
set_option maxRecDepth 20000 in
theorem ggX3_free_X2_removeBlock : GoodIn wsX3_free wsX2_removeBlock := goodIn_r _ [13, 9, 8, 14, 15, 16, 17, 18, 19, 20, 21, 22, 6, 23, 24, 25, 26, 27, 28, 29, 30, 31, 32, 41, 42, 43, 44, 45, 46] (by decide +kernel) (by decide +kernel)
set_option maxRecDepth 20000 in
theorem gX3_free_X2_removeBlock : GoodIn wsX3_free (wsV RX3 108 RX2 yX2_removeBlock wsX2_removeBlock) := goodIn_app (goodIn_of _ (by decide +kernel)) ggX3_free_X2_removeBlock
theorem dX3_free_0 : decode cX3_free 0 = .ok (.aload_n 0, 1) := by decide +kernel
theorem dX3_free_1 : decode cX3_free 1 = .ok (.getfield 30, 3) := by decide +kernel
theorem dX3_free_4 : decode cX3_free 4 = .ok (.iload_n 1, 1) := by decide +kernel
theorem dX3_free_5 : decode cX3_free 5 = .ok (.invokevirtual 101, 3) := by decide +kernel
theorem dX3_free_8 : decode cX3_free 8 = .ok (.istore_n 2, 1) := by decide +kernel
theorem dX3_free_9 : decode cX3_free 9 = .ok (.iload_n 2, 1) := by decide +kernel
theorem dX3_free_10 : decode cX3_free 10 = .ok (.iconst (-1), 1) := by decide +kernel
theorem dX3_free_11 : decode cX3_free 11 = .ok (.if_icmp .ne 6, 3) := by decide +kernel
theorem dX3_free_14 : decode cX3_free 14 = .ok (.bipush (-11), 2) := by decide +kernel
theorem dX3_free_16 : decode cX3_free 16 = .ok (.ireturn, 1) := by decide +kernel
theorem dX3_free_17 : decode cX3_free 17 = .ok (.aload_n 0, 1) := by decide +kernel
theorem dX3_free_18 : decode cX3_free 18 = .ok (.getfield 30, 3) := by decide +kernel
theorem dX3_free_21 : decode cX3_free 21 = .ok (.getfield 104, 3) := by decide +kernel
theorem dX3_free_24 : decode cX3_free 24 = .ok (.iload_n 2, 1) := by decide +kernel
theorem dX3_free_25 : decode cX3_free 25 = .ok (.iaload, 1) := by decide +kernel
theorem dX3_free_26 : decode cX3_free 26 = .ok (.istore_n 3, 1) := by decide +kernel
theorem dX3_free_27 : decode cX3_free 27 = .ok (.aload_n 0, 1) := by decide +kernel
theorem dX3_free_28 : decode cX3_free 28 = .ok (.getfield 30, 3) := by decide +kernel
theorem dX3_free_31 : decode cX3_free 31 = .ok (.iload_n 2, 1) := by decide +kernel
theorem dX3_free_32 : decode cX3_free 32 = .ok (.invokevirtual 108, 3) := by decide +kernel
theorem dX3_free_35 : decode cX3_free 35 = .ok (.iload_n 3, 1) := by decide +kernel
theorem dX3_free_36 : decode cX3_free 36 = .ok (.ireturn, 1) := by decide +kernel
set_option maxRecDepth 20000 in
theorem ggX3_block_X2_gapLength : GoodIn wsX3_block wsX2_gapLength := goodIn_r _ [9, 10, 11, 12, 13, 14, 15, 8, 16, 17, 18, 27, 28, 29, 30, 31, 32] (by decide +kernel) (by decide +kernel)
set_option maxRecDepth 20000 in
theorem gX3_block_X2_gapLength : GoodIn wsX3_block (wsV RX3 114 RX2 yX2_gapLength wsX2_gapLength) := goodIn_app (goodIn_of _ (by decide +kernel)) ggX3_block_X2_gapLength
theorem dX3_block_0 : decode cX3_block 0 = .ok (.iload_n 1, 1) := by decide +kernel
theorem dX3_block_1 : decode cX3_block 1 = .ok (.ifCond .lt 14, 3) := by decide +kernel
theorem dX3_block_4 : decode cX3_block 4 = .ok (.iload_n 1, 1) := by decide +kernel
theorem dX3_block_5 : decode cX3_block 5 = .ok (.aload_n 0, 1) := by decide +kernel
theorem dX3_block_6 : decode cX3_block 6 = .ok (.getfield 30, 3) := by decide +kernel
theorem dX3_block_9 : decode cX3_block 9 = .ok (.getfield 80, 3) := by decide +kernel
theorem dX3_block_12 : decode cX3_block 12 = .ok (.if_icmp .lt 6, 3) := by decide +kernel
theorem dX3_block_15 : decode cX3_block 15 = .ok (.bipush (-11), 2) := by decide +kernel
theorem dX3_block_17 : decode cX3_block 17 = .ok (.ireturn, 1) := by decide +kernel
theorem dX3_block_18 : decode cX3_block 18 = .ok (.iload_n 2, 1) := by decide +kernel
theorem dX3_block_19 : decode cX3_block 19 = .ok (.tableswitch 56 0 2 #[25, 35, 45], 25) := by decide +kernel
theorem dX3_block_44 : decode cX3_block 44 = .ok (.aload_n 0, 1) := by decide +kernel
theorem dX3_block_45 : decode cX3_block 45 = .ok (.getfield 30, 3) := by decide +kernel
theorem dX3_block_48 : decode cX3_block 48 = .ok (.getfield 111, 3) := by decide +kernel
theorem dX3_block_51 : decode cX3_block 51 = .ok (.iload_n 1, 1) := by decide +kernel
theorem dX3_block_52 : decode cX3_block 52 = .ok (.iaload, 1) := by decide +kernel
theorem dX3_block_53 : decode cX3_block 53 = .ok (.ireturn, 1) := by decide +kernel
theorem dX3_block_54 : decode cX3_block 54 = .ok (.aload_n 0, 1) := by decide +kernel
theorem dX3_block_55 : decode cX3_block 55 = .ok (.getfield 30, 3) := by decide +kernel
theorem dX3_block_58 : decode cX3_block 58 = .ok (.getfield 104, 3) := by decide +kernel
theorem dX3_block_61 : decode cX3_block 61 = .ok (.iload_n 1, 1) := by decide +kernel
theorem dX3_block_62 : decode cX3_block 62 = .ok (.iaload, 1) := by decide +kernel
theorem dX3_block_63 : decode cX3_block 63 = .ok (.ireturn, 1) := by decide +kernel
theorem dX3_block_64 : decode cX3_block 64 = .ok (.aload_n 0, 1) := by decide +kernel
theorem dX3_block_65 : decode cX3_block 65 = .ok (.getfield 30, 3) := by decide +kernel
theorem dX3_block_68 : decode cX3_block 68 = .ok (.iload_n 1, 1) := by decide +kernel
theorem dX3_block_69 : decode cX3_block 69 = .ok (.iconst 1, 1) := by decide +kernel
theorem dX3_block_70 : decode cX3_block 70 = .ok (.iadd, 1) := by decide +kernel
theorem dX3_block_71 : decode cX3_block 71 = .ok (.invokevirtual 114, 3) := by decide +kernel
theorem dX3_block_74 : decode cX3_block 74 = .ok (.ireturn, 1) := by decide +kernel
theorem dX3_block_75 : decode cX3_block 75 = .ok (.bipush (-11), 2) := by decide +kernel
theorem dX3_block_77 : decode cX3_block 77 = .ok (.ireturn, 1) := by decide +kernel
set_option maxRecDepth 20000 in
theorem ggX3_linear_X3_isSearch : GoodIn wsX3_linear wsX3_isSearch := goodIn_r _ [10, 11, 12, 9, 13] (by decide +kernel) (by decide +kernel)
set_option maxRecDepth 20000 in
theorem gX3_linear_X3_isSearch : GoodIn wsX3_linear (va_wsS RX3 117 yX3_isSearch wsX3_isSearch) := goodIn_app (goodIn_of _ (by decide +kernel)) ggX3_linear_X3_isSearch
set_option maxRecDepth 20000 in
theorem ggX3_linear_X1_load : GoodIn wsX3_linear wsX1_load := goodIn_r _ [18, 19, 20, 21, 22, 23, 24, 25, 26, 27, 28, 29, 30, 31, 61, 62, 63, 64, 65, 66, 67, 68] (by decide +kernel) (by decide +kernel)
set_option maxRecDepth 20000 in
theorem gX3_linear_X1_load : GoodIn wsX3_linear (wsV RX3 121 RX1 yX1_load wsX1_load) := goodIn_app (goodIn_of _ (by decide +kernel)) ggX3_linear_X1_load
set_option maxRecDepth 20000 in
theorem ggX3_linear_X3_look : GoodIn wsX3_linear wsX3_look := goodIn_r _ [35, 2, 1, 36, 37, 27, 28, 29, 30, 31, 38, 39, 40, 17, 41, 19, 21, 20, 42, 43, 44, 45, 46, 53, 54, 55, 56, 57, 58, 59, 60, 61, 62, 63, 64, 65, 66, 67, 68] (by decide +kernel) (by decide +kernel)
set_option maxRecDepth 20000 in
theorem gX3_linear_X3_look : GoodIn wsX3_linear (wsV RX3 130 RX3 yX3_look wsX3_look) := goodIn_app (goodIn_of _ (by decide +kernel)) ggX3_linear_X3_look
set_option maxRecDepth 20000 in
theorem ggX3_linear_X3_foundAnswer : GoodIn wsX3_linear wsX3_foundAnswer := goodIn_r _ [49] (by decide +kernel) (by decide +kernel)
set_option maxRecDepth 20000 in
theorem gX3_linear_X3_foundAnswer : GoodIn wsX3_linear (va_wsS RX3 134 yX3_foundAnswer wsX3_foundAnswer) := goodIn_app (goodIn_of _ (by decide +kernel)) ggX3_linear_X3_foundAnswer
set_option maxRecDepth 20000 in
theorem ggX3_linear_X3_noneAnswer : GoodIn wsX3_linear wsX3_noneAnswer := goodIn_r _ [52] (by decide +kernel) (by decide +kernel)
set_option maxRecDepth 20000 in
theorem gX3_linear_X3_noneAnswer : GoodIn wsX3_linear (va_wsS RX3 138 yX3_noneAnswer wsX3_noneAnswer) := goodIn_app (goodIn_of _ (by decide +kernel)) ggX3_linear_X3_noneAnswer
theorem dX3_linear_0 : decode cX3_linear 0 = .ok (.iload 4, 2) := by decide +kernel
theorem dX3_linear_2 : decode cX3_linear 2 = .ok (.ifCond .lt 21, 3) := by decide +kernel
theorem dX3_linear_5 : decode cX3_linear 5 = .ok (.iload 5, 2) := by decide +kernel
theorem dX3_linear_7 : decode cX3_linear 7 = .ok (.iconst (-1), 1) := by decide +kernel
theorem dX3_linear_8 : decode cX3_linear 8 = .ok (.if_icmp .lt 15, 3) := by decide +kernel
theorem dX3_linear_11 : decode cX3_linear 11 = .ok (.iload_n 2, 1) := by decide +kernel
theorem dX3_linear_12 : decode cX3_linear 12 = .ok (.iload_n 3, 1) := by decide +kernel
theorem dX3_linear_13 : decode cX3_linear 13 = .ok (.iload 6, 2) := by decide +kernel
theorem dX3_linear_15 : decode cX3_linear 15 = .ok (.iload 7, 2) := by decide +kernel
theorem dX3_linear_17 : decode cX3_linear 17 = .ok (.invokestatic 117, 3) := by decide +kernel
theorem dX3_linear_20 : decode cX3_linear 20 = .ok (.ifCond .ne 6, 3) := by decide +kernel
theorem dX3_linear_23 : decode cX3_linear 23 = .ok (.bipush (-11), 2) := by decide +kernel
theorem dX3_linear_25 : decode cX3_linear 25 = .ok (.ireturn, 1) := by decide +kernel
theorem dX3_linear_26 : decode cX3_linear 26 = .ok (.aload_n 0, 1) := by decide +kernel
theorem dX3_linear_27 : decode cX3_linear 27 = .ok (.getfield 18, 3) := by decide +kernel
theorem dX3_linear_30 : decode cX3_linear 30 = .ok (.aload_n 0, 1) := by decide +kernel
theorem dX3_linear_31 : decode cX3_linear 31 = .ok (.getfield 30, 3) := by decide +kernel
theorem dX3_linear_34 : decode cX3_linear 34 = .ok (.iload_n 1, 1) := by decide +kernel
theorem dX3_linear_35 : decode cX3_linear 35 = .ok (.iload_n 2, 1) := by decide +kernel
theorem dX3_linear_36 : decode cX3_linear 36 = .ok (.iload 7, 2) := by decide +kernel
theorem dX3_linear_38 : decode cX3_linear 38 = .ok (.invokevirtual 121, 3) := by decide +kernel
theorem dX3_linear_41 : decode cX3_linear 41 = .ok (.ifCond .ne 6, 3) := by decide +kernel
theorem dX3_linear_44 : decode cX3_linear 44 = .ok (.bipush (-12), 2) := by decide +kernel
theorem dX3_linear_46 : decode cX3_linear 46 = .ok (.ireturn, 1) := by decide +kernel
theorem dX3_linear_47 : decode cX3_linear 47 = .ok (.iload 5, 2) := by decide +kernel
theorem dX3_linear_49 : decode cX3_linear 49 = .ok (.iconst (-1), 1) := by decide +kernel
theorem dX3_linear_50 : decode cX3_linear 50 = .ok (.if_icmp .ne 9, 3) := by decide +kernel
theorem dX3_linear_53 : decode cX3_linear 53 = .ok (.sipush 3000, 3) := by decide +kernel
theorem dX3_linear_56 : decode cX3_linear 56 = .ok (.goto 11, 3) := by decide +kernel
theorem dX3_linear_59 : decode cX3_linear 59 = .ok (.iload 5, 2) := by decide +kernel
theorem dX3_linear_61 : decode cX3_linear 61 = .ok (.sipush 3000, 3) := by decide +kernel
theorem dX3_linear_64 : decode cX3_linear 64 = .ok (.invokestatic 125, 3) := by decide +kernel
theorem dX3_linear_67 : decode cX3_linear 67 = .ok (.istore 8, 2) := by decide +kernel
theorem dX3_linear_69 : decode cX3_linear 69 = .ok (.iconst 0, 1) := by decide +kernel
theorem dX3_linear_70 : decode cX3_linear 70 = .ok (.istore 9, 2) := by decide +kernel
theorem dX3_linear_72 : decode cX3_linear 72 = .ok (.iload 9, 2) := by decide +kernel
theorem dX3_linear_74 : decode cX3_linear 74 = .ok (.iload 8, 2) := by decide +kernel
theorem dX3_linear_76 : decode cX3_linear 76 = .ok (.if_icmp .ge 73, 3) := by decide +kernel
theorem dX3_linear_79 : decode cX3_linear 79 = .ok (.iload_n 3, 1) := by decide +kernel
theorem dX3_linear_80 : decode cX3_linear 80 = .ok (.i2l, 1) := by decide +kernel
theorem dX3_linear_81 : decode cX3_linear 81 = .ok (.iload 9, 2) := by decide +kernel
theorem dX3_linear_83 : decode cX3_linear 83 = .ok (.i2l, 1) := by decide +kernel
theorem dX3_linear_84 : decode cX3_linear 84 = .ok (.iload 4, 2) := by decide +kernel
theorem dX3_linear_86 : decode cX3_linear 86 = .ok (.i2l, 1) := by decide +kernel
theorem dX3_linear_87 : decode cX3_linear 87 = .ok (.lmul, 1) := by decide +kernel
theorem dX3_linear_88 : decode cX3_linear 88 = .ok (.ladd, 1) := by decide +kernel
theorem dX3_linear_89 : decode cX3_linear 89 = .ok (.lstore 10, 2) := by decide +kernel
theorem dX3_linear_91 : decode cX3_linear 91 = .ok (.aload_n 0, 1) := by decide +kernel
theorem dX3_linear_92 : decode cX3_linear 92 = .ok (.lload 10, 2) := by decide +kernel
theorem dX3_linear_94 : decode cX3_linear 94 = .ok (.iload 6, 2) := by decide +kernel
theorem dX3_linear_96 : decode cX3_linear 96 = .ok (.i2l, 1) := by decide +kernel
theorem dX3_linear_97 : decode cX3_linear 97 = .ok (.ladd, 1) := by decide +kernel
theorem dX3_linear_98 : decode cX3_linear 98 = .ok (.iload 7, 2) := by decide +kernel
theorem dX3_linear_100 : decode cX3_linear 100 = .ok (.invokevirtual 130, 3) := by decide +kernel
theorem dX3_linear_103 : decode cX3_linear 103 = .ok (.istore 12, 2) := by decide +kernel
theorem dX3_linear_105 : decode cX3_linear 105 = .ok (.iload 12, 2) := by decide +kernel
theorem dX3_linear_107 : decode cX3_linear 107 = .ok (.iconst 1, 1) := by decide +kernel
theorem dX3_linear_108 : decode cX3_linear 108 = .ok (.if_icmp .ne 13, 3) := by decide +kernel
theorem dX3_linear_111 : decode cX3_linear 111 = .ok (.iload 9, 2) := by decide +kernel
theorem dX3_linear_113 : decode cX3_linear 113 = .ok (.lload 10, 2) := by decide +kernel
theorem dX3_linear_115 : decode cX3_linear 115 = .ok (.iload 7, 2) := by decide +kernel
theorem dX3_linear_117 : decode cX3_linear 117 = .ok (.invokestatic 134, 3) := by decide +kernel
theorem dX3_linear_120 : decode cX3_linear 120 = .ok (.ireturn, 1) := by decide +kernel
theorem dX3_linear_121 : decode cX3_linear 121 = .ok (.iload 12, 2) := by decide +kernel
theorem dX3_linear_123 : decode cX3_linear 123 = .ok (.iconst 2, 1) := by decide +kernel
theorem dX3_linear_124 : decode cX3_linear 124 = .ok (.if_icmp .ne 9, 3) := by decide +kernel
theorem dX3_linear_127 : decode cX3_linear 127 = .ok (.iload 7, 2) := by decide +kernel
theorem dX3_linear_129 : decode cX3_linear 129 = .ok (.invokestatic 138, 3) := by decide +kernel
theorem dX3_linear_132 : decode cX3_linear 132 = .ok (.ireturn, 1) := by decide +kernel
theorem dX3_linear_133 : decode cX3_linear 133 = .ok (.iload 12, 2) := by decide +kernel
theorem dX3_linear_135 : decode cX3_linear 135 = .ok (.bipush (-12), 2) := by decide +kernel
theorem dX3_linear_137 : decode cX3_linear 137 = .ok (.if_icmp .ne 6, 3) := by decide +kernel
theorem dX3_linear_140 : decode cX3_linear 140 = .ok (.bipush (-12), 2) := by decide +kernel
theorem dX3_linear_142 : decode cX3_linear 142 = .ok (.ireturn, 1) := by decide +kernel
theorem dX3_linear_143 : decode cX3_linear 143 = .ok (.iinc 9 1, 3) := by decide +kernel
theorem dX3_linear_146 : decode cX3_linear 146 = .ok (.goto (-74), 3) := by decide +kernel
theorem dX3_linear_149 : decode cX3_linear 149 = .ok (.iload 5, 2) := by decide +kernel
theorem dX3_linear_151 : decode cX3_linear 151 = .ok (.iload 8, 2) := by decide +kernel
theorem dX3_linear_153 : decode cX3_linear 153 = .ok (.if_icmp .ne 11, 3) := by decide +kernel
theorem dX3_linear_156 : decode cX3_linear 156 = .ok (.iload 7, 2) := by decide +kernel
theorem dX3_linear_158 : decode cX3_linear 158 = .ok (.invokestatic 138, 3) := by decide +kernel
theorem dX3_linear_161 : decode cX3_linear 161 = .ok (.goto 5, 3) := by decide +kernel
theorem dX3_linear_164 : decode cX3_linear 164 = .ok (.bipush (-16), 2) := by decide +kernel
theorem dX3_linear_166 : decode cX3_linear 166 = .ok (.ireturn, 1) := by decide +kernel
set_option maxRecDepth 20000 in
theorem ggX3_binary_X3_isSearch : GoodIn wsX3_binary wsX3_isSearch := goodIn_r _ [7, 8, 9, 6, 10] (by decide +kernel) (by decide +kernel)
set_option maxRecDepth 20000 in
theorem gX3_binary_X3_isSearch : GoodIn wsX3_binary (va_wsS RX3 117 yX3_isSearch wsX3_isSearch) := goodIn_app (goodIn_of _ (by decide +kernel)) ggX3_binary_X3_isSearch
set_option maxRecDepth 20000 in
theorem ggX3_binary_X1_load : GoodIn wsX3_binary wsX1_load := goodIn_r _ [15, 16, 17, 18, 19, 20, 21, 22, 23, 24, 25, 26, 27, 28, 48, 49, 50, 51, 52, 53, 54, 55] (by decide +kernel) (by decide +kernel)
set_option maxRecDepth 20000 in
theorem gX3_binary_X1_load : GoodIn wsX3_binary (wsV RX3 121 RX1 yX1_load wsX1_load) := goodIn_app (goodIn_of _ (by decide +kernel)) ggX3_binary_X1_load
set_option maxRecDepth 20000 in
theorem ggX3_binary_X2_has : GoodIn wsX3_binary wsX2_has := goodIn_r _ [27, 28, 50, 51, 52, 53, 54, 55] (by decide +kernel) (by decide +kernel)
set_option maxRecDepth 20000 in
theorem gX3_binary_X2_has : GoodIn wsX3_binary (wsV RX3 43 RX2 yX2_has wsX2_has) := goodIn_app (goodIn_of _ (by decide +kernel)) ggX3_binary_X2_has
set_option maxRecDepth 20000 in
theorem ggX3_binary_X1_orderOf : GoodIn wsX3_binary wsX1_orderOf := goodIn_r _ [33, 16, 18, 17, 48, 49, 50, 51, 52, 53, 54, 55] (by decide +kernel) (by decide +kernel)
set_option maxRecDepth 20000 in
theorem gX3_binary_X1_orderOf : GoodIn wsX3_binary (wsV RX3 143 RX1 yX1_orderOf wsX1_orderOf) := goodIn_app (goodIn_of _ (by decide +kernel)) ggX3_binary_X1_orderOf
set_option maxRecDepth 20000 in
theorem ggX3_binary_X3_foundAnswer : GoodIn wsX3_binary wsX3_foundAnswer := goodIn_r _ [36] (by decide +kernel) (by decide +kernel)
set_option maxRecDepth 20000 in
theorem gX3_binary_X3_foundAnswer : GoodIn wsX3_binary (va_wsS RX3 134 yX3_foundAnswer wsX3_foundAnswer) := goodIn_app (goodIn_of _ (by decide +kernel)) ggX3_binary_X3_foundAnswer
set_option maxRecDepth 20000 in
theorem ggX3_binary_X3_noneAnswer : GoodIn wsX3_binary wsX3_noneAnswer := goodIn_r _ [39] (by decide +kernel) (by decide +kernel)
set_option maxRecDepth 20000 in
theorem gX3_binary_X3_noneAnswer : GoodIn wsX3_binary (va_wsS RX3 138 yX3_noneAnswer wsX3_noneAnswer) := goodIn_app (goodIn_of _ (by decide +kernel)) ggX3_binary_X3_noneAnswer
theorem dX3_binary_0 : decode cX3_binary 0 = .ok (.iload 4, 2) := by decide +kernel
theorem dX3_binary_2 : decode cX3_binary 2 = .ok (.ifCond .lt 27, 3) := by decide +kernel
theorem dX3_binary_5 : decode cX3_binary 5 = .ok (.iload 5, 2) := by decide +kernel
theorem dX3_binary_7 : decode cX3_binary 7 = .ok (.ifCond .lt 22, 3) := by decide +kernel
theorem dX3_binary_10 : decode cX3_binary 10 = .ok (.iload_n 2, 1) := by decide +kernel
theorem dX3_binary_11 : decode cX3_binary 11 = .ok (.iload_n 3, 1) := by decide +kernel
theorem dX3_binary_12 : decode cX3_binary 12 = .ok (.iload 6, 2) := by decide +kernel
theorem dX3_binary_14 : decode cX3_binary 14 = .ok (.iload 7, 2) := by decide +kernel
theorem dX3_binary_16 : decode cX3_binary 16 = .ok (.invokestatic 117, 3) := by decide +kernel
theorem dX3_binary_19 : decode cX3_binary 19 = .ok (.ifCond .eq 10, 3) := by decide +kernel
theorem dX3_binary_22 : decode cX3_binary 22 = .ok (.iload 7, 2) := by decide +kernel
theorem dX3_binary_24 : decode cX3_binary 24 = .ok (.iconst 2, 1) := by decide +kernel
theorem dX3_binary_25 : decode cX3_binary 25 = .ok (.iand, 1) := by decide +kernel
theorem dX3_binary_26 : decode cX3_binary 26 = .ok (.ifCond .eq 6, 3) := by decide +kernel
theorem dX3_binary_29 : decode cX3_binary 29 = .ok (.bipush (-11), 2) := by decide +kernel
theorem dX3_binary_31 : decode cX3_binary 31 = .ok (.ireturn, 1) := by decide +kernel
theorem dX3_binary_32 : decode cX3_binary 32 = .ok (.aload_n 0, 1) := by decide +kernel
theorem dX3_binary_33 : decode cX3_binary 33 = .ok (.getfield 18, 3) := by decide +kernel
theorem dX3_binary_36 : decode cX3_binary 36 = .ok (.aload_n 0, 1) := by decide +kernel
theorem dX3_binary_37 : decode cX3_binary 37 = .ok (.getfield 30, 3) := by decide +kernel
theorem dX3_binary_40 : decode cX3_binary 40 = .ok (.iload_n 1, 1) := by decide +kernel
theorem dX3_binary_41 : decode cX3_binary 41 = .ok (.iload_n 2, 1) := by decide +kernel
theorem dX3_binary_42 : decode cX3_binary 42 = .ok (.iload 7, 2) := by decide +kernel
theorem dX3_binary_44 : decode cX3_binary 44 = .ok (.invokevirtual 121, 3) := by decide +kernel
theorem dX3_binary_47 : decode cX3_binary 47 = .ok (.ifCond .ne 6, 3) := by decide +kernel
theorem dX3_binary_50 : decode cX3_binary 50 = .ok (.bipush (-12), 2) := by decide +kernel
theorem dX3_binary_52 : decode cX3_binary 52 = .ok (.ireturn, 1) := by decide +kernel
theorem dX3_binary_53 : decode cX3_binary 53 = .ok (.lconst 0, 1) := by decide +kernel
theorem dX3_binary_54 : decode cX3_binary 54 = .ok (.lstore 8, 2) := by decide +kernel
theorem dX3_binary_56 : decode cX3_binary 56 = .ok (.iload 5, 2) := by decide +kernel
theorem dX3_binary_58 : decode cX3_binary 58 = .ok (.i2l, 1) := by decide +kernel
theorem dX3_binary_59 : decode cX3_binary 59 = .ok (.lstore 10, 2) := by decide +kernel
theorem dX3_binary_61 : decode cX3_binary 61 = .ok (.iconst 0, 1) := by decide +kernel
theorem dX3_binary_62 : decode cX3_binary 62 = .ok (.istore 12, 2) := by decide +kernel
theorem dX3_binary_64 : decode cX3_binary 64 = .ok (.iload 12, 2) := by decide +kernel
theorem dX3_binary_66 : decode cX3_binary 66 = .ok (.bipush 40, 2) := by decide +kernel
theorem dX3_binary_68 : decode cX3_binary 68 = .ok (.if_icmp .ge 113, 3) := by decide +kernel
theorem dX3_binary_71 : decode cX3_binary 71 = .ok (.lload 8, 2) := by decide +kernel
theorem dX3_binary_73 : decode cX3_binary 73 = .ok (.lload 10, 2) := by decide +kernel
theorem dX3_binary_75 : decode cX3_binary 75 = .ok (.lcmp, 1) := by decide +kernel
theorem dX3_binary_76 : decode cX3_binary 76 = .ok (.ifCond .ge 105, 3) := by decide +kernel
theorem dX3_binary_79 : decode cX3_binary 79 = .ok (.lload 8, 2) := by decide +kernel
theorem dX3_binary_81 : decode cX3_binary 81 = .ok (.lload 10, 2) := by decide +kernel
theorem dX3_binary_83 : decode cX3_binary 83 = .ok (.ladd, 1) := by decide +kernel
theorem dX3_binary_84 : decode cX3_binary 84 = .ok (.ldc2_w 141, 3) := by decide +kernel
theorem dX3_binary_87 : decode cX3_binary 87 = .ok (.ldiv, 1) := by decide +kernel
theorem dX3_binary_88 : decode cX3_binary 88 = .ok (.lstore 13, 2) := by decide +kernel
theorem dX3_binary_90 : decode cX3_binary 90 = .ok (.iload_n 3, 1) := by decide +kernel
theorem dX3_binary_91 : decode cX3_binary 91 = .ok (.i2l, 1) := by decide +kernel
theorem dX3_binary_92 : decode cX3_binary 92 = .ok (.lload 13, 2) := by decide +kernel
theorem dX3_binary_94 : decode cX3_binary 94 = .ok (.iload 4, 2) := by decide +kernel
theorem dX3_binary_96 : decode cX3_binary 96 = .ok (.i2l, 1) := by decide +kernel
theorem dX3_binary_97 : decode cX3_binary 97 = .ok (.lmul, 1) := by decide +kernel
theorem dX3_binary_98 : decode cX3_binary 98 = .ok (.ladd, 1) := by decide +kernel
theorem dX3_binary_99 : decode cX3_binary 99 = .ok (.lstore 15, 2) := by decide +kernel
theorem dX3_binary_101 : decode cX3_binary 101 = .ok (.aload_n 0, 1) := by decide +kernel
theorem dX3_binary_102 : decode cX3_binary 102 = .ok (.getfield 30, 3) := by decide +kernel
theorem dX3_binary_105 : decode cX3_binary 105 = .ok (.lload 15, 2) := by decide +kernel
theorem dX3_binary_107 : decode cX3_binary 107 = .ok (.iload 6, 2) := by decide +kernel
theorem dX3_binary_109 : decode cX3_binary 109 = .ok (.i2l, 1) := by decide +kernel
theorem dX3_binary_110 : decode cX3_binary 110 = .ok (.ladd, 1) := by decide +kernel
theorem dX3_binary_111 : decode cX3_binary 111 = .ok (.iload_n 2, 1) := by decide +kernel
theorem dX3_binary_112 : decode cX3_binary 112 = .ok (.invokevirtual 43, 3) := by decide +kernel
theorem dX3_binary_115 : decode cX3_binary 115 = .ok (.ifCond .ne 6, 3) := by decide +kernel
theorem dX3_binary_118 : decode cX3_binary 118 = .ok (.bipush (-12), 2) := by decide +kernel
theorem dX3_binary_120 : decode cX3_binary 120 = .ok (.ireturn, 1) := by decide +kernel
theorem dX3_binary_121 : decode cX3_binary 121 = .ok (.aload_n 0, 1) := by decide +kernel
theorem dX3_binary_122 : decode cX3_binary 122 = .ok (.getfield 18, 3) := by decide +kernel
theorem dX3_binary_125 : decode cX3_binary 125 = .ok (.aload_n 0, 1) := by decide +kernel
theorem dX3_binary_126 : decode cX3_binary 126 = .ok (.getfield 30, 3) := by decide +kernel
theorem dX3_binary_129 : decode cX3_binary 129 = .ok (.lload 15, 2) := by decide +kernel
theorem dX3_binary_131 : decode cX3_binary 131 = .ok (.iload 6, 2) := by decide +kernel
theorem dX3_binary_133 : decode cX3_binary 133 = .ok (.i2l, 1) := by decide +kernel
theorem dX3_binary_134 : decode cX3_binary 134 = .ok (.ladd, 1) := by decide +kernel
theorem dX3_binary_135 : decode cX3_binary 135 = .ok (.l2i, 1) := by decide +kernel
theorem dX3_binary_136 : decode cX3_binary 136 = .ok (.invokevirtual 143, 3) := by decide +kernel
theorem dX3_binary_139 : decode cX3_binary 139 = .ok (.istore 17, 2) := by decide +kernel
theorem dX3_binary_141 : decode cX3_binary 141 = .ok (.iload 17, 2) := by decide +kernel
theorem dX3_binary_143 : decode cX3_binary 143 = .ok (.ifCond .ne 14, 3) := by decide +kernel
theorem dX3_binary_146 : decode cX3_binary 146 = .ok (.lload 13, 2) := by decide +kernel
theorem dX3_binary_148 : decode cX3_binary 148 = .ok (.l2i, 1) := by decide +kernel
theorem dX3_binary_149 : decode cX3_binary 149 = .ok (.lload 15, 2) := by decide +kernel
theorem dX3_binary_151 : decode cX3_binary 151 = .ok (.iload 7, 2) := by decide +kernel
theorem dX3_binary_153 : decode cX3_binary 153 = .ok (.invokestatic 134, 3) := by decide +kernel
theorem dX3_binary_156 : decode cX3_binary 156 = .ok (.ireturn, 1) := by decide +kernel
theorem dX3_binary_157 : decode cX3_binary 157 = .ok (.iload 17, 2) := by decide +kernel
theorem dX3_binary_159 : decode cX3_binary 159 = .ok (.ifCond .ge 12, 3) := by decide +kernel
theorem dX3_binary_162 : decode cX3_binary 162 = .ok (.lload 13, 2) := by decide +kernel
theorem dX3_binary_164 : decode cX3_binary 164 = .ok (.lconst 1, 1) := by decide +kernel
theorem dX3_binary_165 : decode cX3_binary 165 = .ok (.ladd, 1) := by decide +kernel
theorem dX3_binary_166 : decode cX3_binary 166 = .ok (.lstore 8, 2) := by decide +kernel
theorem dX3_binary_168 : decode cX3_binary 168 = .ok (.goto 7, 3) := by decide +kernel
theorem dX3_binary_171 : decode cX3_binary 171 = .ok (.lload 13, 2) := by decide +kernel
theorem dX3_binary_173 : decode cX3_binary 173 = .ok (.lstore 10, 2) := by decide +kernel
theorem dX3_binary_175 : decode cX3_binary 175 = .ok (.iinc 12 1, 3) := by decide +kernel
theorem dX3_binary_178 : decode cX3_binary 178 = .ok (.goto (-114), 3) := by decide +kernel
theorem dX3_binary_181 : decode cX3_binary 181 = .ok (.iload 7, 2) := by decide +kernel
theorem dX3_binary_183 : decode cX3_binary 183 = .ok (.invokestatic 138, 3) := by decide +kernel
theorem dX3_binary_186 : decode cX3_binary 186 = .ok (.ireturn, 1) := by decide +kernel
set_option maxRecDepth 20000 in
theorem ggX3_linked_X3_isSearch : GoodIn wsX3_linked wsX3_isSearch := goodIn_r _ [6, 7, 8, 5, 9] (by decide +kernel) (by decide +kernel)
set_option maxRecDepth 20000 in
theorem gX3_linked_X3_isSearch : GoodIn wsX3_linked (va_wsS RX3 117 yX3_isSearch wsX3_isSearch) := goodIn_app (goodIn_of _ (by decide +kernel)) ggX3_linked_X3_isSearch
set_option maxRecDepth 20000 in
theorem ggX3_linked_X1_load : GoodIn wsX3_linked wsX1_load := goodIn_r _ [14, 15, 16, 17, 18, 19, 20, 21, 22, 23, 24, 25, 26, 27, 55, 56, 57, 58, 59, 60, 61, 62] (by decide +kernel) (by decide +kernel)
set_option maxRecDepth 20000 in
theorem gX3_linked_X1_load : GoodIn wsX3_linked (wsV RX3 121 RX1 yX1_load wsX1_load) := goodIn_app (goodIn_of _ (by decide +kernel)) ggX3_linked_X1_load
set_option maxRecDepth 20000 in
theorem ggX3_linked_X3_look : GoodIn wsX3_linked wsX3_look := goodIn_r _ [31, 2, 1, 32, 33, 23, 24, 25, 26, 27, 34, 35, 36, 13, 37, 15, 17, 16, 38, 39, 40, 41, 42, 47, 48, 49, 50, 51, 52, 53, 54, 55, 56, 57, 58, 59, 60, 61, 62] (by decide +kernel) (by decide +kernel)
set_option maxRecDepth 20000 in
theorem gX3_linked_X3_look : GoodIn wsX3_linked (wsV RX3 130 RX3 yX3_look wsX3_look) := goodIn_app (goodIn_of _ (by decide +kernel)) ggX3_linked_X3_look
set_option maxRecDepth 20000 in
theorem ggX3_linked_X2_has : GoodIn wsX3_linked wsX2_has := goodIn_r _ [26, 27, 57, 58, 59, 60, 61, 62] (by decide +kernel) (by decide +kernel)
set_option maxRecDepth 20000 in
theorem gX3_linked_X2_has : GoodIn wsX3_linked (wsV RX3 43 RX2 yX2_has wsX2_has) := goodIn_app (goodIn_of _ (by decide +kernel)) ggX3_linked_X2_has
set_option maxRecDepth 20000 in
theorem ggX3_linked_X2_number : GoodIn wsX3_linked wsX2_number := goodIn_r _ [46, 42, 57, 58, 59, 60, 61, 62] (by decide +kernel) (by decide +kernel)
set_option maxRecDepth 20000 in
theorem gX3_linked_X2_number : GoodIn wsX3_linked (wsV RX3 49 RX2 yX2_number wsX2_number) := goodIn_app (goodIn_of _ (by decide +kernel)) ggX3_linked_X2_number
theorem dX3_linked_0 : decode cX3_linked 0 = .ok (.iload 5, 2) := by decide +kernel
theorem dX3_linked_2 : decode cX3_linked 2 = .ok (.ifCond .lt 22, 3) := by decide +kernel
theorem dX3_linked_5 : decode cX3_linked 5 = .ok (.iload_n 2, 1) := by decide +kernel
theorem dX3_linked_6 : decode cX3_linked 6 = .ok (.iload_n 3, 1) := by decide +kernel
theorem dX3_linked_7 : decode cX3_linked 7 = .ok (.iload 4, 2) := by decide +kernel
theorem dX3_linked_9 : decode cX3_linked 9 = .ok (.iload 6, 2) := by decide +kernel
theorem dX3_linked_11 : decode cX3_linked 11 = .ok (.invokestatic 117, 3) := by decide +kernel
theorem dX3_linked_14 : decode cX3_linked 14 = .ok (.ifCond .eq 10, 3) := by decide +kernel
theorem dX3_linked_17 : decode cX3_linked 17 = .ok (.iload 6, 2) := by decide +kernel
theorem dX3_linked_19 : decode cX3_linked 19 = .ok (.iconst 4, 1) := by decide +kernel
theorem dX3_linked_20 : decode cX3_linked 20 = .ok (.iand, 1) := by decide +kernel
theorem dX3_linked_21 : decode cX3_linked 21 = .ok (.ifCond .eq 6, 3) := by decide +kernel
theorem dX3_linked_24 : decode cX3_linked 24 = .ok (.bipush (-11), 2) := by decide +kernel
theorem dX3_linked_26 : decode cX3_linked 26 = .ok (.ireturn, 1) := by decide +kernel
theorem dX3_linked_27 : decode cX3_linked 27 = .ok (.aload_n 0, 1) := by decide +kernel
theorem dX3_linked_28 : decode cX3_linked 28 = .ok (.getfield 18, 3) := by decide +kernel
theorem dX3_linked_31 : decode cX3_linked 31 = .ok (.aload_n 0, 1) := by decide +kernel
theorem dX3_linked_32 : decode cX3_linked 32 = .ok (.getfield 30, 3) := by decide +kernel
theorem dX3_linked_35 : decode cX3_linked 35 = .ok (.iload_n 1, 1) := by decide +kernel
theorem dX3_linked_36 : decode cX3_linked 36 = .ok (.iload_n 2, 1) := by decide +kernel
theorem dX3_linked_37 : decode cX3_linked 37 = .ok (.iload 6, 2) := by decide +kernel
theorem dX3_linked_39 : decode cX3_linked 39 = .ok (.invokevirtual 121, 3) := by decide +kernel
theorem dX3_linked_42 : decode cX3_linked 42 = .ok (.ifCond .ne 6, 3) := by decide +kernel
theorem dX3_linked_45 : decode cX3_linked 45 = .ok (.bipush (-12), 2) := by decide +kernel
theorem dX3_linked_47 : decode cX3_linked 47 = .ok (.ireturn, 1) := by decide +kernel
theorem dX3_linked_48 : decode cX3_linked 48 = .ok (.iload_n 3, 1) := by decide +kernel
theorem dX3_linked_49 : decode cX3_linked 49 = .ok (.i2l, 1) := by decide +kernel
theorem dX3_linked_50 : decode cX3_linked 50 = .ok (.lstore 7, 2) := by decide +kernel
theorem dX3_linked_52 : decode cX3_linked 52 = .ok (.iconst 0, 1) := by decide +kernel
theorem dX3_linked_53 : decode cX3_linked 53 = .ok (.istore 9, 2) := by decide +kernel
theorem dX3_linked_55 : decode cX3_linked 55 = .ok (.iload 9, 2) := by decide +kernel
theorem dX3_linked_57 : decode cX3_linked 57 = .ok (.sipush 3000, 3) := by decide +kernel
theorem dX3_linked_60 : decode cX3_linked 60 = .ok (.if_icmp .ge 92, 3) := by decide +kernel
theorem dX3_linked_63 : decode cX3_linked 63 = .ok (.lload 7, 2) := by decide +kernel
theorem dX3_linked_65 : decode cX3_linked 65 = .ok (.lconst 0, 1) := by decide +kernel
theorem dX3_linked_66 : decode cX3_linked 66 = .ok (.lcmp, 1) := by decide +kernel
theorem dX3_linked_67 : decode cX3_linked 67 = .ok (.ifCond .eq 85, 3) := by decide +kernel
theorem dX3_linked_70 : decode cX3_linked 70 = .ok (.aload_n 0, 1) := by decide +kernel
theorem dX3_linked_71 : decode cX3_linked 71 = .ok (.lload 7, 2) := by decide +kernel
theorem dX3_linked_73 : decode cX3_linked 73 = .ok (.iload 4, 2) := by decide +kernel
theorem dX3_linked_75 : decode cX3_linked 75 = .ok (.i2l, 1) := by decide +kernel
theorem dX3_linked_76 : decode cX3_linked 76 = .ok (.ladd, 1) := by decide +kernel
theorem dX3_linked_77 : decode cX3_linked 77 = .ok (.iload 6, 2) := by decide +kernel
theorem dX3_linked_79 : decode cX3_linked 79 = .ok (.invokevirtual 130, 3) := by decide +kernel
theorem dX3_linked_82 : decode cX3_linked 82 = .ok (.istore 10, 2) := by decide +kernel
theorem dX3_linked_84 : decode cX3_linked 84 = .ok (.iload 10, 2) := by decide +kernel
theorem dX3_linked_86 : decode cX3_linked 86 = .ok (.iconst 1, 1) := by decide +kernel
theorem dX3_linked_87 : decode cX3_linked 87 = .ok (.if_icmp .ne 7, 3) := by decide +kernel
theorem dX3_linked_90 : decode cX3_linked 90 = .ok (.lload 7, 2) := by decide +kernel
theorem dX3_linked_92 : decode cX3_linked 92 = .ok (.l2i, 1) := by decide +kernel
theorem dX3_linked_93 : decode cX3_linked 93 = .ok (.ireturn, 1) := by decide +kernel
theorem dX3_linked_94 : decode cX3_linked 94 = .ok (.iload 10, 2) := by decide +kernel
theorem dX3_linked_96 : decode cX3_linked 96 = .ok (.iconst 2, 1) := by decide +kernel
theorem dX3_linked_97 : decode cX3_linked 97 = .ok (.if_icmp .ne 5, 3) := by decide +kernel
theorem dX3_linked_100 : decode cX3_linked 100 = .ok (.iconst 0, 1) := by decide +kernel
theorem dX3_linked_101 : decode cX3_linked 101 = .ok (.ireturn, 1) := by decide +kernel
theorem dX3_linked_102 : decode cX3_linked 102 = .ok (.iload 10, 2) := by decide +kernel
theorem dX3_linked_104 : decode cX3_linked 104 = .ok (.bipush (-12), 2) := by decide +kernel
theorem dX3_linked_106 : decode cX3_linked 106 = .ok (.if_icmp .eq 20, 3) := by decide +kernel
theorem dX3_linked_109 : decode cX3_linked 109 = .ok (.aload_n 0, 1) := by decide +kernel
theorem dX3_linked_110 : decode cX3_linked 110 = .ok (.getfield 30, 3) := by decide +kernel
theorem dX3_linked_113 : decode cX3_linked 113 = .ok (.lload 7, 2) := by decide +kernel
theorem dX3_linked_115 : decode cX3_linked 115 = .ok (.iload 5, 2) := by decide +kernel
theorem dX3_linked_117 : decode cX3_linked 117 = .ok (.i2l, 1) := by decide +kernel
theorem dX3_linked_118 : decode cX3_linked 118 = .ok (.ladd, 1) := by decide +kernel
theorem dX3_linked_119 : decode cX3_linked 119 = .ok (.iconst 4, 1) := by decide +kernel
theorem dX3_linked_120 : decode cX3_linked 120 = .ok (.invokevirtual 43, 3) := by decide +kernel
theorem dX3_linked_123 : decode cX3_linked 123 = .ok (.ifCond .ne 6, 3) := by decide +kernel
theorem dX3_linked_126 : decode cX3_linked 126 = .ok (.bipush (-12), 2) := by decide +kernel
theorem dX3_linked_128 : decode cX3_linked 128 = .ok (.ireturn, 1) := by decide +kernel
theorem dX3_linked_129 : decode cX3_linked 129 = .ok (.aload_n 0, 1) := by decide +kernel
theorem dX3_linked_130 : decode cX3_linked 130 = .ok (.getfield 30, 3) := by decide +kernel
theorem dX3_linked_133 : decode cX3_linked 133 = .ok (.lload 7, 2) := by decide +kernel
theorem dX3_linked_135 : decode cX3_linked 135 = .ok (.iload 5, 2) := by decide +kernel
theorem dX3_linked_137 : decode cX3_linked 137 = .ok (.i2l, 1) := by decide +kernel
theorem dX3_linked_138 : decode cX3_linked 138 = .ok (.ladd, 1) := by decide +kernel
theorem dX3_linked_139 : decode cX3_linked 139 = .ok (.l2i, 1) := by decide +kernel
theorem dX3_linked_140 : decode cX3_linked 140 = .ok (.iconst 4, 1) := by decide +kernel
theorem dX3_linked_141 : decode cX3_linked 141 = .ok (.invokevirtual 49, 3) := by decide +kernel
theorem dX3_linked_144 : decode cX3_linked 144 = .ok (.lstore 7, 2) := by decide +kernel
theorem dX3_linked_146 : decode cX3_linked 146 = .ok (.iinc 9 1, 3) := by decide +kernel
theorem dX3_linked_149 : decode cX3_linked 149 = .ok (.goto (-94), 3) := by decide +kernel
theorem dX3_linked_152 : decode cX3_linked 152 = .ok (.lload 7, 2) := by decide +kernel
theorem dX3_linked_154 : decode cX3_linked 154 = .ok (.lconst 0, 1) := by decide +kernel
theorem dX3_linked_155 : decode cX3_linked 155 = .ok (.lcmp, 1) := by decide +kernel
theorem dX3_linked_156 : decode cX3_linked 156 = .ok (.ifCond .ne 7, 3) := by decide +kernel
theorem dX3_linked_159 : decode cX3_linked 159 = .ok (.iconst 0, 1) := by decide +kernel
theorem dX3_linked_160 : decode cX3_linked 160 = .ok (.goto 5, 3) := by decide +kernel
theorem dX3_linked_163 : decode cX3_linked 163 = .ok (.bipush (-16), 2) := by decide +kernel
theorem dX3_linked_165 : decode cX3_linked 165 = .ok (.ireturn, 1) := by decide +kernel
set_option maxRecDepth 20000 in
theorem ggX3_isSearch_X3_isWidth : GoodIn wsX3_isSearch wsX3_isWidth := goodIn_r _ [4] (by decide +kernel) (by decide +kernel)
set_option maxRecDepth 20000 in
theorem gX3_isSearch_X3_isWidth : GoodIn wsX3_isSearch (va_wsS RX3 37 yX3_isWidth wsX3_isWidth) := goodIn_app (goodIn_of _ (by decide +kernel)) ggX3_isSearch_X3_isWidth
theorem dX3_isSearch_0 : decode cX3_isSearch 0 = .ok (.iload_n 1, 1) := by decide +kernel
theorem dX3_isSearch_1 : decode cX3_isSearch 1 = .ok (.ifCond .lt 17, 3) := by decide +kernel
theorem dX3_isSearch_4 : decode cX3_isSearch 4 = .ok (.iload_n 2, 1) := by decide +kernel
theorem dX3_isSearch_5 : decode cX3_isSearch 5 = .ok (.ifCond .lt 13, 3) := by decide +kernel
theorem dX3_isSearch_8 : decode cX3_isSearch 8 = .ok (.iload_n 3, 1) := by decide +kernel
theorem dX3_isSearch_9 : decode cX3_isSearch 9 = .ok (.ifCond .lt 9, 3) := by decide +kernel
theorem dX3_isSearch_12 : decode cX3_isSearch 12 = .ok (.iload_n 3, 1) := by decide +kernel
theorem dX3_isSearch_13 : decode cX3_isSearch 13 = .ok (.bipush 7, 2) := by decide +kernel
theorem dX3_isSearch_15 : decode cX3_isSearch 15 = .ok (.if_icmp .le 5, 3) := by decide +kernel
theorem dX3_isSearch_18 : decode cX3_isSearch 18 = .ok (.iconst 0, 1) := by decide +kernel
theorem dX3_isSearch_19 : decode cX3_isSearch 19 = .ok (.ireturn, 1) := by decide +kernel
theorem dX3_isSearch_20 : decode cX3_isSearch 20 = .ok (.iload_n 3, 1) := by decide +kernel
theorem dX3_isSearch_21 : decode cX3_isSearch 21 = .ok (.iconst 1, 1) := by decide +kernel
theorem dX3_isSearch_22 : decode cX3_isSearch 22 = .ok (.iand, 1) := by decide +kernel
theorem dX3_isSearch_23 : decode cX3_isSearch 23 = .ok (.ifCond .eq 22, 3) := by decide +kernel
theorem dX3_isSearch_26 : decode cX3_isSearch 26 = .ok (.iload_n 0, 1) := by decide +kernel
theorem dX3_isSearch_27 : decode cX3_isSearch 27 = .ok (.iconst 1, 1) := by decide +kernel
theorem dX3_isSearch_28 : decode cX3_isSearch 28 = .ok (.if_icmp .lt 13, 3) := by decide +kernel
theorem dX3_isSearch_31 : decode cX3_isSearch 31 = .ok (.iload_n 0, 1) := by decide +kernel
theorem dX3_isSearch_32 : decode cX3_isSearch 32 = .ok (.bipush 64, 2) := by decide +kernel
theorem dX3_isSearch_34 : decode cX3_isSearch 34 = .ok (.if_icmp .gt 7, 3) := by decide +kernel
theorem dX3_isSearch_37 : decode cX3_isSearch 37 = .ok (.iconst 1, 1) := by decide +kernel
theorem dX3_isSearch_38 : decode cX3_isSearch 38 = .ok (.goto 11, 3) := by decide +kernel
theorem dX3_isSearch_41 : decode cX3_isSearch 41 = .ok (.iconst 0, 1) := by decide +kernel
theorem dX3_isSearch_42 : decode cX3_isSearch 42 = .ok (.goto 7, 3) := by decide +kernel
theorem dX3_isSearch_45 : decode cX3_isSearch 45 = .ok (.iload_n 0, 1) := by decide +kernel
theorem dX3_isSearch_46 : decode cX3_isSearch 46 = .ok (.invokestatic 37, 3) := by decide +kernel
theorem dX3_isSearch_49 : decode cX3_isSearch 49 = .ok (.ireturn, 1) := by decide +kernel
set_option maxRecDepth 20000 in
theorem ggX3_look_X2_has : GoodIn wsX3_look wsX2_has := goodIn_r _ [8, 9, 33, 34, 35, 36, 37, 38] (by decide +kernel) (by decide +kernel)
set_option maxRecDepth 20000 in
theorem gX3_look_X2_has : GoodIn wsX3_look (wsV RX3 43 RX2 yX2_has wsX2_has) := goodIn_app (goodIn_of _ (by decide +kernel)) ggX3_look_X2_has
set_option maxRecDepth 20000 in
theorem ggX3_look_X1_orderOf : GoodIn wsX3_look wsX1_orderOf := goodIn_r _ [14, 15, 16, 17, 31, 32, 33, 34, 35, 36, 37, 38] (by decide +kernel) (by decide +kernel)
set_option maxRecDepth 20000 in
theorem gX3_look_X1_orderOf : GoodIn wsX3_look (wsV RX3 143 RX1 yX1_orderOf wsX1_orderOf) := goodIn_app (goodIn_of _ (by decide +kernel)) ggX3_look_X1_orderOf
set_option maxRecDepth 20000 in
theorem ggX3_look_X2_allZero : GoodIn wsX3_look wsX2_allZero := goodIn_r _ [21, 22, 33, 34, 35, 36, 37, 38] (by decide +kernel) (by decide +kernel)
set_option maxRecDepth 20000 in
theorem gX3_look_X2_allZero : GoodIn wsX3_look (wsV RX3 150 RX2 yX2_allZero wsX2_allZero) := goodIn_app (goodIn_of _ (by decide +kernel)) ggX3_look_X2_allZero
theorem dX3_look_0 : decode cX3_look 0 = .ok (.aload_n 0, 1) := by decide +kernel
theorem dX3_look_1 : decode cX3_look 1 = .ok (.getfield 30, 3) := by decide +kernel
theorem dX3_look_4 : decode cX3_look 4 = .ok (.lload_n 1, 1) := by decide +kernel
theorem dX3_look_5 : decode cX3_look 5 = .ok (.aload_n 0, 1) := by decide +kernel
theorem dX3_look_6 : decode cX3_look 6 = .ok (.getfield 18, 3) := by decide +kernel
theorem dX3_look_9 : decode cX3_look 9 = .ok (.getfield 147, 3) := by decide +kernel
theorem dX3_look_12 : decode cX3_look 12 = .ok (.invokevirtual 43, 3) := by decide +kernel
theorem dX3_look_15 : decode cX3_look 15 = .ok (.ifCond .ne 6, 3) := by decide +kernel
theorem dX3_look_18 : decode cX3_look 18 = .ok (.bipush (-12), 2) := by decide +kernel
theorem dX3_look_20 : decode cX3_look 20 = .ok (.ireturn, 1) := by decide +kernel
theorem dX3_look_21 : decode cX3_look 21 = .ok (.aload_n 0, 1) := by decide +kernel
theorem dX3_look_22 : decode cX3_look 22 = .ok (.getfield 18, 3) := by decide +kernel
theorem dX3_look_25 : decode cX3_look 25 = .ok (.aload_n 0, 1) := by decide +kernel
theorem dX3_look_26 : decode cX3_look 26 = .ok (.getfield 30, 3) := by decide +kernel
theorem dX3_look_29 : decode cX3_look 29 = .ok (.lload_n 1, 1) := by decide +kernel
theorem dX3_look_30 : decode cX3_look 30 = .ok (.l2i, 1) := by decide +kernel
theorem dX3_look_31 : decode cX3_look 31 = .ok (.invokevirtual 143, 3) := by decide +kernel
theorem dX3_look_34 : decode cX3_look 34 = .ok (.ifCond .ne 5, 3) := by decide +kernel
theorem dX3_look_37 : decode cX3_look 37 = .ok (.iconst 1, 1) := by decide +kernel
theorem dX3_look_38 : decode cX3_look 38 = .ok (.ireturn, 1) := by decide +kernel
theorem dX3_look_39 : decode cX3_look 39 = .ok (.iload_n 3, 1) := by decide +kernel
theorem dX3_look_40 : decode cX3_look 40 = .ok (.iconst 2, 1) := by decide +kernel
theorem dX3_look_41 : decode cX3_look 41 = .ok (.iand, 1) := by decide +kernel
theorem dX3_look_42 : decode cX3_look 42 = .ok (.ifCond .eq 26, 3) := by decide +kernel
theorem dX3_look_45 : decode cX3_look 45 = .ok (.aload_n 0, 1) := by decide +kernel
theorem dX3_look_46 : decode cX3_look 46 = .ok (.getfield 30, 3) := by decide +kernel
theorem dX3_look_49 : decode cX3_look 49 = .ok (.lload_n 1, 1) := by decide +kernel
theorem dX3_look_50 : decode cX3_look 50 = .ok (.l2i, 1) := by decide +kernel
theorem dX3_look_51 : decode cX3_look 51 = .ok (.aload_n 0, 1) := by decide +kernel
theorem dX3_look_52 : decode cX3_look 52 = .ok (.getfield 18, 3) := by decide +kernel
theorem dX3_look_55 : decode cX3_look 55 = .ok (.getfield 147, 3) := by decide +kernel
theorem dX3_look_58 : decode cX3_look 58 = .ok (.invokevirtual 150, 3) := by decide +kernel
theorem dX3_look_61 : decode cX3_look 61 = .ok (.ifCond .eq 7, 3) := by decide +kernel
theorem dX3_look_64 : decode cX3_look 64 = .ok (.iconst 1, 1) := by decide +kernel
theorem dX3_look_65 : decode cX3_look 65 = .ok (.goto 4, 3) := by decide +kernel
theorem dX3_look_68 : decode cX3_look 68 = .ok (.iconst 0, 1) := by decide +kernel
theorem dX3_look_69 : decode cX3_look 69 = .ok (.istore 4, 2) := by decide +kernel
theorem dX3_look_71 : decode cX3_look 71 = .ok (.iload 4, 2) := by decide +kernel
theorem dX3_look_73 : decode cX3_look 73 = .ok (.ifCond .eq 7, 3) := by decide +kernel
theorem dX3_look_76 : decode cX3_look 76 = .ok (.iconst 2, 1) := by decide +kernel
theorem dX3_look_77 : decode cX3_look 77 = .ok (.goto 4, 3) := by decide +kernel
theorem dX3_look_80 : decode cX3_look 80 = .ok (.iconst 3, 1) := by decide +kernel
theorem dX3_look_81 : decode cX3_look 81 = .ok (.ireturn, 1) := by decide +kernel
theorem dX3_foundAnswer_0 : decode cX3_foundAnswer 0 = .ok (.iload_n 3, 1) := by decide +kernel
theorem dX3_foundAnswer_1 : decode cX3_foundAnswer 1 = .ok (.iconst 4, 1) := by decide +kernel
theorem dX3_foundAnswer_2 : decode cX3_foundAnswer 2 = .ok (.iand, 1) := by decide +kernel
theorem dX3_foundAnswer_3 : decode cX3_foundAnswer 3 = .ok (.ifCond .eq 7, 3) := by decide +kernel
theorem dX3_foundAnswer_6 : decode cX3_foundAnswer 6 = .ok (.iload_n 0, 1) := by decide +kernel
theorem dX3_foundAnswer_7 : decode cX3_foundAnswer 7 = .ok (.goto 5, 3) := by decide +kernel
theorem dX3_foundAnswer_10 : decode cX3_foundAnswer 10 = .ok (.lload_n 1, 1) := by decide +kernel
theorem dX3_foundAnswer_11 : decode cX3_foundAnswer 11 = .ok (.l2i, 1) := by decide +kernel
theorem dX3_foundAnswer_12 : decode cX3_foundAnswer 12 = .ok (.ireturn, 1) := by decide +kernel
theorem dX3_noneAnswer_0 : decode cX3_noneAnswer 0 = .ok (.iload_n 0, 1) := by decide +kernel
theorem dX3_noneAnswer_1 : decode cX3_noneAnswer 1 = .ok (.iconst 4, 1) := by decide +kernel
theorem dX3_noneAnswer_2 : decode cX3_noneAnswer 2 = .ok (.iand, 1) := by decide +kernel
theorem dX3_noneAnswer_3 : decode cX3_noneAnswer 3 = .ok (.ifCond .eq 7, 3) := by decide +kernel
theorem dX3_noneAnswer_6 : decode cX3_noneAnswer 6 = .ok (.iconst (-1), 1) := by decide +kernel
theorem dX3_noneAnswer_7 : decode cX3_noneAnswer 7 = .ok (.goto 4, 3) := by decide +kernel
theorem dX3_noneAnswer_10 : decode cX3_noneAnswer 10 = .ok (.iconst 0, 1) := by decide +kernel
theorem dX3_noneAnswer_11 : decode cX3_noneAnswer 11 = .ok (.ireturn, 1) := by decide +kernel
theorem dX3_protect_0 : decode cX3_protect 0 = .ok (.iload_n 1, 1) := by decide +kernel
theorem dX3_protect_1 : decode cX3_protect 1 = .ok (.ifCond .lt 21, 3) := by decide +kernel
theorem dX3_protect_4 : decode cX3_protect 4 = .ok (.iload_n 1, 1) := by decide +kernel
theorem dX3_protect_5 : decode cX3_protect 5 = .ok (.sipush 8192, 3) := by decide +kernel
theorem dX3_protect_8 : decode cX3_protect 8 = .ok (.if_icmp .gt 14, 3) := by decide +kernel
theorem dX3_protect_11 : decode cX3_protect 11 = .ok (.iload_n 2, 1) := by decide +kernel
theorem dX3_protect_12 : decode cX3_protect 12 = .ok (.ifCond .lt 10, 3) := by decide +kernel
theorem dX3_protect_15 : decode cX3_protect 15 = .ok (.iload_n 2, 1) := by decide +kernel
theorem dX3_protect_16 : decode cX3_protect 16 = .ok (.sipush 8192, 3) := by decide +kernel
theorem dX3_protect_19 : decode cX3_protect 19 = .ok (.if_icmp .le 6, 3) := by decide +kernel
theorem dX3_protect_22 : decode cX3_protect 22 = .ok (.bipush (-11), 2) := by decide +kernel
theorem dX3_protect_24 : decode cX3_protect 24 = .ok (.ireturn, 1) := by decide +kernel
theorem dX3_protect_25 : decode cX3_protect 25 = .ok (.aload_n 0, 1) := by decide +kernel
theorem dX3_protect_26 : decode cX3_protect 26 = .ok (.iload_n 2, 1) := by decide +kernel
theorem dX3_protect_27 : decode cX3_protect 27 = .ok (.ifCond .ne 7, 3) := by decide +kernel
theorem dX3_protect_30 : decode cX3_protect 30 = .ok (.iconst 0, 1) := by decide +kernel
theorem dX3_protect_31 : decode cX3_protect 31 = .ok (.goto 4, 3) := by decide +kernel
theorem dX3_protect_34 : decode cX3_protect 34 = .ok (.iload_n 1, 1) := by decide +kernel
theorem dX3_protect_35 : decode cX3_protect 35 = .ok (.putfield 154, 3) := by decide +kernel
theorem dX3_protect_38 : decode cX3_protect 38 = .ok (.aload_n 0, 1) := by decide +kernel
theorem dX3_protect_39 : decode cX3_protect 39 = .ok (.iload_n 2, 1) := by decide +kernel
theorem dX3_protect_40 : decode cX3_protect 40 = .ok (.putfield 157, 3) := by decide +kernel
theorem dX3_protect_43 : decode cX3_protect 43 = .ok (.iconst 1, 1) := by decide +kernel
theorem dX3_protect_44 : decode cX3_protect 44 = .ok (.ireturn, 1) := by decide +kernel
set_option maxRecDepth 20000 in
theorem ggX3_keep_X2_init : GoodIn wsX3_keep wsX2_init := goodIn_r _ [8, 9, 10, 11, 12, 13, 14, 15, 16, 36, 37, 38, 39, 40, 41] (by decide +kernel) (by decide +kernel)
set_option maxRecDepth 20000 in
theorem gX3_keep_X2_init_n29 : GoodIn wsX3_keep (wsX2_init) := ggX3_keep_X2_init
set_option maxRecDepth 20000 in
theorem ggX3_keep_X2_become : GoodIn wsX3_keep wsX2_become := goodIn_r _ [20, 13, 21, 22, 23, 24, 15, 16, 25, 26, 27, 36, 37, 38, 39, 40, 41] (by decide +kernel) (by decide +kernel)
set_option maxRecDepth 20000 in
theorem gX3_keep_X2_become : GoodIn wsX3_keep (wsV RX3 163 RX2 yX2_become wsX2_become) := goodIn_app (goodIn_of _ (by decide +kernel)) ggX3_keep_X2_become
theorem dX3_keep_0 : decode cX3_keep 0 = .ok (.aload_n 0, 1) := by decide +kernel
theorem dX3_keep_1 : decode cX3_keep 1 = .ok (.getfield 160, 3) := by decide +kernel
theorem dX3_keep_4 : decode cX3_keep 4 = .ok (.iconst 4, 1) := by decide +kernel
theorem dX3_keep_5 : decode cX3_keep 5 = .ok (.if_icmp .lt 6, 3) := by decide +kernel
theorem dX3_keep_8 : decode cX3_keep 8 = .ok (.bipush (-15), 2) := by decide +kernel
theorem dX3_keep_10 : decode cX3_keep 10 = .ok (.ireturn, 1) := by decide +kernel
theorem dX3_keep_11 : decode cX3_keep 11 = .ok (.aload_n 0, 1) := by decide +kernel
theorem dX3_keep_12 : decode cX3_keep 12 = .ok (.getfield 11, 3) := by decide +kernel
theorem dX3_keep_15 : decode cX3_keep 15 = .ok (.aload_n 0, 1) := by decide +kernel
theorem dX3_keep_16 : decode cX3_keep 16 = .ok (.getfield 160, 3) := by decide +kernel
theorem dX3_keep_19 : decode cX3_keep 19 = .ok (.aaload, 1) := by decide +kernel
theorem dX3_keep_20 : decode cX3_keep 20 = .ok (.astore_n 1, 1) := by decide +kernel
theorem dX3_keep_21 : decode cX3_keep 21 = .ok (.aload_n 1, 1) := by decide +kernel
theorem dX3_keep_22 : decode cX3_keep 22 = .ok (.ifnonnull 21, 3) := by decide +kernel
theorem dX3_keep_25 : decode cX3_keep 25 = .ok (.new 9, 3) := by decide +kernel
theorem dX3_keep_28 : decode cX3_keep 28 = .ok (.dup, 1) := by decide +kernel
theorem dX3_keep_29 : decode cX3_keep 29 = .ok (.invokespecial 29, 3) := by decide +kernel
theorem dX3_keep_32 : decode cX3_keep 32 = .ok (.astore_n 1, 1) := by decide +kernel
theorem dX3_keep_33 : decode cX3_keep 33 = .ok (.aload_n 0, 1) := by decide +kernel
theorem dX3_keep_34 : decode cX3_keep 34 = .ok (.getfield 11, 3) := by decide +kernel
theorem dX3_keep_37 : decode cX3_keep 37 = .ok (.aload_n 0, 1) := by decide +kernel
theorem dX3_keep_38 : decode cX3_keep 38 = .ok (.getfield 160, 3) := by decide +kernel
theorem dX3_keep_41 : decode cX3_keep 41 = .ok (.aload_n 1, 1) := by decide +kernel
theorem dX3_keep_42 : decode cX3_keep 42 = .ok (.aastore, 1) := by decide +kernel
theorem dX3_keep_43 : decode cX3_keep 43 = .ok (.aload_n 1, 1) := by decide +kernel
theorem dX3_keep_44 : decode cX3_keep 44 = .ok (.aload_n 0, 1) := by decide +kernel
theorem dX3_keep_45 : decode cX3_keep 45 = .ok (.getfield 30, 3) := by decide +kernel
theorem dX3_keep_48 : decode cX3_keep 48 = .ok (.invokevirtual 163, 3) := by decide +kernel
theorem dX3_keep_51 : decode cX3_keep 51 = .ok (.aload_n 0, 1) := by decide +kernel
theorem dX3_keep_52 : decode cX3_keep 52 = .ok (.dup, 1) := by decide +kernel
theorem dX3_keep_53 : decode cX3_keep 53 = .ok (.getfield 160, 3) := by decide +kernel
theorem dX3_keep_56 : decode cX3_keep 56 = .ok (.iconst 1, 1) := by decide +kernel
theorem dX3_keep_57 : decode cX3_keep 57 = .ok (.iadd, 1) := by decide +kernel
theorem dX3_keep_58 : decode cX3_keep 58 = .ok (.putfield 160, 3) := by decide +kernel
theorem dX3_keep_61 : decode cX3_keep 61 = .ok (.aload_n 0, 1) := by decide +kernel
theorem dX3_keep_62 : decode cX3_keep 62 = .ok (.getfield 160, 3) := by decide +kernel
theorem dX3_keep_65 : decode cX3_keep 65 = .ok (.ireturn, 1) := by decide +kernel
set_option maxRecDepth 20000 in
theorem ggX3_back_X3_lastKept : GoodIn wsX3_back wsX3_lastKept := goodIn_r _ [8, 1, 2, 25, 26, 27, 28, 29, 30, 31, 32] (by decide +kernel) (by decide +kernel)
set_option maxRecDepth 20000 in
theorem gX3_back_X3_lastKept : GoodIn wsX3_back (wsV RX3 167 RX3 yX3_lastKept wsX3_lastKept) := goodIn_app (goodIn_of _ (by decide +kernel)) ggX3_back_X3_lastKept
set_option maxRecDepth 20000 in
theorem ggX3_back_X3_comeBack : GoodIn wsX3_back wsX3_comeBack := goodIn_r _ [12, 13, 14, 3, 15, 16, 17, 18, 19, 20, 21, 22, 23, 24, 25, 26, 27, 28, 29, 30, 31, 32, 33, 34, 35, 36, 37, 38] (by decide +kernel) (by decide +kernel)
set_option maxRecDepth 20000 in
theorem gX3_back_X3_comeBack : GoodIn wsX3_back (wsV RX3 171 RX3 yX3_comeBack wsX3_comeBack) := goodIn_app (goodIn_of _ (by decide +kernel)) ggX3_back_X3_comeBack
theorem dX3_back_0 : decode cX3_back 0 = .ok (.aload_n 0, 1) := by decide +kernel
theorem dX3_back_1 : decode cX3_back 1 = .ok (.invokevirtual 167, 3) := by decide +kernel
theorem dX3_back_4 : decode cX3_back 4 = .ok (.astore_n 1, 1) := by decide +kernel
theorem dX3_back_5 : decode cX3_back 5 = .ok (.aload_n 1, 1) := by decide +kernel
theorem dX3_back_6 : decode cX3_back 6 = .ok (.ifnonnull 6, 3) := by decide +kernel
theorem dX3_back_9 : decode cX3_back 9 = .ok (.bipush (-11), 2) := by decide +kernel
theorem dX3_back_11 : decode cX3_back 11 = .ok (.ireturn, 1) := by decide +kernel
theorem dX3_back_12 : decode cX3_back 12 = .ok (.aload_n 0, 1) := by decide +kernel
theorem dX3_back_13 : decode cX3_back 13 = .ok (.dup, 1) := by decide +kernel
theorem dX3_back_14 : decode cX3_back 14 = .ok (.getfield 160, 3) := by decide +kernel
theorem dX3_back_17 : decode cX3_back 17 = .ok (.iconst 1, 1) := by decide +kernel
theorem dX3_back_18 : decode cX3_back 18 = .ok (.isub, 1) := by decide +kernel
theorem dX3_back_19 : decode cX3_back 19 = .ok (.putfield 160, 3) := by decide +kernel
theorem dX3_back_22 : decode cX3_back 22 = .ok (.aload_n 0, 1) := by decide +kernel
theorem dX3_back_23 : decode cX3_back 23 = .ok (.getfield 11, 3) := by decide +kernel
theorem dX3_back_26 : decode cX3_back 26 = .ok (.aload_n 0, 1) := by decide +kernel
theorem dX3_back_27 : decode cX3_back 27 = .ok (.getfield 160, 3) := by decide +kernel
theorem dX3_back_30 : decode cX3_back 30 = .ok (.aload_n 0, 1) := by decide +kernel
theorem dX3_back_31 : decode cX3_back 31 = .ok (.getfield 30, 3) := by decide +kernel
theorem dX3_back_34 : decode cX3_back 34 = .ok (.aastore, 1) := by decide +kernel
theorem dX3_back_35 : decode cX3_back 35 = .ok (.aload_n 0, 1) := by decide +kernel
theorem dX3_back_36 : decode cX3_back 36 = .ok (.aload_n 1, 1) := by decide +kernel
theorem dX3_back_37 : decode cX3_back 37 = .ok (.invokevirtual 171, 3) := by decide +kernel
theorem dX3_back_40 : decode cX3_back 40 = .ok (.aload_n 0, 1) := by decide +kernel
theorem dX3_back_41 : decode cX3_back 41 = .ok (.getfield 160, 3) := by decide +kernel
theorem dX3_back_44 : decode cX3_back 44 = .ok (.ireturn, 1) := by decide +kernel
set_option maxRecDepth 20000 in
theorem ggX3_restart_X3_spareState : GoodIn wsX3_restart wsX3_spareState := goodIn_r _ [7, 2, 8, 9, 10, 11, 12, 13, 14, 15, 16, 17, 18, 19, 20, 51, 52, 53, 54, 55, 56, 57, 58, 59, 60, 61, 62, 63, 64] (by decide +kernel) (by decide +kernel)
set_option maxRecDepth 20000 in
theorem gX3_restart_X3_spareState : GoodIn wsX3_restart (wsV RX3 174 RX3 yX3_spareState wsX3_spareState) := goodIn_app (goodIn_of _ (by decide +kernel)) ggX3_restart_X3_spareState
set_option maxRecDepth 20000 in
theorem ggX3_restart_X2_begin : GoodIn wsX3_restart wsX2_begin := goodIn_r _ [24, 17, 25, 26, 27, 28, 29, 30, 31, 32, 33, 10, 34, 59, 60, 61, 62, 63, 64] (by decide +kernel) (by decide +kernel)
set_option maxRecDepth 20000 in
theorem gX3_restart_X2_begin : GoodIn wsX3_restart (wsV RX3 34 RX2 yX2_begin wsX2_begin) := goodIn_app (goodIn_of _ (by decide +kernel)) ggX3_restart_X2_begin
set_option maxRecDepth 20000 in
theorem ggX3_restart_X3_comeBack : GoodIn wsX3_restart wsX3_comeBack := goodIn_r _ [38, 39, 40, 1, 41, 42, 43, 44, 45, 46, 47, 48, 49, 50, 51, 52, 53, 54, 55, 56, 57, 58, 59, 60, 61, 62, 63, 64] (by decide +kernel) (by decide +kernel)
set_option maxRecDepth 20000 in
theorem gX3_restart_X3_comeBack : GoodIn wsX3_restart (wsV RX3 171 RX3 yX3_comeBack wsX3_comeBack) := goodIn_app (goodIn_of _ (by decide +kernel)) ggX3_restart_X3_comeBack
theorem dX3_restart_0 : decode cX3_restart 0 = .ok (.aload_n 0, 1) := by decide +kernel
theorem dX3_restart_1 : decode cX3_restart 1 = .ok (.invokevirtual 174, 3) := by decide +kernel
theorem dX3_restart_4 : decode cX3_restart 4 = .ok (.astore_n 1, 1) := by decide +kernel
theorem dX3_restart_5 : decode cX3_restart 5 = .ok (.aload_n 1, 1) := by decide +kernel
theorem dX3_restart_6 : decode cX3_restart 6 = .ok (.invokevirtual 34, 3) := by decide +kernel
theorem dX3_restart_9 : decode cX3_restart 9 = .ok (.aload_n 0, 1) := by decide +kernel
theorem dX3_restart_10 : decode cX3_restart 10 = .ok (.aload_n 0, 1) := by decide +kernel
theorem dX3_restart_11 : decode cX3_restart 11 = .ok (.getfield 30, 3) := by decide +kernel
theorem dX3_restart_14 : decode cX3_restart 14 = .ok (.putfield 177, 3) := by decide +kernel
theorem dX3_restart_17 : decode cX3_restart 17 = .ok (.aload_n 0, 1) := by decide +kernel
theorem dX3_restart_18 : decode cX3_restart 18 = .ok (.aload_n 1, 1) := by decide +kernel
theorem dX3_restart_19 : decode cX3_restart 19 = .ok (.invokevirtual 171, 3) := by decide +kernel
theorem dX3_restart_22 : decode cX3_restart 22 = .ok (.iconst 1, 1) := by decide +kernel
theorem dX3_restart_23 : decode cX3_restart 23 = .ok (.ireturn, 1) := by decide +kernel
set_option maxRecDepth 20000 in
theorem ggX3_same_X3_lastKept : GoodIn wsX3_same wsX3_lastKept := goodIn_r _ [6, 7, 8, 20, 21, 22, 23, 24, 25, 26, 27] (by decide +kernel) (by decide +kernel)
set_option maxRecDepth 20000 in
theorem gX3_same_X3_lastKept : GoodIn wsX3_same (wsV RX3 167 RX3 yX3_lastKept wsX3_lastKept) := goodIn_app (goodIn_of _ (by decide +kernel)) ggX3_same_X3_lastKept
set_option maxRecDepth 20000 in
theorem ggX3_same_X2_isLike : GoodIn wsX3_same wsX2_isLike := goodIn_r _ [13, 14, 15, 16, 17, 18, 19, 28, 29, 30, 31, 32, 33] (by decide +kernel) (by decide +kernel)
set_option maxRecDepth 20000 in
theorem gX3_same_X2_isLike : GoodIn wsX3_same (wsV RX3 180 RX2 yX2_isLike wsX2_isLike) := goodIn_app (goodIn_of _ (by decide +kernel)) ggX3_same_X2_isLike
theorem dX3_same_0 : decode cX3_same 0 = .ok (.aload_n 0, 1) := by decide +kernel
theorem dX3_same_1 : decode cX3_same 1 = .ok (.invokevirtual 167, 3) := by decide +kernel
theorem dX3_same_4 : decode cX3_same 4 = .ok (.astore_n 1, 1) := by decide +kernel
theorem dX3_same_5 : decode cX3_same 5 = .ok (.aload_n 1, 1) := by decide +kernel
theorem dX3_same_6 : decode cX3_same 6 = .ok (.ifnonnull 6, 3) := by decide +kernel
theorem dX3_same_9 : decode cX3_same 9 = .ok (.bipush (-11), 2) := by decide +kernel
theorem dX3_same_11 : decode cX3_same 11 = .ok (.ireturn, 1) := by decide +kernel
theorem dX3_same_12 : decode cX3_same 12 = .ok (.aload_n 0, 1) := by decide +kernel
theorem dX3_same_13 : decode cX3_same 13 = .ok (.getfield 30, 3) := by decide +kernel
theorem dX3_same_16 : decode cX3_same 16 = .ok (.aload_n 1, 1) := by decide +kernel
theorem dX3_same_17 : decode cX3_same 17 = .ok (.invokevirtual 180, 3) := by decide +kernel
theorem dX3_same_20 : decode cX3_same 20 = .ok (.ifCond .eq 7, 3) := by decide +kernel
theorem dX3_same_23 : decode cX3_same 23 = .ok (.iconst 1, 1) := by decide +kernel
theorem dX3_same_24 : decode cX3_same 24 = .ok (.goto 4, 3) := by decide +kernel
theorem dX3_same_27 : decode cX3_same 27 = .ok (.iconst 0, 1) := by decide +kernel
theorem dX3_same_28 : decode cX3_same 28 = .ok (.ireturn, 1) := by decide +kernel
theorem dX3_lastKept_0 : decode cX3_lastKept 0 = .ok (.aload_n 0, 1) := by decide +kernel
theorem dX3_lastKept_1 : decode cX3_lastKept 1 = .ok (.getfield 160, 3) := by decide +kernel
theorem dX3_lastKept_4 : decode cX3_lastKept 4 = .ok (.ifCond .le 25, 3) := by decide +kernel
theorem dX3_lastKept_7 : decode cX3_lastKept 7 = .ok (.aload_n 0, 1) := by decide +kernel
theorem dX3_lastKept_8 : decode cX3_lastKept 8 = .ok (.getfield 160, 3) := by decide +kernel
theorem dX3_lastKept_11 : decode cX3_lastKept 11 = .ok (.iconst 4, 1) := by decide +kernel
theorem dX3_lastKept_12 : decode cX3_lastKept 12 = .ok (.if_icmp .gt 17, 3) := by decide +kernel
theorem dX3_lastKept_15 : decode cX3_lastKept 15 = .ok (.aload_n 0, 1) := by decide +kernel
theorem dX3_lastKept_16 : decode cX3_lastKept 16 = .ok (.getfield 11, 3) := by decide +kernel
theorem dX3_lastKept_19 : decode cX3_lastKept 19 = .ok (.aload_n 0, 1) := by decide +kernel
theorem dX3_lastKept_20 : decode cX3_lastKept 20 = .ok (.getfield 160, 3) := by decide +kernel
theorem dX3_lastKept_23 : decode cX3_lastKept 23 = .ok (.iconst 1, 1) := by decide +kernel
theorem dX3_lastKept_24 : decode cX3_lastKept 24 = .ok (.isub, 1) := by decide +kernel
theorem dX3_lastKept_25 : decode cX3_lastKept 25 = .ok (.aaload, 1) := by decide +kernel
theorem dX3_lastKept_26 : decode cX3_lastKept 26 = .ok (.goto 4, 3) := by decide +kernel
theorem dX3_lastKept_29 : decode cX3_lastKept 29 = .ok (.aconst_null, 1) := by decide +kernel
theorem dX3_lastKept_30 : decode cX3_lastKept 30 = .ok (.areturn, 1) := by decide +kernel
set_option maxRecDepth 20000 in
theorem ggX3_spareState_X2_init : GoodIn wsX3_spareState wsX2_init := goodIn_r _ [6, 7, 8, 9, 10, 11, 12, 13, 14, 23, 24, 25, 26, 27, 28] (by decide +kernel) (by decide +kernel)
set_option maxRecDepth 20000 in
theorem gX3_spareState_X2_init_n29 : GoodIn wsX3_spareState (wsX2_init) := ggX3_spareState_X2_init
theorem dX3_spareState_0 : decode cX3_spareState 0 = .ok (.aload_n 0, 1) := by decide +kernel
theorem dX3_spareState_1 : decode cX3_spareState 1 = .ok (.getfield 177, 3) := by decide +kernel
theorem dX3_spareState_4 : decode cX3_spareState 4 = .ok (.ifnonnull 14, 3) := by decide +kernel
theorem dX3_spareState_7 : decode cX3_spareState 7 = .ok (.aload_n 0, 1) := by decide +kernel
theorem dX3_spareState_8 : decode cX3_spareState 8 = .ok (.new 9, 3) := by decide +kernel
theorem dX3_spareState_11 : decode cX3_spareState 11 = .ok (.dup, 1) := by decide +kernel
theorem dX3_spareState_12 : decode cX3_spareState 12 = .ok (.invokespecial 29, 3) := by decide +kernel
theorem dX3_spareState_15 : decode cX3_spareState 15 = .ok (.putfield 177, 3) := by decide +kernel
theorem dX3_spareState_18 : decode cX3_spareState 18 = .ok (.aload_n 0, 1) := by decide +kernel
theorem dX3_spareState_19 : decode cX3_spareState 19 = .ok (.getfield 177, 3) := by decide +kernel
theorem dX3_spareState_22 : decode cX3_spareState 22 = .ok (.areturn, 1) := by decide +kernel
theorem dX3_comeBack_0 : decode cX3_comeBack 0 = .ok (.aload_n 0, 1) := by decide +kernel
theorem dX3_comeBack_1 : decode cX3_comeBack 1 = .ok (.getfield 154, 3) := by decide +kernel
theorem dX3_comeBack_4 : decode cX3_comeBack 4 = .ok (.aload_n 0, 1) := by decide +kernel
theorem dX3_comeBack_5 : decode cX3_comeBack 5 = .ok (.getfield 157, 3) := by decide +kernel
theorem dX3_comeBack_8 : decode cX3_comeBack 8 = .ok (.iadd, 1) := by decide +kernel
theorem dX3_comeBack_9 : decode cX3_comeBack 9 = .ok (.aload_n 0, 1) := by decide +kernel
theorem dX3_comeBack_10 : decode cX3_comeBack 10 = .ok (.getfield 30, 3) := by decide +kernel
theorem dX3_comeBack_13 : decode cX3_comeBack 13 = .ok (.getfield 84, 3) := by decide +kernel
theorem dX3_comeBack_16 : decode cX3_comeBack 16 = .ok (.aload_n 1, 1) := by decide +kernel
theorem dX3_comeBack_17 : decode cX3_comeBack 17 = .ok (.getfield 84, 3) := by decide +kernel
theorem dX3_comeBack_20 : decode cX3_comeBack 20 = .ok (.invokestatic 125, 3) := by decide +kernel
theorem dX3_comeBack_23 : decode cX3_comeBack 23 = .ok (.invokestatic 125, 3) := by decide +kernel
theorem dX3_comeBack_26 : decode cX3_comeBack 26 = .ok (.istore_n 2, 1) := by decide +kernel
theorem dX3_comeBack_27 : decode cX3_comeBack 27 = .ok (.aload_n 0, 1) := by decide +kernel
theorem dX3_comeBack_28 : decode cX3_comeBack 28 = .ok (.getfield 154, 3) := by decide +kernel
theorem dX3_comeBack_31 : decode cX3_comeBack 31 = .ok (.iload_n 2, 1) := by decide +kernel
theorem dX3_comeBack_32 : decode cX3_comeBack 32 = .ok (.if_icmp .ge 31, 3) := by decide +kernel
theorem dX3_comeBack_35 : decode cX3_comeBack 35 = .ok (.aload_n 0, 1) := by decide +kernel
theorem dX3_comeBack_36 : decode cX3_comeBack 36 = .ok (.getfield 30, 3) := by decide +kernel
theorem dX3_comeBack_39 : decode cX3_comeBack 39 = .ok (.getfield 61, 3) := by decide +kernel
theorem dX3_comeBack_42 : decode cX3_comeBack 42 = .ok (.aload_n 0, 1) := by decide +kernel
theorem dX3_comeBack_43 : decode cX3_comeBack 43 = .ok (.getfield 154, 3) := by decide +kernel
theorem dX3_comeBack_46 : decode cX3_comeBack 46 = .ok (.aload_n 1, 1) := by decide +kernel
theorem dX3_comeBack_47 : decode cX3_comeBack 47 = .ok (.getfield 61, 3) := by decide +kernel
theorem dX3_comeBack_50 : decode cX3_comeBack 50 = .ok (.aload_n 0, 1) := by decide +kernel
theorem dX3_comeBack_51 : decode cX3_comeBack 51 = .ok (.getfield 154, 3) := by decide +kernel
theorem dX3_comeBack_54 : decode cX3_comeBack 54 = .ok (.iload_n 2, 1) := by decide +kernel
theorem dX3_comeBack_55 : decode cX3_comeBack 55 = .ok (.aload_n 0, 1) := by decide +kernel
theorem dX3_comeBack_56 : decode cX3_comeBack 56 = .ok (.getfield 154, 3) := by decide +kernel
theorem dX3_comeBack_59 : decode cX3_comeBack 59 = .ok (.isub, 1) := by decide +kernel
theorem dX3_comeBack_60 : decode cX3_comeBack 60 = .ok (.invokestatic 71, 3) := by decide +kernel
theorem dX3_comeBack_63 : decode cX3_comeBack 63 = .ok (.aload_n 0, 1) := by decide +kernel
theorem dX3_comeBack_64 : decode cX3_comeBack 64 = .ok (.aload_n 1, 1) := by decide +kernel
theorem dX3_comeBack_65 : decode cX3_comeBack 65 = .ok (.putfield 30, 3) := by decide +kernel
theorem dX3_comeBack_68 : decode cX3_comeBack 68 = .ok (.return_, 1) := by decide +kernel
set_option maxRecDepth 20000 in
theorem ggX3_write_X0_tell : GoodIn wsX3_write wsX0_tell := goodIn_r _ [8, 9, 10, 11, 12, 13, 14, 15, 16, 17, 18, 19, 7, 20, 21, 22, 23, 24, 25, 26, 27, 28, 29, 30, 31, 32, 33, 34, 35, 36, 37, 38, 39, 40, 41, 42, 43, 44, 45, 46, 47, 48, 49, 50, 51, 60, 61, 62, 63, 64, 65, 66, 67] (by decide +kernel) (by decide +kernel)
set_option maxRecDepth 20000 in
theorem gX3_write_X0_tell : GoodIn wsX3_write (wsV RX3 184 RX0 yX0_tell wsX0_tell) := goodIn_app (goodIn_of _ (by decide +kernel)) ggX3_write_X0_tell
theorem dX3_write_0 : decode cX3_write 0 = .ok (.aload_n 0, 1) := by decide +kernel
theorem dX3_write_1 : decode cX3_write 1 = .ok (.getfield 25, 3) := by decide +kernel
theorem dX3_write_4 : decode cX3_write 4 = .ok (.aload_n 0, 1) := by decide +kernel
theorem dX3_write_5 : decode cX3_write 5 = .ok (.getfield 30, 3) := by decide +kernel
theorem dX3_write_8 : decode cX3_write 8 = .ok (.invokevirtual 184, 3) := by decide +kernel
theorem dX3_write_11 : decode cX3_write 11 = .ok (.aload_n 0, 1) := by decide +kernel
theorem dX3_write_12 : decode cX3_write 12 = .ok (.getfield 25, 3) := by decide +kernel
theorem dX3_write_15 : decode cX3_write 15 = .ok (.getfield 187, 3) := by decide +kernel
theorem dX3_write_18 : decode cX3_write 18 = .ok (.ireturn, 1) := by decide +kernel
set_option maxRecDepth 20000 in
theorem ggX3_code_X0_has : GoodIn wsX3_code wsX0_has := goodIn_r _ [6, 7, 21, 22] (by decide +kernel) (by decide +kernel)
set_option maxRecDepth 20000 in
theorem gX3_code_X0_has : GoodIn wsX3_code (wsV RX3 188 RX0 yX0_has wsX0_has) := goodIn_app (goodIn_of _ (by decide +kernel)) ggX3_code_X0_has
set_option maxRecDepth 20000 in
theorem ggX3_code_X0_byteAt : GoodIn wsX3_code wsX0_byteAt := goodIn_r _ [11, 12, 21, 22] (by decide +kernel) (by decide +kernel)
set_option maxRecDepth 20000 in
theorem gX3_code_X0_byteAt : GoodIn wsX3_code (wsV RX3 190 RX0 yX0_byteAt wsX0_byteAt) := goodIn_app (goodIn_of _ (by decide +kernel)) ggX3_code_X0_byteAt
theorem dX3_code_0 : decode cX3_code 0 = .ok (.aload_n 0, 1) := by decide +kernel
theorem dX3_code_1 : decode cX3_code 1 = .ok (.getfield 25, 3) := by decide +kernel
theorem dX3_code_4 : decode cX3_code 4 = .ok (.iload_n 1, 1) := by decide +kernel
theorem dX3_code_5 : decode cX3_code 5 = .ok (.invokevirtual 188, 3) := by decide +kernel
theorem dX3_code_8 : decode cX3_code 8 = .ok (.ifCond .eq 14, 3) := by decide +kernel
theorem dX3_code_11 : decode cX3_code 11 = .ok (.aload_n 0, 1) := by decide +kernel
theorem dX3_code_12 : decode cX3_code 12 = .ok (.getfield 25, 3) := by decide +kernel
theorem dX3_code_15 : decode cX3_code 15 = .ok (.iload_n 1, 1) := by decide +kernel
theorem dX3_code_16 : decode cX3_code 16 = .ok (.invokevirtual 190, 3) := by decide +kernel
theorem dX3_code_19 : decode cX3_code 19 = .ok (.goto 4, 3) := by decide +kernel
theorem dX3_code_22 : decode cX3_code 22 = .ok (.iconst (-1), 1) := by decide +kernel
theorem dX3_code_23 : decode cX3_code 23 = .ok (.ireturn, 1) := by decide +kernel
set_option maxRecDepth 20000 in
theorem ggX3_poke_X0_has : GoodIn wsX3_poke wsX0_has := goodIn_r _ [7, 8, 22, 23] (by decide +kernel) (by decide +kernel)
set_option maxRecDepth 20000 in
theorem gX3_poke_X0_has : GoodIn wsX3_poke (wsV RX3 188 RX0 yX0_has wsX0_has) := goodIn_app (goodIn_of _ (by decide +kernel)) ggX3_poke_X0_has
set_option maxRecDepth 20000 in
theorem ggX3_poke_X0_byteAt : GoodIn wsX3_poke wsX0_byteAt := goodIn_r _ [12, 13, 22, 23] (by decide +kernel) (by decide +kernel)
set_option maxRecDepth 20000 in
theorem gX3_poke_X0_byteAt : GoodIn wsX3_poke (wsV RX3 190 RX0 yX0_byteAt wsX0_byteAt) := goodIn_app (goodIn_of _ (by decide +kernel)) ggX3_poke_X0_byteAt
theorem dX3_poke_0 : decode cX3_poke 0 = .ok (.aload_n 0, 1) := by decide +kernel
theorem dX3_poke_1 : decode cX3_poke 1 = .ok (.getfield 25, 3) := by decide +kernel
theorem dX3_poke_4 : decode cX3_poke 4 = .ok (.iload_n 1, 1) := by decide +kernel
theorem dX3_poke_5 : decode cX3_poke 5 = .ok (.invokevirtual 188, 3) := by decide +kernel
theorem dX3_poke_8 : decode cX3_poke 8 = .ok (.ifCond .eq 14, 3) := by decide +kernel
theorem dX3_poke_11 : decode cX3_poke 11 = .ok (.iload_n 2, 1) := by decide +kernel
theorem dX3_poke_12 : decode cX3_poke 12 = .ok (.ifCond .lt 10, 3) := by decide +kernel
theorem dX3_poke_15 : decode cX3_poke 15 = .ok (.iload_n 2, 1) := by decide +kernel
theorem dX3_poke_16 : decode cX3_poke 16 = .ok (.sipush 255, 3) := by decide +kernel
theorem dX3_poke_19 : decode cX3_poke 19 = .ok (.if_icmp .le 6, 3) := by decide +kernel
theorem dX3_poke_22 : decode cX3_poke 22 = .ok (.bipush (-11), 2) := by decide +kernel
theorem dX3_poke_24 : decode cX3_poke 24 = .ok (.ireturn, 1) := by decide +kernel
theorem dX3_poke_25 : decode cX3_poke 25 = .ok (.aload_n 0, 1) := by decide +kernel
theorem dX3_poke_26 : decode cX3_poke 26 = .ok (.getfield 25, 3) := by decide +kernel
theorem dX3_poke_29 : decode cX3_poke 29 = .ok (.iload_n 1, 1) := by decide +kernel
theorem dX3_poke_30 : decode cX3_poke 30 = .ok (.invokevirtual 190, 3) := by decide +kernel
theorem dX3_poke_33 : decode cX3_poke 33 = .ok (.istore_n 3, 1) := by decide +kernel
theorem dX3_poke_34 : decode cX3_poke 34 = .ok (.aload_n 0, 1) := by decide +kernel
theorem dX3_poke_35 : decode cX3_poke 35 = .ok (.getfield 25, 3) := by decide +kernel
theorem dX3_poke_38 : decode cX3_poke 38 = .ok (.getfield 193, 3) := by decide +kernel
theorem dX3_poke_41 : decode cX3_poke 41 = .ok (.iload_n 1, 1) := by decide +kernel
theorem dX3_poke_42 : decode cX3_poke 42 = .ok (.iload_n 2, 1) := by decide +kernel
theorem dX3_poke_43 : decode cX3_poke 43 = .ok (.i2b, 1) := by decide +kernel
theorem dX3_poke_44 : decode cX3_poke 44 = .ok (.bastore, 1) := by decide +kernel
theorem dX3_poke_45 : decode cX3_poke 45 = .ok (.iload_n 3, 1) := by decide +kernel
theorem dX3_poke_46 : decode cX3_poke 46 = .ok (.ireturn, 1) := by decide +kernel
theorem dX3_cut_0 : decode cX3_cut 0 = .ok (.iload_n 1, 1) := by decide +kernel
theorem dX3_cut_1 : decode cX3_cut 1 = .ok (.ifCond .lt 14, 3) := by decide +kernel
theorem dX3_cut_4 : decode cX3_cut 4 = .ok (.iload_n 1, 1) := by decide +kernel
theorem dX3_cut_5 : decode cX3_cut 5 = .ok (.aload_n 0, 1) := by decide +kernel
theorem dX3_cut_6 : decode cX3_cut 6 = .ok (.getfield 25, 3) := by decide +kernel
theorem dX3_cut_9 : decode cX3_cut 9 = .ok (.getfield 187, 3) := by decide +kernel
theorem dX3_cut_12 : decode cX3_cut 12 = .ok (.if_icmp .le 6, 3) := by decide +kernel
theorem dX3_cut_15 : decode cX3_cut 15 = .ok (.bipush (-11), 2) := by decide +kernel
theorem dX3_cut_17 : decode cX3_cut 17 = .ok (.ireturn, 1) := by decide +kernel
theorem dX3_cut_18 : decode cX3_cut 18 = .ok (.aload_n 0, 1) := by decide +kernel
theorem dX3_cut_19 : decode cX3_cut 19 = .ok (.getfield 25, 3) := by decide +kernel
theorem dX3_cut_22 : decode cX3_cut 22 = .ok (.getfield 187, 3) := by decide +kernel
theorem dX3_cut_25 : decode cX3_cut 25 = .ok (.iload_n 1, 1) := by decide +kernel
theorem dX3_cut_26 : decode cX3_cut 26 = .ok (.isub, 1) := by decide +kernel
theorem dX3_cut_27 : decode cX3_cut 27 = .ok (.istore_n 2, 1) := by decide +kernel
theorem dX3_cut_28 : decode cX3_cut 28 = .ok (.aload_n 0, 1) := by decide +kernel
theorem dX3_cut_29 : decode cX3_cut 29 = .ok (.getfield 25, 3) := by decide +kernel
theorem dX3_cut_32 : decode cX3_cut 32 = .ok (.iload_n 1, 1) := by decide +kernel
theorem dX3_cut_33 : decode cX3_cut 33 = .ok (.putfield 187, 3) := by decide +kernel
theorem dX3_cut_36 : decode cX3_cut 36 = .ok (.iload_n 2, 1) := by decide +kernel
theorem dX3_cut_37 : decode cX3_cut 37 = .ok (.ireturn, 1) := by decide +kernel
set_option maxRecDepth 20000 in
theorem ggX3_read_X3_spareState : GoodIn wsX3_read wsX3_spareState := goodIn_r _ [9, 3, 10, 11, 12, 13, 14, 15, 16, 17, 18, 19, 20, 21, 22, 87, 88, 89, 90, 91, 92, 93, 94, 95, 96, 97, 98, 99, 100] (by decide +kernel) (by decide +kernel)
set_option maxRecDepth 20000 in
theorem gX3_read_X3_spareState : GoodIn wsX3_read (wsV RX3 174 RX3 yX3_spareState wsX3_spareState) := goodIn_app (goodIn_of _ (by decide +kernel)) ggX3_read_X3_spareState
set_option maxRecDepth 20000 in
theorem ggX3_read_X0_unfold : GoodIn wsX3_read wsX0_unfold := goodIn_r _ [27, 28, 29, 30, 12, 31, 19, 32, 33, 34, 35, 36, 37, 38, 39, 40, 41, 42, 43, 44, 26, 45, 46, 47, 48, 49, 50, 51, 52, 53, 54, 55, 56, 57, 58, 59, 8, 60, 61, 62, 63, 64, 65, 66, 67, 68, 69, 70, 71, 95, 96, 97, 98, 99, 100, 101, 102] (by decide +kernel) (by decide +kernel)
set_option maxRecDepth 20000 in
theorem gX3_read_X0_unfold : GoodIn wsX3_read (wsV RX3 194 RX0 yX0_unfold wsX0_unfold) := goodIn_app (goodIn_of _ (by decide +kernel)) ggX3_read_X0_unfold
set_option maxRecDepth 20000 in
theorem ggX3_read_X3_comeBack : GoodIn wsX3_read wsX3_comeBack := goodIn_r _ [75, 76, 77, 2, 4, 78, 79, 80, 81, 82, 83, 84, 85, 86, 87, 88, 89, 90, 91, 92, 93, 94, 95, 96, 97, 98, 99, 100] (by decide +kernel) (by decide +kernel)
set_option maxRecDepth 20000 in
theorem gX3_read_X3_comeBack : GoodIn wsX3_read (wsV RX3 171 RX3 yX3_comeBack wsX3_comeBack) := goodIn_app (goodIn_of _ (by decide +kernel)) ggX3_read_X3_comeBack
theorem dX3_read_0 : decode cX3_read 0 = .ok (.aload_n 0, 1) := by decide +kernel
theorem dX3_read_1 : decode cX3_read 1 = .ok (.invokevirtual 174, 3) := by decide +kernel
theorem dX3_read_4 : decode cX3_read 4 = .ok (.astore_n 1, 1) := by decide +kernel
theorem dX3_read_5 : decode cX3_read 5 = .ok (.aload_n 0, 1) := by decide +kernel
theorem dX3_read_6 : decode cX3_read 6 = .ok (.getfield 25, 3) := by decide +kernel
theorem dX3_read_9 : decode cX3_read 9 = .ok (.aload_n 1, 1) := by decide +kernel
theorem dX3_read_10 : decode cX3_read 10 = .ok (.invokevirtual 194, 3) := by decide +kernel
theorem dX3_read_13 : decode cX3_read 13 = .ok (.istore_n 2, 1) := by decide +kernel
theorem dX3_read_14 : decode cX3_read 14 = .ok (.iload_n 2, 1) := by decide +kernel
theorem dX3_read_15 : decode cX3_read 15 = .ok (.iconst (-1), 1) := by decide +kernel
theorem dX3_read_16 : decode cX3_read 16 = .ok (.if_icmp .eq 8, 3) := by decide +kernel
theorem dX3_read_19 : decode cX3_read 19 = .ok (.bipush (-100), 2) := by decide +kernel
theorem dX3_read_21 : decode cX3_read 21 = .ok (.iload_n 2, 1) := by decide +kernel
theorem dX3_read_22 : decode cX3_read 22 = .ok (.isub, 1) := by decide +kernel
theorem dX3_read_23 : decode cX3_read 23 = .ok (.ireturn, 1) := by decide +kernel
theorem dX3_read_24 : decode cX3_read 24 = .ok (.aload_n 0, 1) := by decide +kernel
theorem dX3_read_25 : decode cX3_read 25 = .ok (.aload_n 0, 1) := by decide +kernel
theorem dX3_read_26 : decode cX3_read 26 = .ok (.getfield 30, 3) := by decide +kernel
theorem dX3_read_29 : decode cX3_read 29 = .ok (.putfield 177, 3) := by decide +kernel
theorem dX3_read_32 : decode cX3_read 32 = .ok (.aload_n 0, 1) := by decide +kernel
theorem dX3_read_33 : decode cX3_read 33 = .ok (.aload_n 1, 1) := by decide +kernel
theorem dX3_read_34 : decode cX3_read 34 = .ok (.invokevirtual 171, 3) := by decide +kernel
theorem dX3_read_37 : decode cX3_read 37 = .ok (.aload_n 0, 1) := by decide +kernel
theorem dX3_read_38 : decode cX3_read 38 = .ok (.getfield 30, 3) := by decide +kernel
theorem dX3_read_41 : decode cX3_read 41 = .ok (.getfield 84, 3) := by decide +kernel
theorem dX3_read_44 : decode cX3_read 44 = .ok (.ireturn, 1) := by decide +kernel
set_option maxRecDepth 20000 in
theorem ggX3_told_X2_usedBytes : GoodIn wsX3_told wsX2_usedBytes := goodIn_r _ [14, 15, 16, 40, 41, 42, 43, 44, 45] (by decide +kernel) (by decide +kernel)
set_option maxRecDepth 20000 in
theorem gX3_told_X2_usedBytes : GoodIn wsX3_told (wsV RX3 201 RX2 yX2_usedBytes wsX2_usedBytes) := goodIn_app (goodIn_of _ (by decide +kernel)) ggX3_told_X2_usedBytes
set_option maxRecDepth 20000 in
theorem ggX3_told_X2_gapCount : GoodIn wsX3_told wsX2_gapCount := goodIn_r _ [20, 15, 21, 22, 23, 13, 24, 25, 26, 27, 28, 29, 30, 16, 31, 40, 41, 42, 43, 44, 45] (by decide +kernel) (by decide +kernel)
set_option maxRecDepth 20000 in
theorem gX3_told_X2_gapCount : GoodIn wsX3_told (wsV RX3 205 RX2 yX2_gapCount wsX2_gapCount) := goodIn_app (goodIn_of _ (by decide +kernel)) ggX3_told_X2_gapCount
theorem dX3_told_0 : decode cX3_told 0 = .ok (.iload_n 1, 1) := by decide +kernel
theorem dX3_told_1 : decode cX3_told 1 = .ok (.tableswitch 114 0 8 #[51, 59, 67, 75, 83, 91, 96, 104, 109], 51) := by decide +kernel
theorem dX3_told_52 : decode cX3_told 52 = .ok (.aload_n 0, 1) := by decide +kernel
theorem dX3_told_53 : decode cX3_told 53 = .ok (.getfield 30, 3) := by decide +kernel
theorem dX3_told_56 : decode cX3_told 56 = .ok (.getfield 84, 3) := by decide +kernel
theorem dX3_told_59 : decode cX3_told 59 = .ok (.ireturn, 1) := by decide +kernel
theorem dX3_told_60 : decode cX3_told 60 = .ok (.aload_n 0, 1) := by decide +kernel
theorem dX3_told_61 : decode cX3_told 61 = .ok (.getfield 30, 3) := by decide +kernel
theorem dX3_told_64 : decode cX3_told 64 = .ok (.getfield 198, 3) := by decide +kernel
theorem dX3_told_67 : decode cX3_told 67 = .ok (.ireturn, 1) := by decide +kernel
theorem dX3_told_68 : decode cX3_told 68 = .ok (.aload_n 0, 1) := by decide +kernel
theorem dX3_told_69 : decode cX3_told 69 = .ok (.getfield 30, 3) := by decide +kernel
theorem dX3_told_72 : decode cX3_told 72 = .ok (.getfield 80, 3) := by decide +kernel
theorem dX3_told_75 : decode cX3_told 75 = .ok (.ireturn, 1) := by decide +kernel
theorem dX3_told_76 : decode cX3_told 76 = .ok (.aload_n 0, 1) := by decide +kernel
theorem dX3_told_77 : decode cX3_told 77 = .ok (.getfield 30, 3) := by decide +kernel
theorem dX3_told_80 : decode cX3_told 80 = .ok (.invokevirtual 201, 3) := by decide +kernel
theorem dX3_told_83 : decode cX3_told 83 = .ok (.ireturn, 1) := by decide +kernel
theorem dX3_told_84 : decode cX3_told 84 = .ok (.aload_n 0, 1) := by decide +kernel
theorem dX3_told_85 : decode cX3_told 85 = .ok (.getfield 30, 3) := by decide +kernel
theorem dX3_told_88 : decode cX3_told 88 = .ok (.invokevirtual 205, 3) := by decide +kernel
theorem dX3_told_91 : decode cX3_told 91 = .ok (.ireturn, 1) := by decide +kernel
theorem dX3_told_92 : decode cX3_told 92 = .ok (.aload_n 0, 1) := by decide +kernel
theorem dX3_told_93 : decode cX3_told 93 = .ok (.getfield 160, 3) := by decide +kernel
theorem dX3_told_96 : decode cX3_told 96 = .ok (.ireturn, 1) := by decide +kernel
theorem dX3_told_97 : decode cX3_told 97 = .ok (.aload_n 0, 1) := by decide +kernel
theorem dX3_told_98 : decode cX3_told 98 = .ok (.getfield 25, 3) := by decide +kernel
theorem dX3_told_101 : decode cX3_told 101 = .ok (.getfield 187, 3) := by decide +kernel
theorem dX3_told_104 : decode cX3_told 104 = .ok (.ireturn, 1) := by decide +kernel
theorem dX3_told_105 : decode cX3_told 105 = .ok (.aload_n 0, 1) := by decide +kernel
theorem dX3_told_106 : decode cX3_told 106 = .ok (.getfield 154, 3) := by decide +kernel
theorem dX3_told_109 : decode cX3_told 109 = .ok (.ireturn, 1) := by decide +kernel
theorem dX3_told_110 : decode cX3_told 110 = .ok (.aload_n 0, 1) := by decide +kernel
theorem dX3_told_111 : decode cX3_told 111 = .ok (.getfield 157, 3) := by decide +kernel
theorem dX3_told_114 : decode cX3_told 114 = .ok (.ireturn, 1) := by decide +kernel
theorem dX3_told_115 : decode cX3_told 115 = .ok (.bipush (-11), 2) := by decide +kernel
theorem dX3_told_117 : decode cX3_told 117 = .ok (.ireturn, 1) := by decide +kernel
