set_option maxRecDepth 20000 in
theorem ggX6_init_X3_init : GoodIn wsX6_init wsX3_init := goodIn_r _ [31, 32, 2, 3, 33, 34, 35, 73, 74] (by decide +kernel) (by decide +kernel)
set_option maxRecDepth 20000 in
theorem gX6_init_X3_init : GoodIn wsX6_init (wsX3_init) := ggX6_init_X3_init
set_option maxRecDepth 20000 in
theorem ggX6_init_X0_init : GoodIn wsX6_init wsX0_init := goodIn_r _ [38, 39, 2, 3, 40, 41, 5, 6, 42, 43, 30, 31, 32, 33, 34, 35, 82, 83, 73, 74] (by decide +kernel) (by decide +kernel)
set_option maxRecDepth 20000 in
theorem gX6_init_X0_init : GoodIn wsX6_init (wsX0_init) := ggX6_init_X0_init
set_option maxRecDepth 20000 in
theorem ggX6_init_X1_init : GoodIn wsX6_init wsX1_init := goodIn_r _ [46, 47, 2, 3, 48, 33, 49, 50, 51, 52, 84, 85, 86, 87] (by decide +kernel) (by decide +kernel)
set_option maxRecDepth 20000 in
theorem gX6_init_X1_init : GoodIn wsX6_init (wsX1_init) := ggX6_init_X1_init
set_option maxRecDepth 20000 in
theorem ggX6_init_X4_init : GoodIn wsX6_init wsX4_init := goodIn_r _ [55, 56, 2, 3, 33, 57, 88] (by decide +kernel) (by decide +kernel)
set_option maxRecDepth 20000 in
theorem gX6_init_X4_init : GoodIn wsX6_init (wsX4_init) := ggX6_init_X4_init
set_option maxRecDepth 20000 in
theorem ggX6_init_X5_init : GoodIn wsX6_init wsX5_init := goodIn_r _ [60, 61, 2, 3, 62, 63, 64, 89, 90] (by decide +kernel) (by decide +kernel)
set_option maxRecDepth 20000 in
theorem gX6_init_X5_init : GoodIn wsX6_init (wsX5_init) := ggX6_init_X5_init
set_option maxRecDepth 20000 in
theorem ggX6_init_X2_init : GoodIn wsX6_init wsX2_init := goodIn_r _ [67, 68, 2, 3, 69, 70, 5, 6, 71, 72, 30, 31, 32, 33, 34, 35, 91, 92, 93, 94, 95, 96, 97, 98, 99, 100, 73, 74] (by decide +kernel) (by decide +kernel)
set_option maxRecDepth 20000 in
theorem gX6_init_X2_init : GoodIn wsX6_init (wsX2_init) := ggX6_init_X2_init
theorem dX6_init_0 : decode cX6_init 0 = .ok (.aload_n 0, 1) := by decide +kernel
theorem dX6_init_1 : decode cX6_init 1 = .ok (.invokespecial 1, 3) := by decide +kernel
theorem dX6_init_4 : decode cX6_init 4 = .ok (.aload_n 0, 1) := by decide +kernel
theorem dX6_init_5 : decode cX6_init 5 = .ok (.new 7, 3) := by decide +kernel
theorem dX6_init_8 : decode cX6_init 8 = .ok (.dup, 1) := by decide +kernel
theorem dX6_init_9 : decode cX6_init 9 = .ok (.invokespecial 9, 3) := by decide +kernel
theorem dX6_init_12 : decode cX6_init 12 = .ok (.putfield 10, 3) := by decide +kernel
theorem dX6_init_15 : decode cX6_init 15 = .ok (.aload_n 0, 1) := by decide +kernel
theorem dX6_init_16 : decode cX6_init 16 = .ok (.new 16, 3) := by decide +kernel
theorem dX6_init_19 : decode cX6_init 19 = .ok (.dup, 1) := by decide +kernel
theorem dX6_init_20 : decode cX6_init 20 = .ok (.invokespecial 18, 3) := by decide +kernel
theorem dX6_init_23 : decode cX6_init 23 = .ok (.putfield 19, 3) := by decide +kernel
theorem dX6_init_26 : decode cX6_init 26 = .ok (.aload_n 0, 1) := by decide +kernel
theorem dX6_init_27 : decode cX6_init 27 = .ok (.new 23, 3) := by decide +kernel
theorem dX6_init_30 : decode cX6_init 30 = .ok (.dup, 1) := by decide +kernel
theorem dX6_init_31 : decode cX6_init 31 = .ok (.invokespecial 25, 3) := by decide +kernel
theorem dX6_init_34 : decode cX6_init 34 = .ok (.putfield 26, 3) := by decide +kernel
theorem dX6_init_37 : decode cX6_init 37 = .ok (.aload_n 0, 1) := by decide +kernel
theorem dX6_init_38 : decode cX6_init 38 = .ok (.new 30, 3) := by decide +kernel
theorem dX6_init_41 : decode cX6_init 41 = .ok (.dup, 1) := by decide +kernel
theorem dX6_init_42 : decode cX6_init 42 = .ok (.invokespecial 32, 3) := by decide +kernel
theorem dX6_init_45 : decode cX6_init 45 = .ok (.putfield 33, 3) := by decide +kernel
theorem dX6_init_48 : decode cX6_init 48 = .ok (.aload_n 0, 1) := by decide +kernel
theorem dX6_init_49 : decode cX6_init 49 = .ok (.new 30, 3) := by decide +kernel
theorem dX6_init_52 : decode cX6_init 52 = .ok (.dup, 1) := by decide +kernel
theorem dX6_init_53 : decode cX6_init 53 = .ok (.invokespecial 32, 3) := by decide +kernel
theorem dX6_init_56 : decode cX6_init 56 = .ok (.putfield 37, 3) := by decide +kernel
theorem dX6_init_59 : decode cX6_init 59 = .ok (.aload_n 0, 1) := by decide +kernel
theorem dX6_init_60 : decode cX6_init 60 = .ok (.new 40, 3) := by decide +kernel
theorem dX6_init_63 : decode cX6_init 63 = .ok (.dup, 1) := by decide +kernel
theorem dX6_init_64 : decode cX6_init 64 = .ok (.invokespecial 42, 3) := by decide +kernel
theorem dX6_init_67 : decode cX6_init 67 = .ok (.putfield 43, 3) := by decide +kernel
theorem dX6_init_70 : decode cX6_init 70 = .ok (.aload_n 0, 1) := by decide +kernel
theorem dX6_init_71 : decode cX6_init 71 = .ok (.new 47, 3) := by decide +kernel
theorem dX6_init_74 : decode cX6_init 74 = .ok (.dup, 1) := by decide +kernel
theorem dX6_init_75 : decode cX6_init 75 = .ok (.aload_n 0, 1) := by decide +kernel
theorem dX6_init_76 : decode cX6_init 76 = .ok (.getfield 43, 3) := by decide +kernel
theorem dX6_init_79 : decode cX6_init 79 = .ok (.invokespecial 49, 3) := by decide +kernel
theorem dX6_init_82 : decode cX6_init 82 = .ok (.putfield 52, 3) := by decide +kernel
theorem dX6_init_85 : decode cX6_init 85 = .ok (.return_, 1) := by decide +kernel
set_option maxRecDepth 20000 in
theorem ggX6_put_X3_size : GoodIn wsX6_put wsX3_size := goodIn_r _ [9, 10, 45, 46] (by decide +kernel) (by decide +kernel)
set_option maxRecDepth 20000 in
theorem gX6_put_X3_size : GoodIn wsX6_put (wsV RX6 56 RX3 yX3_size wsX3_size) := goodIn_app (goodIn_of _ (by decide +kernel)) ggX6_put_X3_size
set_option maxRecDepth 20000 in
theorem ggX6_put_X6_isAtMost : GoodIn wsX6_put wsX6_isAtMost := goodIn_r _ [14] (by decide +kernel) (by decide +kernel)
set_option maxRecDepth 20000 in
theorem gX6_put_X6_isAtMost : GoodIn wsX6_put (va_wsS RX6 60 yX6_isAtMost wsX6_isAtMost) := goodIn_app (goodIn_of _ (by decide +kernel)) ggX6_put_X6_isAtMost
set_option maxRecDepth 20000 in
theorem ggX6_put_X6_isSymbol : GoodIn wsX6_put wsX6_isSymbol := goodIn_r _ [17] (by decide +kernel) (by decide +kernel)
set_option maxRecDepth 20000 in
theorem gX6_put_X6_isSymbol : GoodIn wsX6_put (va_wsS RX6 64 yX6_isSymbol wsX6_isSymbol) := goodIn_app (goodIn_of _ (by decide +kernel)) ggX6_put_X6_isSymbol
set_option maxRecDepth 20000 in
theorem ggX6_put_X0_remember : GoodIn wsX6_put wsX0_remember := goodIn_r _ [22, 23, 24, 25, 26, 27, 21, 28, 29, 30, 31, 8, 32, 10, 33, 47, 48, 45, 46] (by decide +kernel) (by decide +kernel)
set_option maxRecDepth 20000 in
theorem gX6_put_X0_remember : GoodIn wsX6_put (wsV RX6 70 RX0 yX0_remember wsX0_remember) := goodIn_app (goodIn_of _ (by decide +kernel)) ggX6_put_X0_remember
set_option maxRecDepth 20000 in
theorem ggX6_put_X3_insert : GoodIn wsX6_put wsX3_insert := goodIn_r _ [37, 10, 33, 12, 13, 14, 45, 46] (by decide +kernel) (by decide +kernel)
set_option maxRecDepth 20000 in
theorem gX6_put_X3_insert : GoodIn wsX6_put (wsV RX6 74 RX3 yX3_insert wsX3_insert) := goodIn_app (goodIn_of _ (by decide +kernel)) ggX6_put_X3_insert
theorem dX6_put_0 : decode cX6_put 0 = .ok (.iload_n 1, 1) := by decide +kernel
theorem dX6_put_1 : decode cX6_put 1 = .ok (.aload_n 0, 1) := by decide +kernel
theorem dX6_put_2 : decode cX6_put 2 = .ok (.getfield 10, 3) := by decide +kernel
theorem dX6_put_5 : decode cX6_put 5 = .ok (.invokevirtual 56, 3) := by decide +kernel
theorem dX6_put_8 : decode cX6_put 8 = .ok (.invokestatic 60, 3) := by decide +kernel
theorem dX6_put_11 : decode cX6_put 11 = .ok (.ifCond .eq 10, 3) := by decide +kernel
theorem dX6_put_14 : decode cX6_put 14 = .ok (.iload_n 2, 1) := by decide +kernel
theorem dX6_put_15 : decode cX6_put 15 = .ok (.invokestatic 64, 3) := by decide +kernel
theorem dX6_put_18 : decode cX6_put 18 = .ok (.ifCond .ne 6, 3) := by decide +kernel
theorem dX6_put_21 : decode cX6_put 21 = .ok (.ldc 68, 2) := by decide +kernel
theorem dX6_put_23 : decode cX6_put 23 = .ok (.ireturn, 1) := by decide +kernel
theorem dX6_put_24 : decode cX6_put 24 = .ok (.aload_n 0, 1) := by decide +kernel
theorem dX6_put_25 : decode cX6_put 25 = .ok (.getfield 10, 3) := by decide +kernel
theorem dX6_put_28 : decode cX6_put 28 = .ok (.invokevirtual 56, 3) := by decide +kernel
theorem dX6_put_31 : decode cX6_put 31 = .ok (.bipush 60, 2) := by decide +kernel
theorem dX6_put_33 : decode cX6_put 33 = .ok (.if_icmp .lt 6, 3) := by decide +kernel
theorem dX6_put_36 : decode cX6_put 36 = .ok (.ldc 69, 2) := by decide +kernel
theorem dX6_put_38 : decode cX6_put 38 = .ok (.ireturn, 1) := by decide +kernel
theorem dX6_put_39 : decode cX6_put 39 = .ok (.aload_n 0, 1) := by decide +kernel
theorem dX6_put_40 : decode cX6_put 40 = .ok (.getfield 19, 3) := by decide +kernel
theorem dX6_put_43 : decode cX6_put 43 = .ok (.aload_n 0, 1) := by decide +kernel
theorem dX6_put_44 : decode cX6_put 44 = .ok (.getfield 10, 3) := by decide +kernel
theorem dX6_put_47 : decode cX6_put 47 = .ok (.invokevirtual 70, 3) := by decide +kernel
theorem dX6_put_50 : decode cX6_put 50 = .ok (.aload_n 0, 1) := by decide +kernel
theorem dX6_put_51 : decode cX6_put 51 = .ok (.getfield 10, 3) := by decide +kernel
theorem dX6_put_54 : decode cX6_put 54 = .ok (.iload_n 1, 1) := by decide +kernel
theorem dX6_put_55 : decode cX6_put 55 = .ok (.iload_n 2, 1) := by decide +kernel
theorem dX6_put_56 : decode cX6_put 56 = .ok (.invokevirtual 74, 3) := by decide +kernel
theorem dX6_put_59 : decode cX6_put 59 = .ok (.aload_n 0, 1) := by decide +kernel
theorem dX6_put_60 : decode cX6_put 60 = .ok (.getfield 10, 3) := by decide +kernel
theorem dX6_put_63 : decode cX6_put 63 = .ok (.invokevirtual 56, 3) := by decide +kernel
theorem dX6_put_66 : decode cX6_put 66 = .ok (.ireturn, 1) := by decide +kernel
set_option maxRecDepth 20000 in
theorem ggX6_take_X3_hasPlace : GoodIn wsX6_take wsX3_hasPlace := goodIn_r _ [8, 9, 42, 43] (by decide +kernel) (by decide +kernel)
set_option maxRecDepth 20000 in
theorem gX6_take_X3_hasPlace : GoodIn wsX6_take (wsV RX6 78 RX3 yX3_hasPlace wsX3_hasPlace) := goodIn_app (goodIn_of _ (by decide +kernel)) ggX6_take_X3_hasPlace
set_option maxRecDepth 20000 in
theorem ggX6_take_X3_at : GoodIn wsX6_take wsX3_at := goodIn_r _ [13, 14, 15, 5, 6, 7, 8, 9, 42, 43] (by decide +kernel) (by decide +kernel)
set_option maxRecDepth 20000 in
theorem gX6_take_X3_at : GoodIn wsX6_take (wsV RX6 81 RX3 yX3_at wsX3_at) := goodIn_app (goodIn_of _ (by decide +kernel)) ggX6_take_X3_at
set_option maxRecDepth 20000 in
theorem ggX6_take_X0_remember : GoodIn wsX6_take wsX0_remember := goodIn_r _ [20, 21, 22, 23, 24, 25, 19, 26, 27, 28, 29, 7, 30, 9, 14, 44, 45, 42, 43] (by decide +kernel) (by decide +kernel)
set_option maxRecDepth 20000 in
theorem gX6_take_X0_remember : GoodIn wsX6_take (wsV RX6 70 RX0 yX0_remember wsX0_remember) := goodIn_app (goodIn_of _ (by decide +kernel)) ggX6_take_X0_remember
set_option maxRecDepth 20000 in
theorem ggX6_take_X3_remove : GoodIn wsX6_take wsX3_remove := goodIn_r _ [34, 9, 14, 15, 5, 6, 7, 8, 42, 43] (by decide +kernel) (by decide +kernel)
set_option maxRecDepth 20000 in
theorem gX6_take_X3_remove : GoodIn wsX6_take (wsV RX6 85 RX3 yX3_remove wsX3_remove) := goodIn_app (goodIn_of _ (by decide +kernel)) ggX6_take_X3_remove
theorem dX6_take_0 : decode cX6_take 0 = .ok (.aload_n 0, 1) := by decide +kernel
theorem dX6_take_1 : decode cX6_take 1 = .ok (.getfield 10, 3) := by decide +kernel
theorem dX6_take_4 : decode cX6_take 4 = .ok (.iload_n 1, 1) := by decide +kernel
theorem dX6_take_5 : decode cX6_take 5 = .ok (.invokevirtual 78, 3) := by decide +kernel
theorem dX6_take_8 : decode cX6_take 8 = .ok (.ifCond .ne 6, 3) := by decide +kernel
theorem dX6_take_11 : decode cX6_take 11 = .ok (.ldc 68, 2) := by decide +kernel
theorem dX6_take_13 : decode cX6_take 13 = .ok (.ireturn, 1) := by decide +kernel
theorem dX6_take_14 : decode cX6_take 14 = .ok (.aload_n 0, 1) := by decide +kernel
theorem dX6_take_15 : decode cX6_take 15 = .ok (.getfield 10, 3) := by decide +kernel
theorem dX6_take_18 : decode cX6_take 18 = .ok (.iload_n 1, 1) := by decide +kernel
theorem dX6_take_19 : decode cX6_take 19 = .ok (.invokevirtual 81, 3) := by decide +kernel
theorem dX6_take_22 : decode cX6_take 22 = .ok (.istore_n 2, 1) := by decide +kernel
theorem dX6_take_23 : decode cX6_take 23 = .ok (.aload_n 0, 1) := by decide +kernel
theorem dX6_take_24 : decode cX6_take 24 = .ok (.getfield 19, 3) := by decide +kernel
theorem dX6_take_27 : decode cX6_take 27 = .ok (.aload_n 0, 1) := by decide +kernel
theorem dX6_take_28 : decode cX6_take 28 = .ok (.getfield 10, 3) := by decide +kernel
theorem dX6_take_31 : decode cX6_take 31 = .ok (.invokevirtual 70, 3) := by decide +kernel
theorem dX6_take_34 : decode cX6_take 34 = .ok (.aload_n 0, 1) := by decide +kernel
theorem dX6_take_35 : decode cX6_take 35 = .ok (.getfield 10, 3) := by decide +kernel
theorem dX6_take_38 : decode cX6_take 38 = .ok (.iload_n 1, 1) := by decide +kernel
theorem dX6_take_39 : decode cX6_take 39 = .ok (.invokevirtual 85, 3) := by decide +kernel
theorem dX6_take_42 : decode cX6_take 42 = .ok (.iload_n 2, 1) := by decide +kernel
theorem dX6_take_43 : decode cX6_take 43 = .ok (.ireturn, 1) := by decide +kernel
set_option maxRecDepth 20000 in
theorem ggX6_change_X3_hasPlace : GoodIn wsX6_change wsX3_hasPlace := goodIn_r _ [8, 9, 46, 47] (by decide +kernel) (by decide +kernel)
set_option maxRecDepth 20000 in
theorem gX6_change_X3_hasPlace : GoodIn wsX6_change (wsV RX6 78 RX3 yX3_hasPlace wsX3_hasPlace) := goodIn_app (goodIn_of _ (by decide +kernel)) ggX6_change_X3_hasPlace
set_option maxRecDepth 20000 in
theorem ggX6_change_X6_isSymbol : GoodIn wsX6_change wsX6_isSymbol := goodIn_r _ [13] (by decide +kernel) (by decide +kernel)
set_option maxRecDepth 20000 in
theorem gX6_change_X6_isSymbol : GoodIn wsX6_change (va_wsS RX6 64 yX6_isSymbol wsX6_isSymbol) := goodIn_app (goodIn_of _ (by decide +kernel)) ggX6_change_X6_isSymbol
set_option maxRecDepth 20000 in
theorem ggX6_change_X3_at : GoodIn wsX6_change wsX3_at := goodIn_r _ [17, 18, 19, 5, 6, 7, 8, 9, 46, 47] (by decide +kernel) (by decide +kernel)
set_option maxRecDepth 20000 in
theorem gX6_change_X3_at : GoodIn wsX6_change (wsV RX6 81 RX3 yX3_at wsX3_at) := goodIn_app (goodIn_of _ (by decide +kernel)) ggX6_change_X3_at
set_option maxRecDepth 20000 in
theorem ggX6_change_X0_remember : GoodIn wsX6_change wsX0_remember := goodIn_r _ [24, 25, 26, 27, 28, 29, 23, 30, 31, 32, 33, 7, 34, 9, 18, 48, 49, 46, 47] (by decide +kernel) (by decide +kernel)
set_option maxRecDepth 20000 in
theorem gX6_change_X0_remember : GoodIn wsX6_change (wsV RX6 70 RX0 yX0_remember wsX0_remember) := goodIn_app (goodIn_of _ (by decide +kernel)) ggX6_change_X0_remember
set_option maxRecDepth 20000 in
theorem ggX6_change_X3_replace : GoodIn wsX6_change wsX3_replace := goodIn_r _ [38, 18, 19, 5, 6, 7, 8, 9, 46, 47] (by decide +kernel) (by decide +kernel)
set_option maxRecDepth 20000 in
theorem gX6_change_X3_replace : GoodIn wsX6_change (wsV RX6 89 RX3 yX3_replace wsX3_replace) := goodIn_app (goodIn_of _ (by decide +kernel)) ggX6_change_X3_replace
theorem dX6_change_0 : decode cX6_change 0 = .ok (.aload_n 0, 1) := by decide +kernel
theorem dX6_change_1 : decode cX6_change 1 = .ok (.getfield 10, 3) := by decide +kernel
theorem dX6_change_4 : decode cX6_change 4 = .ok (.iload_n 1, 1) := by decide +kernel
theorem dX6_change_5 : decode cX6_change 5 = .ok (.invokevirtual 78, 3) := by decide +kernel
theorem dX6_change_8 : decode cX6_change 8 = .ok (.ifCond .eq 10, 3) := by decide +kernel
theorem dX6_change_11 : decode cX6_change 11 = .ok (.iload_n 2, 1) := by decide +kernel
theorem dX6_change_12 : decode cX6_change 12 = .ok (.invokestatic 64, 3) := by decide +kernel
theorem dX6_change_15 : decode cX6_change 15 = .ok (.ifCond .ne 6, 3) := by decide +kernel
theorem dX6_change_18 : decode cX6_change 18 = .ok (.ldc 68, 2) := by decide +kernel
theorem dX6_change_20 : decode cX6_change 20 = .ok (.ireturn, 1) := by decide +kernel
theorem dX6_change_21 : decode cX6_change 21 = .ok (.aload_n 0, 1) := by decide +kernel
theorem dX6_change_22 : decode cX6_change 22 = .ok (.getfield 10, 3) := by decide +kernel
theorem dX6_change_25 : decode cX6_change 25 = .ok (.iload_n 1, 1) := by decide +kernel
theorem dX6_change_26 : decode cX6_change 26 = .ok (.invokevirtual 81, 3) := by decide +kernel
theorem dX6_change_29 : decode cX6_change 29 = .ok (.istore_n 3, 1) := by decide +kernel
theorem dX6_change_30 : decode cX6_change 30 = .ok (.aload_n 0, 1) := by decide +kernel
theorem dX6_change_31 : decode cX6_change 31 = .ok (.getfield 19, 3) := by decide +kernel
theorem dX6_change_34 : decode cX6_change 34 = .ok (.aload_n 0, 1) := by decide +kernel
theorem dX6_change_35 : decode cX6_change 35 = .ok (.getfield 10, 3) := by decide +kernel
theorem dX6_change_38 : decode cX6_change 38 = .ok (.invokevirtual 70, 3) := by decide +kernel
theorem dX6_change_41 : decode cX6_change 41 = .ok (.aload_n 0, 1) := by decide +kernel
theorem dX6_change_42 : decode cX6_change 42 = .ok (.getfield 10, 3) := by decide +kernel
theorem dX6_change_45 : decode cX6_change 45 = .ok (.iload_n 1, 1) := by decide +kernel
theorem dX6_change_46 : decode cX6_change 46 = .ok (.iload_n 2, 1) := by decide +kernel
theorem dX6_change_47 : decode cX6_change 47 = .ok (.invokevirtual 89, 3) := by decide +kernel
theorem dX6_change_50 : decode cX6_change 50 = .ok (.iload_n 3, 1) := by decide +kernel
theorem dX6_change_51 : decode cX6_change 51 = .ok (.ireturn, 1) := by decide +kernel
set_option maxRecDepth 20000 in
theorem ggX6_swap_X3_hasPlace : GoodIn wsX6_swap wsX3_hasPlace := goodIn_r _ [8, 9, 43, 44] (by decide +kernel) (by decide +kernel)
set_option maxRecDepth 20000 in
theorem gX6_swap_X3_hasPlace : GoodIn wsX6_swap (wsV RX6 78 RX3 yX3_hasPlace wsX3_hasPlace) := goodIn_app (goodIn_of _ (by decide +kernel)) ggX6_swap_X3_hasPlace
set_option maxRecDepth 20000 in
theorem ggX6_swap_X3_at : GoodIn wsX6_swap wsX3_at := goodIn_r _ [13, 14, 15, 5, 6, 7, 8, 9, 43, 44] (by decide +kernel) (by decide +kernel)
set_option maxRecDepth 20000 in
theorem gX6_swap_X3_at : GoodIn wsX6_swap (wsV RX6 81 RX3 yX3_at wsX3_at) := goodIn_app (goodIn_of _ (by decide +kernel)) ggX6_swap_X3_at
set_option maxRecDepth 20000 in
theorem ggX6_swap_X0_remember : GoodIn wsX6_swap wsX0_remember := goodIn_r _ [20, 21, 22, 23, 24, 25, 19, 26, 27, 28, 29, 7, 30, 9, 14, 45, 46, 43, 44] (by decide +kernel) (by decide +kernel)
set_option maxRecDepth 20000 in
theorem gX6_swap_X0_remember : GoodIn wsX6_swap (wsV RX6 70 RX0 yX0_remember wsX0_remember) := goodIn_app (goodIn_of _ (by decide +kernel)) ggX6_swap_X0_remember
set_option maxRecDepth 20000 in
theorem ggX6_swap_X3_exchange : GoodIn wsX6_swap wsX3_exchange := goodIn_r _ [34, 14, 35, 11, 12, 7, 13, 15, 5, 6, 8, 9, 43, 44] (by decide +kernel) (by decide +kernel)
set_option maxRecDepth 20000 in
theorem gX6_swap_X3_exchange : GoodIn wsX6_swap (wsV RX6 92 RX3 yX3_exchange wsX3_exchange) := goodIn_app (goodIn_of _ (by decide +kernel)) ggX6_swap_X3_exchange
theorem dX6_swap_0 : decode cX6_swap 0 = .ok (.aload_n 0, 1) := by decide +kernel
theorem dX6_swap_1 : decode cX6_swap 1 = .ok (.getfield 10, 3) := by decide +kernel
theorem dX6_swap_4 : decode cX6_swap 4 = .ok (.iload_n 1, 1) := by decide +kernel
theorem dX6_swap_5 : decode cX6_swap 5 = .ok (.invokevirtual 78, 3) := by decide +kernel
theorem dX6_swap_8 : decode cX6_swap 8 = .ok (.ifCond .eq 14, 3) := by decide +kernel
theorem dX6_swap_11 : decode cX6_swap 11 = .ok (.aload_n 0, 1) := by decide +kernel
theorem dX6_swap_12 : decode cX6_swap 12 = .ok (.getfield 10, 3) := by decide +kernel
theorem dX6_swap_15 : decode cX6_swap 15 = .ok (.iload_n 2, 1) := by decide +kernel
theorem dX6_swap_16 : decode cX6_swap 16 = .ok (.invokevirtual 78, 3) := by decide +kernel
theorem dX6_swap_19 : decode cX6_swap 19 = .ok (.ifCond .ne 6, 3) := by decide +kernel
theorem dX6_swap_22 : decode cX6_swap 22 = .ok (.ldc 68, 2) := by decide +kernel
theorem dX6_swap_24 : decode cX6_swap 24 = .ok (.ireturn, 1) := by decide +kernel
theorem dX6_swap_25 : decode cX6_swap 25 = .ok (.aload_n 0, 1) := by decide +kernel
theorem dX6_swap_26 : decode cX6_swap 26 = .ok (.getfield 10, 3) := by decide +kernel
theorem dX6_swap_29 : decode cX6_swap 29 = .ok (.iload_n 1, 1) := by decide +kernel
theorem dX6_swap_30 : decode cX6_swap 30 = .ok (.invokevirtual 81, 3) := by decide +kernel
theorem dX6_swap_33 : decode cX6_swap 33 = .ok (.aload_n 0, 1) := by decide +kernel
theorem dX6_swap_34 : decode cX6_swap 34 = .ok (.getfield 10, 3) := by decide +kernel
theorem dX6_swap_37 : decode cX6_swap 37 = .ok (.iload_n 2, 1) := by decide +kernel
theorem dX6_swap_38 : decode cX6_swap 38 = .ok (.invokevirtual 81, 3) := by decide +kernel
theorem dX6_swap_41 : decode cX6_swap 41 = .ok (.if_icmp .eq 7, 3) := by decide +kernel
theorem dX6_swap_44 : decode cX6_swap 44 = .ok (.iconst 1, 1) := by decide +kernel
theorem dX6_swap_45 : decode cX6_swap 45 = .ok (.goto 4, 3) := by decide +kernel
theorem dX6_swap_48 : decode cX6_swap 48 = .ok (.iconst 0, 1) := by decide +kernel
theorem dX6_swap_49 : decode cX6_swap 49 = .ok (.istore_n 3, 1) := by decide +kernel
theorem dX6_swap_50 : decode cX6_swap 50 = .ok (.aload_n 0, 1) := by decide +kernel
theorem dX6_swap_51 : decode cX6_swap 51 = .ok (.getfield 19, 3) := by decide +kernel
theorem dX6_swap_54 : decode cX6_swap 54 = .ok (.aload_n 0, 1) := by decide +kernel
theorem dX6_swap_55 : decode cX6_swap 55 = .ok (.getfield 10, 3) := by decide +kernel
theorem dX6_swap_58 : decode cX6_swap 58 = .ok (.invokevirtual 70, 3) := by decide +kernel
theorem dX6_swap_61 : decode cX6_swap 61 = .ok (.aload_n 0, 1) := by decide +kernel
theorem dX6_swap_62 : decode cX6_swap 62 = .ok (.getfield 10, 3) := by decide +kernel
theorem dX6_swap_65 : decode cX6_swap 65 = .ok (.iload_n 1, 1) := by decide +kernel
theorem dX6_swap_66 : decode cX6_swap 66 = .ok (.iload_n 2, 1) := by decide +kernel
theorem dX6_swap_67 : decode cX6_swap 67 = .ok (.invokevirtual 92, 3) := by decide +kernel
theorem dX6_swap_70 : decode cX6_swap 70 = .ok (.iload_n 3, 1) := by decide +kernel
theorem dX6_swap_71 : decode cX6_swap 71 = .ok (.ireturn, 1) := by decide +kernel
set_option maxRecDepth 20000 in
theorem ggX6_turn_X3_hasSpan : GoodIn wsX6_turn wsX3_hasSpan := goodIn_r _ [8, 9, 49, 50] (by decide +kernel) (by decide +kernel)
set_option maxRecDepth 20000 in
theorem gX6_turn_X3_hasSpan : GoodIn wsX6_turn (wsV RX6 95 RX3 yX3_hasSpan wsX3_hasSpan) := goodIn_app (goodIn_of _ (by decide +kernel)) ggX6_turn_X3_hasSpan
set_option maxRecDepth 20000 in
theorem ggX6_turn_X0_remember : GoodIn wsX6_turn wsX0_remember := goodIn_r _ [14, 15, 16, 17, 18, 19, 13, 20, 21, 22, 23, 7, 24, 9, 25, 51, 52, 49, 50] (by decide +kernel) (by decide +kernel)
set_option maxRecDepth 20000 in
theorem gX6_turn_X0_remember : GoodIn wsX6_turn (wsV RX6 70 RX0 yX0_remember wsX0_remember) := goodIn_app (goodIn_of _ (by decide +kernel)) ggX6_turn_X0_remember
set_option maxRecDepth 20000 in
theorem ggX6_turn_X3_reverse : GoodIn wsX6_turn wsX3_reverse := goodIn_r _ [29, 30, 31, 32, 7, 33, 25, 34, 35, 36, 37, 9, 38, 39, 40, 41, 49, 50] (by decide +kernel) (by decide +kernel)
set_option maxRecDepth 20000 in
theorem gX6_turn_X3_reverse : GoodIn wsX6_turn (wsV RX6 98 RX3 yX3_reverse wsX3_reverse) := goodIn_app (goodIn_of _ (by decide +kernel)) ggX6_turn_X3_reverse
theorem dX6_turn_0 : decode cX6_turn 0 = .ok (.aload_n 0, 1) := by decide +kernel
theorem dX6_turn_1 : decode cX6_turn 1 = .ok (.getfield 10, 3) := by decide +kernel
theorem dX6_turn_4 : decode cX6_turn 4 = .ok (.iload_n 1, 1) := by decide +kernel
theorem dX6_turn_5 : decode cX6_turn 5 = .ok (.iload_n 2, 1) := by decide +kernel
theorem dX6_turn_6 : decode cX6_turn 6 = .ok (.invokevirtual 95, 3) := by decide +kernel
theorem dX6_turn_9 : decode cX6_turn 9 = .ok (.ifCond .ne 6, 3) := by decide +kernel
theorem dX6_turn_12 : decode cX6_turn 12 = .ok (.ldc 68, 2) := by decide +kernel
theorem dX6_turn_14 : decode cX6_turn 14 = .ok (.ireturn, 1) := by decide +kernel
theorem dX6_turn_15 : decode cX6_turn 15 = .ok (.aload_n 0, 1) := by decide +kernel
theorem dX6_turn_16 : decode cX6_turn 16 = .ok (.getfield 19, 3) := by decide +kernel
theorem dX6_turn_19 : decode cX6_turn 19 = .ok (.aload_n 0, 1) := by decide +kernel
theorem dX6_turn_20 : decode cX6_turn 20 = .ok (.getfield 10, 3) := by decide +kernel
theorem dX6_turn_23 : decode cX6_turn 23 = .ok (.invokevirtual 70, 3) := by decide +kernel
theorem dX6_turn_26 : decode cX6_turn 26 = .ok (.aload_n 0, 1) := by decide +kernel
theorem dX6_turn_27 : decode cX6_turn 27 = .ok (.getfield 10, 3) := by decide +kernel
theorem dX6_turn_30 : decode cX6_turn 30 = .ok (.iload_n 1, 1) := by decide +kernel
theorem dX6_turn_31 : decode cX6_turn 31 = .ok (.iload_n 2, 1) := by decide +kernel
theorem dX6_turn_32 : decode cX6_turn 32 = .ok (.invokevirtual 98, 3) := by decide +kernel
theorem dX6_turn_35 : decode cX6_turn 35 = .ok (.ireturn, 1) := by decide +kernel
set_option maxRecDepth 20000 in
theorem ggX6_sort_X3_hasSpan : GoodIn wsX6_sort wsX3_hasSpan := goodIn_r _ [9, 10, 64, 65] (by decide +kernel) (by decide +kernel)
set_option maxRecDepth 20000 in
theorem gX6_sort_X3_hasSpan : GoodIn wsX6_sort (wsV RX6 95 RX3 yX3_hasSpan wsX3_hasSpan) := goodIn_app (goodIn_of _ (by decide +kernel)) ggX6_sort_X3_hasSpan
set_option maxRecDepth 20000 in
theorem ggX6_sort_X0_remember : GoodIn wsX6_sort wsX0_remember := goodIn_r _ [15, 16, 17, 18, 19, 20, 14, 21, 22, 23, 24, 8, 25, 10, 26, 66, 67, 64, 65] (by decide +kernel) (by decide +kernel)
set_option maxRecDepth 20000 in
theorem gX6_sort_X0_remember : GoodIn wsX6_sort (wsV RX6 70 RX0 yX0_remember wsX0_remember) := goodIn_app (goodIn_of _ (by decide +kernel)) ggX6_sort_X0_remember
set_option maxRecDepth 20000 in
theorem ggX6_sort_X4_fill : GoodIn wsX6_sort wsX4_fill := goodIn_r _ [31, 32, 33, 34, 35, 8, 36, 26, 37, 38, 39, 40, 10, 41, 42, 43, 68, 64, 65] (by decide +kernel) (by decide +kernel)
set_option maxRecDepth 20000 in
theorem gX6_sort_X4_fill : GoodIn wsX6_sort (wsV RX6 102 RX4 yX4_fill wsX4_fill) := goodIn_app (goodIn_of _ (by decide +kernel)) ggX6_sort_X4_fill
set_option maxRecDepth 20000 in
theorem ggX6_sort_X3_layOut : GoodIn wsX6_sort wsX3_layOut := goodIn_r _ [47, 48, 49, 50, 30, 51, 32, 52, 34, 35, 8, 36, 26, 37, 38, 39, 40, 10, 53, 54, 55, 56, 68, 64, 65] (by decide +kernel) (by decide +kernel)
set_option maxRecDepth 20000 in
theorem gX6_sort_X3_layOut : GoodIn wsX6_sort (wsV RX6 106 RX3 yX3_layOut wsX3_layOut) := goodIn_app (goodIn_of _ (by decide +kernel)) ggX6_sort_X3_layOut
theorem dX6_sort_0 : decode cX6_sort 0 = .ok (.aload_n 0, 1) := by decide +kernel
theorem dX6_sort_1 : decode cX6_sort 1 = .ok (.getfield 10, 3) := by decide +kernel
theorem dX6_sort_4 : decode cX6_sort 4 = .ok (.iload_n 1, 1) := by decide +kernel
theorem dX6_sort_5 : decode cX6_sort 5 = .ok (.iload_n 2, 1) := by decide +kernel
theorem dX6_sort_6 : decode cX6_sort 6 = .ok (.invokevirtual 95, 3) := by decide +kernel
theorem dX6_sort_9 : decode cX6_sort 9 = .ok (.ifCond .ne 6, 3) := by decide +kernel
theorem dX6_sort_12 : decode cX6_sort 12 = .ok (.ldc 68, 2) := by decide +kernel
theorem dX6_sort_14 : decode cX6_sort 14 = .ok (.ireturn, 1) := by decide +kernel
theorem dX6_sort_15 : decode cX6_sort 15 = .ok (.aload_n 0, 1) := by decide +kernel
theorem dX6_sort_16 : decode cX6_sort 16 = .ok (.getfield 19, 3) := by decide +kernel
theorem dX6_sort_19 : decode cX6_sort 19 = .ok (.aload_n 0, 1) := by decide +kernel
theorem dX6_sort_20 : decode cX6_sort 20 = .ok (.getfield 10, 3) := by decide +kernel
theorem dX6_sort_23 : decode cX6_sort 23 = .ok (.invokevirtual 70, 3) := by decide +kernel
theorem dX6_sort_26 : decode cX6_sort 26 = .ok (.aload_n 0, 1) := by decide +kernel
theorem dX6_sort_27 : decode cX6_sort 27 = .ok (.getfield 33, 3) := by decide +kernel
theorem dX6_sort_30 : decode cX6_sort 30 = .ok (.aload_n 0, 1) := by decide +kernel
theorem dX6_sort_31 : decode cX6_sort 31 = .ok (.getfield 10, 3) := by decide +kernel
theorem dX6_sort_34 : decode cX6_sort 34 = .ok (.iload_n 1, 1) := by decide +kernel
theorem dX6_sort_35 : decode cX6_sort 35 = .ok (.iload_n 2, 1) := by decide +kernel
theorem dX6_sort_36 : decode cX6_sort 36 = .ok (.invokevirtual 102, 3) := by decide +kernel
theorem dX6_sort_39 : decode cX6_sort 39 = .ok (.aload_n 0, 1) := by decide +kernel
theorem dX6_sort_40 : decode cX6_sort 40 = .ok (.getfield 10, 3) := by decide +kernel
theorem dX6_sort_43 : decode cX6_sort 43 = .ok (.iload_n 1, 1) := by decide +kernel
theorem dX6_sort_44 : decode cX6_sort 44 = .ok (.iload_n 2, 1) := by decide +kernel
theorem dX6_sort_45 : decode cX6_sort 45 = .ok (.aload_n 0, 1) := by decide +kernel
theorem dX6_sort_46 : decode cX6_sort 46 = .ok (.getfield 33, 3) := by decide +kernel
theorem dX6_sort_49 : decode cX6_sort 49 = .ok (.invokevirtual 106, 3) := by decide +kernel
theorem dX6_sort_52 : decode cX6_sort 52 = .ok (.ireturn, 1) := by decide +kernel
set_option maxRecDepth 20000 in
theorem ggX6_levelOf_X6_isAtMost : GoodIn wsX6_levelOf wsX6_isAtMost := goodIn_r _ [8] (by decide +kernel) (by decide +kernel)
set_option maxRecDepth 20000 in
theorem gX6_levelOf_X6_isAtMost : GoodIn wsX6_levelOf (va_wsS RX6 60 yX6_isAtMost wsX6_isAtMost) := goodIn_app (goodIn_of _ (by decide +kernel)) ggX6_levelOf_X6_isAtMost
set_option maxRecDepth 20000 in
theorem ggX6_levelOf_X3_hasPlace : GoodIn wsX6_levelOf wsX3_hasPlace := goodIn_r _ [13, 14, 68, 69] (by decide +kernel) (by decide +kernel)
set_option maxRecDepth 20000 in
theorem gX6_levelOf_X3_hasPlace : GoodIn wsX6_levelOf (wsV RX6 78 RX3 yX3_hasPlace wsX3_hasPlace) := goodIn_app (goodIn_of _ (by decide +kernel)) ggX6_levelOf_X3_hasPlace
set_option maxRecDepth 20000 in
theorem ggX6_levelOf_X1_build : GoodIn wsX6_levelOf wsX1_build := goodIn_r _ [19, 20, 21, 22, 23, 24, 25, 12, 26, 14, 27, 28, 29, 30, 31, 32, 10, 11, 13, 33, 34, 35, 18, 36, 37, 38, 39, 40, 41, 42, 7, 43, 44, 45, 46, 47, 6, 8, 70, 71, 72, 73, 68, 69] (by decide +kernel) (by decide +kernel)
set_option maxRecDepth 20000 in
theorem gX6_levelOf_X1_build : GoodIn wsX6_levelOf (wsV RX6 111 RX1 yX1_build wsX1_build) := goodIn_app (goodIn_of _ (by decide +kernel)) ggX6_levelOf_X1_build
set_option maxRecDepth 20000 in
theorem ggX6_levelOf_X1_symbolOf : GoodIn wsX6_levelOf wsX1_symbolOf := goodIn_r _ [51, 21, 44, 45, 46, 18, 47, 20, 6, 7, 8, 70, 71, 72, 73] (by decide +kernel) (by decide +kernel)
set_option maxRecDepth 20000 in
theorem gX6_levelOf_X1_symbolOf : GoodIn wsX6_levelOf (wsV RX6 114 RX1 yX1_symbolOf wsX1_symbolOf) := goodIn_app (goodIn_of _ (by decide +kernel)) ggX6_levelOf_X1_symbolOf
set_option maxRecDepth 20000 in
theorem ggX6_levelOf_X1_bitOf : GoodIn wsX6_levelOf wsX1_bitOf := goodIn_r _ [41, 21, 42, 7, 43, 44, 45, 46, 18, 47, 20, 6, 8, 70, 71, 72, 73] (by decide +kernel) (by decide +kernel)
set_option maxRecDepth 20000 in
theorem gX6_levelOf_X1_bitOf : GoodIn wsX6_levelOf (wsV RX6 117 RX1 yX1_bitOf wsX1_bitOf) := goodIn_app (goodIn_of _ (by decide +kernel)) ggX6_levelOf_X1_bitOf
set_option maxRecDepth 20000 in
theorem ggX6_levelOf_X1_goalOf : GoodIn wsX6_levelOf wsX1_goalOf := goodIn_r _ [56, 37, 42, 7, 43, 44, 45, 46, 18, 47, 20, 6, 8, 70, 71, 72, 73] (by decide +kernel) (by decide +kernel)
set_option maxRecDepth 20000 in
theorem gX6_levelOf_X1_goalOf : GoodIn wsX6_levelOf (wsV RX6 120 RX1 yX1_goalOf wsX1_goalOf) := goodIn_app (goodIn_of _ (by decide +kernel)) ggX6_levelOf_X1_goalOf
set_option maxRecDepth 20000 in
theorem ggX6_levelOf_X1_originOf : GoodIn wsX6_levelOf wsX1_originOf := goodIn_r _ [60, 22, 44, 45, 46, 18, 47, 20, 6, 7, 8, 70, 71, 72, 73] (by decide +kernel) (by decide +kernel)
set_option maxRecDepth 20000 in
theorem gX6_levelOf_X1_originOf : GoodIn wsX6_levelOf (wsV RX6 123 RX1 yX1_originOf wsX1_originOf) := goodIn_app (goodIn_of _ (by decide +kernel)) ggX6_levelOf_X1_originOf
theorem dX6_levelOf_0 : decode cX6_levelOf 0 = .ok (.iload_n 1, 1) := by decide +kernel
theorem dX6_levelOf_1 : decode cX6_levelOf 1 = .ok (.iconst 4, 1) := by decide +kernel
theorem dX6_levelOf_2 : decode cX6_levelOf 2 = .ok (.invokestatic 60, 3) := by decide +kernel
theorem dX6_levelOf_5 : decode cX6_levelOf 5 = .ok (.ifCond .eq 22, 3) := by decide +kernel
theorem dX6_levelOf_8 : decode cX6_levelOf 8 = .ok (.aload_n 0, 1) := by decide +kernel
theorem dX6_levelOf_9 : decode cX6_levelOf 9 = .ok (.getfield 10, 3) := by decide +kernel
theorem dX6_levelOf_12 : decode cX6_levelOf 12 = .ok (.iload_n 2, 1) := by decide +kernel
theorem dX6_levelOf_13 : decode cX6_levelOf 13 = .ok (.invokevirtual 78, 3) := by decide +kernel
theorem dX6_levelOf_16 : decode cX6_levelOf 16 = .ok (.ifCond .eq 11, 3) := by decide +kernel
theorem dX6_levelOf_19 : decode cX6_levelOf 19 = .ok (.iload_n 3, 1) := by decide +kernel
theorem dX6_levelOf_20 : decode cX6_levelOf 20 = .ok (.iconst 3, 1) := by decide +kernel
theorem dX6_levelOf_21 : decode cX6_levelOf 21 = .ok (.invokestatic 60, 3) := by decide +kernel
theorem dX6_levelOf_24 : decode cX6_levelOf 24 = .ok (.ifCond .ne 6, 3) := by decide +kernel
theorem dX6_levelOf_27 : decode cX6_levelOf 27 = .ok (.ldc 68, 2) := by decide +kernel
theorem dX6_levelOf_29 : decode cX6_levelOf 29 = .ok (.ireturn, 1) := by decide +kernel
theorem dX6_levelOf_30 : decode cX6_levelOf 30 = .ok (.iload_n 1, 1) := by decide +kernel
theorem dX6_levelOf_31 : decode cX6_levelOf 31 = .ok (.iconst 4, 1) := by decide +kernel
theorem dX6_levelOf_32 : decode cX6_levelOf 32 = .ok (.if_icmp .ne 16, 3) := by decide +kernel
theorem dX6_levelOf_35 : decode cX6_levelOf 35 = .ok (.iload_n 3, 1) := by decide +kernel
theorem dX6_levelOf_36 : decode cX6_levelOf 36 = .ok (.iconst 1, 1) := by decide +kernel
theorem dX6_levelOf_37 : decode cX6_levelOf 37 = .ok (.if_icmp .eq 8, 3) := by decide +kernel
theorem dX6_levelOf_40 : decode cX6_levelOf 40 = .ok (.iload_n 3, 1) := by decide +kernel
theorem dX6_levelOf_41 : decode cX6_levelOf 41 = .ok (.iconst 2, 1) := by decide +kernel
theorem dX6_levelOf_42 : decode cX6_levelOf 42 = .ok (.if_icmp .ne 6, 3) := by decide +kernel
theorem dX6_levelOf_45 : decode cX6_levelOf 45 = .ok (.ldc 110, 2) := by decide +kernel
theorem dX6_levelOf_47 : decode cX6_levelOf 47 = .ok (.ireturn, 1) := by decide +kernel
theorem dX6_levelOf_48 : decode cX6_levelOf 48 = .ok (.aload_n 0, 1) := by decide +kernel
theorem dX6_levelOf_49 : decode cX6_levelOf 49 = .ok (.getfield 26, 3) := by decide +kernel
theorem dX6_levelOf_52 : decode cX6_levelOf 52 = .ok (.aload_n 0, 1) := by decide +kernel
theorem dX6_levelOf_53 : decode cX6_levelOf 53 = .ok (.getfield 10, 3) := by decide +kernel
theorem dX6_levelOf_56 : decode cX6_levelOf 56 = .ok (.invokevirtual 111, 3) := by decide +kernel
theorem dX6_levelOf_59 : decode cX6_levelOf 59 = .ok (.iload_n 3, 1) := by decide +kernel
theorem dX6_levelOf_60 : decode cX6_levelOf 60 = .ok (.ifCond .ne 13, 3) := by decide +kernel
theorem dX6_levelOf_63 : decode cX6_levelOf 63 = .ok (.aload_n 0, 1) := by decide +kernel
theorem dX6_levelOf_64 : decode cX6_levelOf 64 = .ok (.getfield 26, 3) := by decide +kernel
theorem dX6_levelOf_67 : decode cX6_levelOf 67 = .ok (.iload_n 1, 1) := by decide +kernel
theorem dX6_levelOf_68 : decode cX6_levelOf 68 = .ok (.iload_n 2, 1) := by decide +kernel
theorem dX6_levelOf_69 : decode cX6_levelOf 69 = .ok (.invokevirtual 114, 3) := by decide +kernel
theorem dX6_levelOf_72 : decode cX6_levelOf 72 = .ok (.ireturn, 1) := by decide +kernel
theorem dX6_levelOf_73 : decode cX6_levelOf 73 = .ok (.iload_n 3, 1) := by decide +kernel
theorem dX6_levelOf_74 : decode cX6_levelOf 74 = .ok (.iconst 1, 1) := by decide +kernel
theorem dX6_levelOf_75 : decode cX6_levelOf 75 = .ok (.if_icmp .ne 13, 3) := by decide +kernel
theorem dX6_levelOf_78 : decode cX6_levelOf 78 = .ok (.aload_n 0, 1) := by decide +kernel
theorem dX6_levelOf_79 : decode cX6_levelOf 79 = .ok (.getfield 26, 3) := by decide +kernel
theorem dX6_levelOf_82 : decode cX6_levelOf 82 = .ok (.iload_n 1, 1) := by decide +kernel
theorem dX6_levelOf_83 : decode cX6_levelOf 83 = .ok (.iload_n 2, 1) := by decide +kernel
theorem dX6_levelOf_84 : decode cX6_levelOf 84 = .ok (.invokevirtual 117, 3) := by decide +kernel
theorem dX6_levelOf_87 : decode cX6_levelOf 87 = .ok (.ireturn, 1) := by decide +kernel
theorem dX6_levelOf_88 : decode cX6_levelOf 88 = .ok (.iload_n 3, 1) := by decide +kernel
theorem dX6_levelOf_89 : decode cX6_levelOf 89 = .ok (.iconst 2, 1) := by decide +kernel
theorem dX6_levelOf_90 : decode cX6_levelOf 90 = .ok (.if_icmp .ne 15, 3) := by decide +kernel
theorem dX6_levelOf_93 : decode cX6_levelOf 93 = .ok (.aload_n 0, 1) := by decide +kernel
theorem dX6_levelOf_94 : decode cX6_levelOf 94 = .ok (.getfield 26, 3) := by decide +kernel
theorem dX6_levelOf_97 : decode cX6_levelOf 97 = .ok (.iload_n 1, 1) := by decide +kernel
theorem dX6_levelOf_98 : decode cX6_levelOf 98 = .ok (.iload_n 2, 1) := by decide +kernel
theorem dX6_levelOf_99 : decode cX6_levelOf 99 = .ok (.invokevirtual 120, 3) := by decide +kernel
theorem dX6_levelOf_102 : decode cX6_levelOf 102 = .ok (.goto 12, 3) := by decide +kernel
theorem dX6_levelOf_105 : decode cX6_levelOf 105 = .ok (.aload_n 0, 1) := by decide +kernel
theorem dX6_levelOf_106 : decode cX6_levelOf 106 = .ok (.getfield 26, 3) := by decide +kernel
theorem dX6_levelOf_109 : decode cX6_levelOf 109 = .ok (.iload_n 1, 1) := by decide +kernel
theorem dX6_levelOf_110 : decode cX6_levelOf 110 = .ok (.iload_n 2, 1) := by decide +kernel
theorem dX6_levelOf_111 : decode cX6_levelOf 111 = .ok (.invokevirtual 123, 3) := by decide +kernel
theorem dX6_levelOf_114 : decode cX6_levelOf 114 = .ok (.ireturn, 1) := by decide +kernel
set_option maxRecDepth 20000 in
theorem ggX6_blockOf_X6_hasBits : GoodIn wsX6_blockOf wsX6_hasBits := goodIn_r _ [12] (by decide +kernel) (by decide +kernel)
set_option maxRecDepth 20000 in
theorem gX6_blockOf_X6_hasBits : GoodIn wsX6_blockOf (va_wsS RX6 126 yX6_hasBits wsX6_hasBits) := goodIn_app (goodIn_of _ (by decide +kernel)) ggX6_blockOf_X6_hasBits
set_option maxRecDepth 20000 in
theorem ggX6_blockOf_X6_isAtMost : GoodIn wsX6_blockOf wsX6_isAtMost := goodIn_r _ [15] (by decide +kernel) (by decide +kernel)
set_option maxRecDepth 20000 in
theorem gX6_blockOf_X6_isAtMost : GoodIn wsX6_blockOf (va_wsS RX6 60 yX6_isAtMost wsX6_isAtMost) := goodIn_app (goodIn_of _ (by decide +kernel)) ggX6_blockOf_X6_isAtMost
set_option maxRecDepth 20000 in
theorem ggX6_blockOf_X6_blocks : GoodIn wsX6_blockOf wsX6_blocks := goodIn_r _ [19, 4, 20, 21, 22, 23, 24, 25, 73, 74, 75, 76, 77, 78, 79, 80, 81] (by decide +kernel) (by decide +kernel)
set_option maxRecDepth 20000 in
theorem gX6_blockOf_X6_blocks : GoodIn wsX6_blockOf (wsV RX6 129 RX6 yX6_blocks wsX6_blocks) := goodIn_app (goodIn_of _ (by decide +kernel)) ggX6_blockOf_X6_blocks
set_option maxRecDepth 20000 in
theorem ggX6_blockOf_X1_build : GoodIn wsX6_blockOf wsX1_build := goodIn_r _ [30, 31, 32, 33, 34, 21, 22, 23, 24, 25, 35, 36, 37, 38, 39, 40, 41, 42, 43, 44, 45, 46, 29, 47, 48, 49, 50, 51, 52, 10, 11, 12, 53, 54, 55, 56, 14, 15, 82, 83, 84, 85, 80, 81] (by decide +kernel) (by decide +kernel)
set_option maxRecDepth 20000 in
theorem gX6_blockOf_X1_build : GoodIn wsX6_blockOf (wsV RX6 111 RX1 yX1_build wsX1_build) := goodIn_app (goodIn_of _ (by decide +kernel)) ggX6_blockOf_X1_build
set_option maxRecDepth 20000 in
theorem ggX6_blockOf_X3_size : GoodIn wsX6_blockOf wsX3_size := goodIn_r _ [24, 25, 80, 81] (by decide +kernel) (by decide +kernel)
set_option maxRecDepth 20000 in
theorem gX6_blockOf_X3_size : GoodIn wsX6_blockOf (wsV RX6 56 RX3 yX3_size wsX3_size) := goodIn_app (goodIn_of _ (by decide +kernel)) ggX6_blockOf_X3_size
set_option maxRecDepth 20000 in
theorem ggX6_blockOf_X1_packed : GoodIn wsX6_blockOf wsX1_packed := goodIn_r _ [60, 49, 50, 51, 29, 52, 32, 10, 11, 12, 53, 54, 55, 56, 31, 14, 15, 82, 83, 84, 85] (by decide +kernel) (by decide +kernel)
set_option maxRecDepth 20000 in
theorem gX6_blockOf_X1_packed : GoodIn wsX6_blockOf (wsV RX6 137 RX1 yX1_packed wsX1_packed) := goodIn_app (goodIn_of _ (by decide +kernel)) ggX6_blockOf_X1_packed
set_option maxRecDepth 20000 in
theorem ggX6_blockOf_X1_ones : GoodIn wsX6_blockOf wsX1_ones := goodIn_r _ [64, 65, 58, 59, 29, 60, 49, 50, 51, 52, 32, 10, 11, 12, 53, 54, 55, 56, 31, 14, 15, 66, 67, 68, 69, 70, 71, 72, 82, 83, 84, 85] (by decide +kernel) (by decide +kernel)
set_option maxRecDepth 20000 in
theorem gX6_blockOf_X1_ones : GoodIn wsX6_blockOf (wsV RX6 141 RX1 yX1_ones wsX1_ones) := goodIn_app (goodIn_of _ (by decide +kernel)) ggX6_blockOf_X1_ones
theorem dX6_blockOf_0 : decode cX6_blockOf 0 = .ok (.iload_n 1, 1) := by decide +kernel
theorem dX6_blockOf_1 : decode cX6_blockOf 1 = .ok (.invokestatic 126, 3) := by decide +kernel
theorem dX6_blockOf_4 : decode cX6_blockOf 4 = .ok (.ifCond .eq 15, 3) := by decide +kernel
theorem dX6_blockOf_7 : decode cX6_blockOf 7 = .ok (.iload_n 2, 1) := by decide +kernel
theorem dX6_blockOf_8 : decode cX6_blockOf 8 = .ok (.ifCond .lt 11, 3) := by decide +kernel
theorem dX6_blockOf_11 : decode cX6_blockOf 11 = .ok (.iload_n 3, 1) := by decide +kernel
theorem dX6_blockOf_12 : decode cX6_blockOf 12 = .ok (.iconst 2, 1) := by decide +kernel
theorem dX6_blockOf_13 : decode cX6_blockOf 13 = .ok (.invokestatic 60, 3) := by decide +kernel
theorem dX6_blockOf_16 : decode cX6_blockOf 16 = .ok (.ifCond .ne 6, 3) := by decide +kernel
theorem dX6_blockOf_19 : decode cX6_blockOf 19 = .ok (.ldc 68, 2) := by decide +kernel
theorem dX6_blockOf_21 : decode cX6_blockOf 21 = .ok (.ireturn, 1) := by decide +kernel
theorem dX6_blockOf_22 : decode cX6_blockOf 22 = .ok (.iload_n 2, 1) := by decide +kernel
theorem dX6_blockOf_23 : decode cX6_blockOf 23 = .ok (.aload_n 0, 1) := by decide +kernel
theorem dX6_blockOf_24 : decode cX6_blockOf 24 = .ok (.invokevirtual 129, 3) := by decide +kernel
theorem dX6_blockOf_27 : decode cX6_blockOf 27 = .ok (.if_icmp .lt 6, 3) := by decide +kernel
theorem dX6_blockOf_30 : decode cX6_blockOf 30 = .ok (.ldc 110, 2) := by decide +kernel
theorem dX6_blockOf_32 : decode cX6_blockOf 32 = .ok (.ireturn, 1) := by decide +kernel
theorem dX6_blockOf_33 : decode cX6_blockOf 33 = .ok (.aload_n 0, 1) := by decide +kernel
theorem dX6_blockOf_34 : decode cX6_blockOf 34 = .ok (.getfield 26, 3) := by decide +kernel
theorem dX6_blockOf_37 : decode cX6_blockOf 37 = .ok (.aload_n 0, 1) := by decide +kernel
theorem dX6_blockOf_38 : decode cX6_blockOf 38 = .ok (.getfield 10, 3) := by decide +kernel
theorem dX6_blockOf_41 : decode cX6_blockOf 41 = .ok (.invokevirtual 111, 3) := by decide +kernel
theorem dX6_blockOf_44 : decode cX6_blockOf 44 = .ok (.iload_n 2, 1) := by decide +kernel
theorem dX6_blockOf_45 : decode cX6_blockOf 45 = .ok (.bipush 8, 2) := by decide +kernel
theorem dX6_blockOf_47 : decode cX6_blockOf 47 = .ok (.imul, 1) := by decide +kernel
theorem dX6_blockOf_48 : decode cX6_blockOf 48 = .ok (.istore 4, 2) := by decide +kernel
theorem dX6_blockOf_50 : decode cX6_blockOf 50 = .ok (.iload 4, 2) := by decide +kernel
theorem dX6_blockOf_52 : decode cX6_blockOf 52 = .ok (.bipush 8, 2) := by decide +kernel
theorem dX6_blockOf_54 : decode cX6_blockOf 54 = .ok (.iadd, 1) := by decide +kernel
theorem dX6_blockOf_55 : decode cX6_blockOf 55 = .ok (.aload_n 0, 1) := by decide +kernel
theorem dX6_blockOf_56 : decode cX6_blockOf 56 = .ok (.getfield 10, 3) := by decide +kernel
theorem dX6_blockOf_59 : decode cX6_blockOf 59 = .ok (.invokevirtual 56, 3) := by decide +kernel
theorem dX6_blockOf_62 : decode cX6_blockOf 62 = .ok (.invokestatic 132, 3) := by decide +kernel
theorem dX6_blockOf_65 : decode cX6_blockOf 65 = .ok (.istore 5, 2) := by decide +kernel
theorem dX6_blockOf_67 : decode cX6_blockOf 67 = .ok (.iload_n 3, 1) := by decide +kernel
theorem dX6_blockOf_68 : decode cX6_blockOf 68 = .ok (.ifCond .ne 17, 3) := by decide +kernel
theorem dX6_blockOf_71 : decode cX6_blockOf 71 = .ok (.aload_n 0, 1) := by decide +kernel
theorem dX6_blockOf_72 : decode cX6_blockOf 72 = .ok (.getfield 26, 3) := by decide +kernel
theorem dX6_blockOf_75 : decode cX6_blockOf 75 = .ok (.iload_n 1, 1) := by decide +kernel
theorem dX6_blockOf_76 : decode cX6_blockOf 76 = .ok (.iload 4, 2) := by decide +kernel
theorem dX6_blockOf_78 : decode cX6_blockOf 78 = .ok (.iload 5, 2) := by decide +kernel
theorem dX6_blockOf_80 : decode cX6_blockOf 80 = .ok (.invokevirtual 137, 3) := by decide +kernel
theorem dX6_blockOf_83 : decode cX6_blockOf 83 = .ok (.l2i, 1) := by decide +kernel
theorem dX6_blockOf_84 : decode cX6_blockOf 84 = .ok (.ireturn, 1) := by decide +kernel
theorem dX6_blockOf_85 : decode cX6_blockOf 85 = .ok (.iload_n 3, 1) := by decide +kernel
theorem dX6_blockOf_86 : decode cX6_blockOf 86 = .ok (.iconst 1, 1) := by decide +kernel
theorem dX6_blockOf_87 : decode cX6_blockOf 87 = .ok (.if_icmp .ne 18, 3) := by decide +kernel
theorem dX6_blockOf_90 : decode cX6_blockOf 90 = .ok (.aload_n 0, 1) := by decide +kernel
theorem dX6_blockOf_91 : decode cX6_blockOf 91 = .ok (.getfield 26, 3) := by decide +kernel
theorem dX6_blockOf_94 : decode cX6_blockOf 94 = .ok (.iload_n 1, 1) := by decide +kernel
theorem dX6_blockOf_95 : decode cX6_blockOf 95 = .ok (.iload 4, 2) := by decide +kernel
theorem dX6_blockOf_97 : decode cX6_blockOf 97 = .ok (.iload 5, 2) := by decide +kernel
theorem dX6_blockOf_99 : decode cX6_blockOf 99 = .ok (.invokevirtual 141, 3) := by decide +kernel
theorem dX6_blockOf_102 : decode cX6_blockOf 102 = .ok (.goto 14, 3) := by decide +kernel
theorem dX6_blockOf_105 : decode cX6_blockOf 105 = .ok (.aload_n 0, 1) := by decide +kernel
theorem dX6_blockOf_106 : decode cX6_blockOf 106 = .ok (.getfield 26, 3) := by decide +kernel
theorem dX6_blockOf_109 : decode cX6_blockOf 109 = .ok (.iload_n 1, 1) := by decide +kernel
theorem dX6_blockOf_110 : decode cX6_blockOf 110 = .ok (.iconst 0, 1) := by decide +kernel
theorem dX6_blockOf_111 : decode cX6_blockOf 111 = .ok (.iload 4, 2) := by decide +kernel
theorem dX6_blockOf_113 : decode cX6_blockOf 113 = .ok (.invokevirtual 141, 3) := by decide +kernel
theorem dX6_blockOf_116 : decode cX6_blockOf 116 = .ok (.ireturn, 1) := by decide +kernel
set_option maxRecDepth 20000 in
theorem ggX6_bits_X6_hasBits : GoodIn wsX6_bits wsX6_hasBits := goodIn_r _ [7] (by decide +kernel) (by decide +kernel)
set_option maxRecDepth 20000 in
theorem gX6_bits_X6_hasBits : GoodIn wsX6_bits (va_wsS RX6 126 yX6_hasBits wsX6_hasBits) := goodIn_app (goodIn_of _ (by decide +kernel)) ggX6_bits_X6_hasBits
set_option maxRecDepth 20000 in
theorem ggX6_bits_X1_build : GoodIn wsX6_bits wsX1_build := goodIn_r _ [12, 13, 14, 15, 16, 17, 18, 19, 20, 21, 22, 23, 24, 25, 26, 27, 28, 29, 30, 31, 32, 33, 11, 34, 35, 36, 37, 38, 39, 5, 6, 7, 40, 41, 42, 43, 44, 45, 58, 59, 60, 61, 62, 63] (by decide +kernel) (by decide +kernel)
set_option maxRecDepth 20000 in
theorem gX6_bits_X1_build : GoodIn wsX6_bits (wsV RX6 111 RX1 yX1_build wsX1_build) := goodIn_app (goodIn_of _ (by decide +kernel)) ggX6_bits_X1_build
set_option maxRecDepth 20000 in
theorem ggX6_bits_X3_size : GoodIn wsX6_bits wsX3_size := goodIn_r _ [20, 21, 62, 63] (by decide +kernel) (by decide +kernel)
set_option maxRecDepth 20000 in
theorem gX6_bits_X3_size : GoodIn wsX6_bits (wsV RX6 56 RX3 yX3_size wsX3_size) := goodIn_app (goodIn_of _ (by decide +kernel)) ggX6_bits_X3_size
set_option maxRecDepth 20000 in
theorem ggX6_bits_X1_packed : GoodIn wsX6_bits wsX1_packed := goodIn_r _ [50, 36, 37, 38, 11, 39, 14, 5, 6, 7, 40, 41, 42, 43, 13, 44, 45, 58, 59, 60, 61] (by decide +kernel) (by decide +kernel)
set_option maxRecDepth 20000 in
theorem gX6_bits_X1_packed : GoodIn wsX6_bits (wsV RX6 137 RX1 yX1_packed wsX1_packed) := goodIn_app (goodIn_of _ (by decide +kernel)) ggX6_bits_X1_packed
theorem dX6_bits_0 : decode cX6_bits 0 = .ok (.iload_n 1, 1) := by decide +kernel
theorem dX6_bits_1 : decode cX6_bits 1 = .ok (.invokestatic 126, 3) := by decide +kernel
theorem dX6_bits_4 : decode cX6_bits 4 = .ok (.ifCond .ne 7, 3) := by decide +kernel
theorem dX6_bits_7 : decode cX6_bits 7 = .ok (.ldc2_w 145, 3) := by decide +kernel
theorem dX6_bits_10 : decode cX6_bits 10 = .ok (.lreturn, 1) := by decide +kernel
theorem dX6_bits_11 : decode cX6_bits 11 = .ok (.aload_n 0, 1) := by decide +kernel
theorem dX6_bits_12 : decode cX6_bits 12 = .ok (.getfield 26, 3) := by decide +kernel
theorem dX6_bits_15 : decode cX6_bits 15 = .ok (.aload_n 0, 1) := by decide +kernel
theorem dX6_bits_16 : decode cX6_bits 16 = .ok (.getfield 10, 3) := by decide +kernel
theorem dX6_bits_19 : decode cX6_bits 19 = .ok (.invokevirtual 111, 3) := by decide +kernel
theorem dX6_bits_22 : decode cX6_bits 22 = .ok (.aload_n 0, 1) := by decide +kernel
theorem dX6_bits_23 : decode cX6_bits 23 = .ok (.getfield 26, 3) := by decide +kernel
theorem dX6_bits_26 : decode cX6_bits 26 = .ok (.iload_n 1, 1) := by decide +kernel
theorem dX6_bits_27 : decode cX6_bits 27 = .ok (.iconst 0, 1) := by decide +kernel
theorem dX6_bits_28 : decode cX6_bits 28 = .ok (.aload_n 0, 1) := by decide +kernel
theorem dX6_bits_29 : decode cX6_bits 29 = .ok (.getfield 10, 3) := by decide +kernel
theorem dX6_bits_32 : decode cX6_bits 32 = .ok (.invokevirtual 56, 3) := by decide +kernel
theorem dX6_bits_35 : decode cX6_bits 35 = .ok (.invokevirtual 137, 3) := by decide +kernel
theorem dX6_bits_38 : decode cX6_bits 38 = .ok (.lreturn, 1) := by decide +kernel
set_option maxRecDepth 20000 in
theorem ggX6_symbolAt_X3_hasPlace : GoodIn wsX6_symbolAt wsX3_hasPlace := goodIn_r _ [8, 9, 23, 24] (by decide +kernel) (by decide +kernel)
set_option maxRecDepth 20000 in
theorem gX6_symbolAt_X3_hasPlace : GoodIn wsX6_symbolAt (wsV RX6 78 RX3 yX3_hasPlace wsX3_hasPlace) := goodIn_app (goodIn_of _ (by decide +kernel)) ggX6_symbolAt_X3_hasPlace
set_option maxRecDepth 20000 in
theorem ggX6_symbolAt_X3_at : GoodIn wsX6_symbolAt wsX3_at := goodIn_r _ [13, 14, 15, 5, 6, 7, 8, 9, 23, 24] (by decide +kernel) (by decide +kernel)
set_option maxRecDepth 20000 in
theorem gX6_symbolAt_X3_at : GoodIn wsX6_symbolAt (wsV RX6 81 RX3 yX3_at wsX3_at) := goodIn_app (goodIn_of _ (by decide +kernel)) ggX6_symbolAt_X3_at
theorem dX6_symbolAt_0 : decode cX6_symbolAt 0 = .ok (.iload_n 1, 1) := by decide +kernel
theorem dX6_symbolAt_1 : decode cX6_symbolAt 1 = .ok (.ifCond .ge 6, 3) := by decide +kernel
theorem dX6_symbolAt_4 : decode cX6_symbolAt 4 = .ok (.ldc 68, 2) := by decide +kernel
theorem dX6_symbolAt_6 : decode cX6_symbolAt 6 = .ok (.ireturn, 1) := by decide +kernel
theorem dX6_symbolAt_7 : decode cX6_symbolAt 7 = .ok (.aload_n 0, 1) := by decide +kernel
theorem dX6_symbolAt_8 : decode cX6_symbolAt 8 = .ok (.getfield 10, 3) := by decide +kernel
theorem dX6_symbolAt_11 : decode cX6_symbolAt 11 = .ok (.iload_n 1, 1) := by decide +kernel
theorem dX6_symbolAt_12 : decode cX6_symbolAt 12 = .ok (.invokevirtual 78, 3) := by decide +kernel
theorem dX6_symbolAt_15 : decode cX6_symbolAt 15 = .ok (.ifCond .eq 14, 3) := by decide +kernel
theorem dX6_symbolAt_18 : decode cX6_symbolAt 18 = .ok (.aload_n 0, 1) := by decide +kernel
theorem dX6_symbolAt_19 : decode cX6_symbolAt 19 = .ok (.getfield 10, 3) := by decide +kernel
theorem dX6_symbolAt_22 : decode cX6_symbolAt 22 = .ok (.iload_n 1, 1) := by decide +kernel
theorem dX6_symbolAt_23 : decode cX6_symbolAt 23 = .ok (.invokevirtual 81, 3) := by decide +kernel
theorem dX6_symbolAt_26 : decode cX6_symbolAt 26 = .ok (.goto 5, 3) := by decide +kernel
theorem dX6_symbolAt_29 : decode cX6_symbolAt 29 = .ok (.ldc 110, 2) := by decide +kernel
theorem dX6_symbolAt_31 : decode cX6_symbolAt 31 = .ok (.ireturn, 1) := by decide +kernel
set_option maxRecDepth 20000 in
theorem ggX6_rank_X6_isSymbol : GoodIn wsX6_rank wsX6_isSymbol := goodIn_r _ [7] (by decide +kernel) (by decide +kernel)
set_option maxRecDepth 20000 in
theorem gX6_rank_X6_isSymbol : GoodIn wsX6_rank (va_wsS RX6 64 yX6_isSymbol wsX6_isSymbol) := goodIn_app (goodIn_of _ (by decide +kernel)) ggX6_rank_X6_isSymbol
set_option maxRecDepth 20000 in
theorem ggX6_rank_X3_size : GoodIn wsX6_rank wsX3_size := goodIn_r _ [12, 13, 43, 44] (by decide +kernel) (by decide +kernel)
set_option maxRecDepth 20000 in
theorem gX6_rank_X3_size : GoodIn wsX6_rank (wsV RX6 56 RX3 yX3_size wsX3_size) := goodIn_app (goodIn_of _ (by decide +kernel)) ggX6_rank_X3_size
set_option maxRecDepth 20000 in
theorem ggX6_rank_X6_isAtMost : GoodIn wsX6_rank wsX6_isAtMost := goodIn_r _ [16] (by decide +kernel) (by decide +kernel)
set_option maxRecDepth 20000 in
theorem gX6_rank_X6_isAtMost : GoodIn wsX6_rank (va_wsS RX6 60 yX6_isAtMost wsX6_isAtMost) := goodIn_app (goodIn_of _ (by decide +kernel)) ggX6_rank_X6_isAtMost
set_option maxRecDepth 20000 in
theorem ggX6_rank_X4_fill : GoodIn wsX6_rank wsX4_fill := goodIn_r _ [21, 22, 23, 24, 25, 11, 26, 27, 28, 29, 30, 31, 13, 5, 6, 7, 45, 43, 44] (by decide +kernel) (by decide +kernel)
set_option maxRecDepth 20000 in
theorem gX6_rank_X4_fill : GoodIn wsX6_rank (wsV RX6 102 RX4 yX4_fill wsX4_fill) := goodIn_app (goodIn_of _ (by decide +kernel)) ggX6_rank_X4_fill
set_option maxRecDepth 20000 in
theorem ggX6_rank_X4_times : GoodIn wsX6_rank wsX4_times := goodIn_r _ [35, 22, 5, 6, 7, 45] (by decide +kernel) (by decide +kernel)
set_option maxRecDepth 20000 in
theorem gX6_rank_X4_times : GoodIn wsX6_rank (wsV RX6 147 RX4 yX4_times wsX4_times) := goodIn_app (goodIn_of _ (by decide +kernel)) ggX6_rank_X4_times
theorem dX6_rank_0 : decode cX6_rank 0 = .ok (.iload_n 1, 1) := by decide +kernel
theorem dX6_rank_1 : decode cX6_rank 1 = .ok (.invokestatic 64, 3) := by decide +kernel
theorem dX6_rank_4 : decode cX6_rank 4 = .ok (.ifCond .eq 17, 3) := by decide +kernel
theorem dX6_rank_7 : decode cX6_rank 7 = .ok (.iload_n 2, 1) := by decide +kernel
theorem dX6_rank_8 : decode cX6_rank 8 = .ok (.aload_n 0, 1) := by decide +kernel
theorem dX6_rank_9 : decode cX6_rank 9 = .ok (.getfield 10, 3) := by decide +kernel
theorem dX6_rank_12 : decode cX6_rank 12 = .ok (.invokevirtual 56, 3) := by decide +kernel
theorem dX6_rank_15 : decode cX6_rank 15 = .ok (.invokestatic 60, 3) := by decide +kernel
theorem dX6_rank_18 : decode cX6_rank 18 = .ok (.ifCond .ne 6, 3) := by decide +kernel
theorem dX6_rank_21 : decode cX6_rank 21 = .ok (.ldc 68, 2) := by decide +kernel
theorem dX6_rank_23 : decode cX6_rank 23 = .ok (.ireturn, 1) := by decide +kernel
theorem dX6_rank_24 : decode cX6_rank 24 = .ok (.aload_n 0, 1) := by decide +kernel
theorem dX6_rank_25 : decode cX6_rank 25 = .ok (.getfield 33, 3) := by decide +kernel
theorem dX6_rank_28 : decode cX6_rank 28 = .ok (.aload_n 0, 1) := by decide +kernel
theorem dX6_rank_29 : decode cX6_rank 29 = .ok (.getfield 10, 3) := by decide +kernel
theorem dX6_rank_32 : decode cX6_rank 32 = .ok (.iconst 0, 1) := by decide +kernel
theorem dX6_rank_33 : decode cX6_rank 33 = .ok (.iload_n 2, 1) := by decide +kernel
theorem dX6_rank_34 : decode cX6_rank 34 = .ok (.invokevirtual 102, 3) := by decide +kernel
theorem dX6_rank_37 : decode cX6_rank 37 = .ok (.aload_n 0, 1) := by decide +kernel
theorem dX6_rank_38 : decode cX6_rank 38 = .ok (.getfield 33, 3) := by decide +kernel
theorem dX6_rank_41 : decode cX6_rank 41 = .ok (.iload_n 1, 1) := by decide +kernel
theorem dX6_rank_42 : decode cX6_rank 42 = .ok (.invokevirtual 147, 3) := by decide +kernel
theorem dX6_rank_45 : decode cX6_rank 45 = .ok (.ireturn, 1) := by decide +kernel
set_option maxRecDepth 20000 in
theorem ggX6_select_X6_isSymbol : GoodIn wsX6_select wsX6_isSymbol := goodIn_r _ [7] (by decide +kernel) (by decide +kernel)
set_option maxRecDepth 20000 in
theorem gX6_select_X6_isSymbol : GoodIn wsX6_select (va_wsS RX6 64 yX6_isSymbol wsX6_isSymbol) := goodIn_app (goodIn_of _ (by decide +kernel)) ggX6_select_X6_isSymbol
set_option maxRecDepth 20000 in
theorem ggX6_select_X3_size : GoodIn wsX6_select wsX3_size := goodIn_r _ [12, 13, 30, 31] (by decide +kernel) (by decide +kernel)
set_option maxRecDepth 20000 in
theorem gX6_select_X3_size : GoodIn wsX6_select (wsV RX6 56 RX3 yX3_size wsX3_size) := goodIn_app (goodIn_of _ (by decide +kernel)) ggX6_select_X3_size
set_option maxRecDepth 20000 in
theorem ggX6_select_X3_at : GoodIn wsX6_select wsX3_at := goodIn_r _ [17, 18, 19, 20, 21, 11, 22, 13, 30, 31] (by decide +kernel) (by decide +kernel)
set_option maxRecDepth 20000 in
theorem gX6_select_X3_at : GoodIn wsX6_select (wsV RX6 81 RX3 yX3_at wsX3_at) := goodIn_app (goodIn_of _ (by decide +kernel)) ggX6_select_X3_at
theorem dX6_select_0 : decode cX6_select 0 = .ok (.iload_n 1, 1) := by decide +kernel
theorem dX6_select_1 : decode cX6_select 1 = .ok (.invokestatic 64, 3) := by decide +kernel
theorem dX6_select_4 : decode cX6_select 4 = .ok (.ifCond .eq 7, 3) := by decide +kernel
theorem dX6_select_7 : decode cX6_select 7 = .ok (.iload_n 2, 1) := by decide +kernel
theorem dX6_select_8 : decode cX6_select 8 = .ok (.ifCond .ge 6, 3) := by decide +kernel
theorem dX6_select_11 : decode cX6_select 11 = .ok (.ldc 68, 2) := by decide +kernel
theorem dX6_select_13 : decode cX6_select 13 = .ok (.ireturn, 1) := by decide +kernel
theorem dX6_select_14 : decode cX6_select 14 = .ok (.iconst 0, 1) := by decide +kernel
theorem dX6_select_15 : decode cX6_select 15 = .ok (.istore_n 3, 1) := by decide +kernel
theorem dX6_select_16 : decode cX6_select 16 = .ok (.iconst 0, 1) := by decide +kernel
theorem dX6_select_17 : decode cX6_select 17 = .ok (.istore 4, 2) := by decide +kernel
theorem dX6_select_19 : decode cX6_select 19 = .ok (.iload 4, 2) := by decide +kernel
theorem dX6_select_21 : decode cX6_select 21 = .ok (.aload_n 0, 1) := by decide +kernel
theorem dX6_select_22 : decode cX6_select 22 = .ok (.getfield 10, 3) := by decide +kernel
theorem dX6_select_25 : decode cX6_select 25 = .ok (.invokevirtual 56, 3) := by decide +kernel
theorem dX6_select_28 : decode cX6_select 28 = .ok (.if_icmp .ge 33, 3) := by decide +kernel
theorem dX6_select_31 : decode cX6_select 31 = .ok (.aload_n 0, 1) := by decide +kernel
theorem dX6_select_32 : decode cX6_select 32 = .ok (.getfield 10, 3) := by decide +kernel
theorem dX6_select_35 : decode cX6_select 35 = .ok (.iload 4, 2) := by decide +kernel
theorem dX6_select_37 : decode cX6_select 37 = .ok (.invokevirtual 81, 3) := by decide +kernel
theorem dX6_select_40 : decode cX6_select 40 = .ok (.iload_n 1, 1) := by decide +kernel
theorem dX6_select_41 : decode cX6_select 41 = .ok (.if_icmp .ne 14, 3) := by decide +kernel
theorem dX6_select_44 : decode cX6_select 44 = .ok (.iload_n 3, 1) := by decide +kernel
theorem dX6_select_45 : decode cX6_select 45 = .ok (.iload_n 2, 1) := by decide +kernel
theorem dX6_select_46 : decode cX6_select 46 = .ok (.if_icmp .ne 6, 3) := by decide +kernel
theorem dX6_select_49 : decode cX6_select 49 = .ok (.iload 4, 2) := by decide +kernel
theorem dX6_select_51 : decode cX6_select 51 = .ok (.ireturn, 1) := by decide +kernel
theorem dX6_select_52 : decode cX6_select 52 = .ok (.iinc 3 1, 3) := by decide +kernel
theorem dX6_select_55 : decode cX6_select 55 = .ok (.iinc 4 1, 3) := by decide +kernel
theorem dX6_select_58 : decode cX6_select 58 = .ok (.goto (-39), 3) := by decide +kernel
theorem dX6_select_61 : decode cX6_select 61 = .ok (.ldc 110, 2) := by decide +kernel
theorem dX6_select_63 : decode cX6_select 63 = .ok (.ireturn, 1) := by decide +kernel
set_option maxRecDepth 20000 in
theorem ggX6_smallest_X3_hasSpan : GoodIn wsX6_smallest wsX3_hasSpan := goodIn_r _ [8, 9, 43, 44] (by decide +kernel) (by decide +kernel)
set_option maxRecDepth 20000 in
theorem gX6_smallest_X3_hasSpan : GoodIn wsX6_smallest (wsV RX6 95 RX3 yX3_hasSpan wsX3_hasSpan) := goodIn_app (goodIn_of _ (by decide +kernel)) ggX6_smallest_X3_hasSpan
set_option maxRecDepth 20000 in
theorem ggX6_smallest_X4_fill : GoodIn wsX6_smallest wsX4_fill := goodIn_r _ [14, 15, 16, 17, 18, 7, 19, 20, 21, 22, 23, 24, 9, 25, 26, 27, 45, 43, 44] (by decide +kernel) (by decide +kernel)
set_option maxRecDepth 20000 in
theorem gX6_smallest_X4_fill : GoodIn wsX6_smallest (wsV RX6 102 RX4 yX4_fill wsX4_fill) := goodIn_app (goodIn_of _ (by decide +kernel)) ggX6_smallest_X4_fill
set_option maxRecDepth 20000 in
theorem ggX6_smallest_X4_symbolAtSorted : GoodIn wsX6_smallest wsX4_symbolAtSorted := goodIn_r _ [31, 15, 45] (by decide +kernel) (by decide +kernel)
set_option maxRecDepth 20000 in
theorem gX6_smallest_X4_symbolAtSorted : GoodIn wsX6_smallest (wsV RX6 150 RX4 yX4_symbolAtSorted wsX4_symbolAtSorted) := goodIn_app (goodIn_of _ (by decide +kernel)) ggX6_smallest_X4_symbolAtSorted
set_option maxRecDepth 20000 in
theorem ggX6_smallest_X6_foundOr : GoodIn wsX6_smallest wsX6_foundOr := goodIn_r _ [34, 35] (by decide +kernel) (by decide +kernel)
set_option maxRecDepth 20000 in
theorem gX6_smallest_X6_foundOr : GoodIn wsX6_smallest (va_wsS RX6 153 yX6_foundOr wsX6_foundOr) := goodIn_app (goodIn_of _ (by decide +kernel)) ggX6_smallest_X6_foundOr
theorem dX6_smallest_0 : decode cX6_smallest 0 = .ok (.aload_n 0, 1) := by decide +kernel
theorem dX6_smallest_1 : decode cX6_smallest 1 = .ok (.getfield 10, 3) := by decide +kernel
theorem dX6_smallest_4 : decode cX6_smallest 4 = .ok (.iload_n 1, 1) := by decide +kernel
theorem dX6_smallest_5 : decode cX6_smallest 5 = .ok (.iload_n 2, 1) := by decide +kernel
theorem dX6_smallest_6 : decode cX6_smallest 6 = .ok (.invokevirtual 95, 3) := by decide +kernel
theorem dX6_smallest_9 : decode cX6_smallest 9 = .ok (.ifCond .eq 7, 3) := by decide +kernel
theorem dX6_smallest_12 : decode cX6_smallest 12 = .ok (.iload_n 3, 1) := by decide +kernel
theorem dX6_smallest_13 : decode cX6_smallest 13 = .ok (.ifCond .ge 6, 3) := by decide +kernel
theorem dX6_smallest_16 : decode cX6_smallest 16 = .ok (.ldc 68, 2) := by decide +kernel
theorem dX6_smallest_18 : decode cX6_smallest 18 = .ok (.ireturn, 1) := by decide +kernel
theorem dX6_smallest_19 : decode cX6_smallest 19 = .ok (.aload_n 0, 1) := by decide +kernel
theorem dX6_smallest_20 : decode cX6_smallest 20 = .ok (.getfield 33, 3) := by decide +kernel
theorem dX6_smallest_23 : decode cX6_smallest 23 = .ok (.aload_n 0, 1) := by decide +kernel
theorem dX6_smallest_24 : decode cX6_smallest 24 = .ok (.getfield 10, 3) := by decide +kernel
theorem dX6_smallest_27 : decode cX6_smallest 27 = .ok (.iload_n 1, 1) := by decide +kernel
theorem dX6_smallest_28 : decode cX6_smallest 28 = .ok (.iload_n 2, 1) := by decide +kernel
theorem dX6_smallest_29 : decode cX6_smallest 29 = .ok (.invokevirtual 102, 3) := by decide +kernel
theorem dX6_smallest_32 : decode cX6_smallest 32 = .ok (.aload_n 0, 1) := by decide +kernel
theorem dX6_smallest_33 : decode cX6_smallest 33 = .ok (.getfield 33, 3) := by decide +kernel
theorem dX6_smallest_36 : decode cX6_smallest 36 = .ok (.iload_n 3, 1) := by decide +kernel
theorem dX6_smallest_37 : decode cX6_smallest 37 = .ok (.invokevirtual 150, 3) := by decide +kernel
theorem dX6_smallest_40 : decode cX6_smallest 40 = .ok (.invokestatic 153, 3) := by decide +kernel
theorem dX6_smallest_43 : decode cX6_smallest 43 = .ok (.ireturn, 1) := by decide +kernel
set_option maxRecDepth 20000 in
theorem ggX6_below_X3_hasSpan : GoodIn wsX6_below wsX3_hasSpan := goodIn_r _ [8, 9, 42, 43] (by decide +kernel) (by decide +kernel)
set_option maxRecDepth 20000 in
theorem gX6_below_X3_hasSpan : GoodIn wsX6_below (wsV RX6 95 RX3 yX3_hasSpan wsX3_hasSpan) := goodIn_app (goodIn_of _ (by decide +kernel)) ggX6_below_X3_hasSpan
set_option maxRecDepth 20000 in
theorem ggX6_below_X6_isAtMost : GoodIn wsX6_below wsX6_isAtMost := goodIn_r _ [13] (by decide +kernel) (by decide +kernel)
set_option maxRecDepth 20000 in
theorem gX6_below_X6_isAtMost : GoodIn wsX6_below (va_wsS RX6 60 yX6_isAtMost wsX6_isAtMost) := goodIn_app (goodIn_of _ (by decide +kernel)) ggX6_below_X6_isAtMost
set_option maxRecDepth 20000 in
theorem ggX6_below_X4_fill : GoodIn wsX6_below wsX4_fill := goodIn_r _ [18, 19, 20, 21, 22, 7, 23, 24, 25, 26, 27, 28, 9, 29, 12, 30, 44, 42, 43] (by decide +kernel) (by decide +kernel)
set_option maxRecDepth 20000 in
theorem gX6_below_X4_fill : GoodIn wsX6_below (wsV RX6 102 RX4 yX4_fill wsX4_fill) := goodIn_app (goodIn_of _ (by decide +kernel)) ggX6_below_X4_fill
set_option maxRecDepth 20000 in
theorem ggX6_below_X4_timesBelow : GoodIn wsX6_below wsX4_timesBelow := goodIn_r _ [34, 19, 44] (by decide +kernel) (by decide +kernel)
set_option maxRecDepth 20000 in
theorem gX6_below_X4_timesBelow : GoodIn wsX6_below (wsV RX6 156 RX4 yX4_timesBelow wsX4_timesBelow) := goodIn_app (goodIn_of _ (by decide +kernel)) ggX6_below_X4_timesBelow
theorem dX6_below_0 : decode cX6_below 0 = .ok (.aload_n 0, 1) := by decide +kernel
theorem dX6_below_1 : decode cX6_below 1 = .ok (.getfield 10, 3) := by decide +kernel
theorem dX6_below_4 : decode cX6_below 4 = .ok (.iload_n 1, 1) := by decide +kernel
theorem dX6_below_5 : decode cX6_below 5 = .ok (.iload_n 2, 1) := by decide +kernel
theorem dX6_below_6 : decode cX6_below 6 = .ok (.invokevirtual 95, 3) := by decide +kernel
theorem dX6_below_9 : decode cX6_below 9 = .ok (.ifCond .eq 12, 3) := by decide +kernel
theorem dX6_below_12 : decode cX6_below 12 = .ok (.iload_n 3, 1) := by decide +kernel
theorem dX6_below_13 : decode cX6_below 13 = .ok (.bipush 16, 2) := by decide +kernel
theorem dX6_below_15 : decode cX6_below 15 = .ok (.invokestatic 60, 3) := by decide +kernel
theorem dX6_below_18 : decode cX6_below 18 = .ok (.ifCond .ne 6, 3) := by decide +kernel
theorem dX6_below_21 : decode cX6_below 21 = .ok (.ldc 68, 2) := by decide +kernel
theorem dX6_below_23 : decode cX6_below 23 = .ok (.ireturn, 1) := by decide +kernel
theorem dX6_below_24 : decode cX6_below 24 = .ok (.aload_n 0, 1) := by decide +kernel
theorem dX6_below_25 : decode cX6_below 25 = .ok (.getfield 33, 3) := by decide +kernel
theorem dX6_below_28 : decode cX6_below 28 = .ok (.aload_n 0, 1) := by decide +kernel
theorem dX6_below_29 : decode cX6_below 29 = .ok (.getfield 10, 3) := by decide +kernel
theorem dX6_below_32 : decode cX6_below 32 = .ok (.iload_n 1, 1) := by decide +kernel
theorem dX6_below_33 : decode cX6_below 33 = .ok (.iload_n 2, 1) := by decide +kernel
theorem dX6_below_34 : decode cX6_below 34 = .ok (.invokevirtual 102, 3) := by decide +kernel
theorem dX6_below_37 : decode cX6_below 37 = .ok (.aload_n 0, 1) := by decide +kernel
theorem dX6_below_38 : decode cX6_below 38 = .ok (.getfield 33, 3) := by decide +kernel
theorem dX6_below_41 : decode cX6_below 41 = .ok (.iload_n 3, 1) := by decide +kernel
theorem dX6_below_42 : decode cX6_below 42 = .ok (.invokevirtual 156, 3) := by decide +kernel
theorem dX6_below_45 : decode cX6_below 45 = .ok (.ireturn, 1) := by decide +kernel
set_option maxRecDepth 20000 in
theorem ggX6_notBelow_X3_hasSpan : GoodIn wsX6_notBelow wsX3_hasSpan := goodIn_r _ [8, 9, 48, 49] (by decide +kernel) (by decide +kernel)
set_option maxRecDepth 20000 in
theorem gX6_notBelow_X3_hasSpan : GoodIn wsX6_notBelow (wsV RX6 95 RX3 yX3_hasSpan wsX3_hasSpan) := goodIn_app (goodIn_of _ (by decide +kernel)) ggX6_notBelow_X3_hasSpan
set_option maxRecDepth 20000 in
theorem ggX6_notBelow_X6_isSymbol : GoodIn wsX6_notBelow wsX6_isSymbol := goodIn_r _ [13] (by decide +kernel) (by decide +kernel)
set_option maxRecDepth 20000 in
theorem gX6_notBelow_X6_isSymbol : GoodIn wsX6_notBelow (va_wsS RX6 64 yX6_isSymbol wsX6_isSymbol) := goodIn_app (goodIn_of _ (by decide +kernel)) ggX6_notBelow_X6_isSymbol
set_option maxRecDepth 20000 in
theorem ggX6_notBelow_X4_fill : GoodIn wsX6_notBelow wsX4_fill := goodIn_r _ [18, 19, 20, 21, 22, 7, 23, 24, 25, 26, 27, 28, 9, 11, 12, 13, 50, 48, 49] (by decide +kernel) (by decide +kernel)
set_option maxRecDepth 20000 in
theorem gX6_notBelow_X4_fill : GoodIn wsX6_notBelow (wsV RX6 102 RX4 yX4_fill wsX4_fill) := goodIn_app (goodIn_of _ (by decide +kernel)) ggX6_notBelow_X4_fill
set_option maxRecDepth 20000 in
theorem ggX6_notBelow_X4_leastFrom : GoodIn wsX6_notBelow wsX4_leastFrom := goodIn_r _ [32, 33, 34, 35, 36, 19, 50] (by decide +kernel) (by decide +kernel)
set_option maxRecDepth 20000 in
theorem gX6_notBelow_X4_leastFrom : GoodIn wsX6_notBelow (wsV RX6 159 RX4 yX4_leastFrom wsX4_leastFrom) := goodIn_app (goodIn_of _ (by decide +kernel)) ggX6_notBelow_X4_leastFrom
set_option maxRecDepth 20000 in
theorem ggX6_notBelow_X6_foundOr : GoodIn wsX6_notBelow wsX6_foundOr := goodIn_r _ [39, 40] (by decide +kernel) (by decide +kernel)
set_option maxRecDepth 20000 in
theorem gX6_notBelow_X6_foundOr : GoodIn wsX6_notBelow (va_wsS RX6 153 yX6_foundOr wsX6_foundOr) := goodIn_app (goodIn_of _ (by decide +kernel)) ggX6_notBelow_X6_foundOr
theorem dX6_notBelow_0 : decode cX6_notBelow 0 = .ok (.aload_n 0, 1) := by decide +kernel
theorem dX6_notBelow_1 : decode cX6_notBelow 1 = .ok (.getfield 10, 3) := by decide +kernel
theorem dX6_notBelow_4 : decode cX6_notBelow 4 = .ok (.iload_n 1, 1) := by decide +kernel
theorem dX6_notBelow_5 : decode cX6_notBelow 5 = .ok (.iload_n 2, 1) := by decide +kernel
theorem dX6_notBelow_6 : decode cX6_notBelow 6 = .ok (.invokevirtual 95, 3) := by decide +kernel
theorem dX6_notBelow_9 : decode cX6_notBelow 9 = .ok (.ifCond .eq 10, 3) := by decide +kernel
theorem dX6_notBelow_12 : decode cX6_notBelow 12 = .ok (.iload_n 3, 1) := by decide +kernel
theorem dX6_notBelow_13 : decode cX6_notBelow 13 = .ok (.invokestatic 64, 3) := by decide +kernel
theorem dX6_notBelow_16 : decode cX6_notBelow 16 = .ok (.ifCond .ne 6, 3) := by decide +kernel
theorem dX6_notBelow_19 : decode cX6_notBelow 19 = .ok (.ldc 68, 2) := by decide +kernel
theorem dX6_notBelow_21 : decode cX6_notBelow 21 = .ok (.ireturn, 1) := by decide +kernel
theorem dX6_notBelow_22 : decode cX6_notBelow 22 = .ok (.aload_n 0, 1) := by decide +kernel
theorem dX6_notBelow_23 : decode cX6_notBelow 23 = .ok (.getfield 33, 3) := by decide +kernel
theorem dX6_notBelow_26 : decode cX6_notBelow 26 = .ok (.aload_n 0, 1) := by decide +kernel
theorem dX6_notBelow_27 : decode cX6_notBelow 27 = .ok (.getfield 10, 3) := by decide +kernel
theorem dX6_notBelow_30 : decode cX6_notBelow 30 = .ok (.iload_n 1, 1) := by decide +kernel
theorem dX6_notBelow_31 : decode cX6_notBelow 31 = .ok (.iload_n 2, 1) := by decide +kernel
theorem dX6_notBelow_32 : decode cX6_notBelow 32 = .ok (.invokevirtual 102, 3) := by decide +kernel
theorem dX6_notBelow_35 : decode cX6_notBelow 35 = .ok (.aload_n 0, 1) := by decide +kernel
theorem dX6_notBelow_36 : decode cX6_notBelow 36 = .ok (.getfield 33, 3) := by decide +kernel
theorem dX6_notBelow_39 : decode cX6_notBelow 39 = .ok (.iload_n 3, 1) := by decide +kernel
theorem dX6_notBelow_40 : decode cX6_notBelow 40 = .ok (.invokevirtual 159, 3) := by decide +kernel
theorem dX6_notBelow_43 : decode cX6_notBelow 43 = .ok (.invokestatic 153, 3) := by decide +kernel
theorem dX6_notBelow_46 : decode cX6_notBelow 46 = .ok (.ireturn, 1) := by decide +kernel
set_option maxRecDepth 20000 in
theorem ggX6_spanOf_X3_hasSpan : GoodIn wsX6_spanOf wsX3_hasSpan := goodIn_r _ [9, 10, 61, 62] (by decide +kernel) (by decide +kernel)
set_option maxRecDepth 20000 in
theorem gX6_spanOf_X3_hasSpan : GoodIn wsX6_spanOf (wsV RX6 95 RX3 yX3_hasSpan wsX3_hasSpan) := goodIn_app (goodIn_of _ (by decide +kernel)) ggX6_spanOf_X3_hasSpan
set_option maxRecDepth 20000 in
theorem ggX6_spanOf_X6_isAtMost : GoodIn wsX6_spanOf wsX6_isAtMost := goodIn_r _ [14] (by decide +kernel) (by decide +kernel)
set_option maxRecDepth 20000 in
theorem gX6_spanOf_X6_isAtMost : GoodIn wsX6_spanOf (va_wsS RX6 60 yX6_isAtMost wsX6_isAtMost) := goodIn_app (goodIn_of _ (by decide +kernel)) ggX6_spanOf_X6_isAtMost
set_option maxRecDepth 20000 in
theorem ggX6_spanOf_X3_sum : GoodIn wsX6_spanOf wsX3_sum := goodIn_r _ [18, 19, 20, 21, 8, 22, 23, 24, 25, 26, 27, 10, 61, 62] (by decide +kernel) (by decide +kernel)
set_option maxRecDepth 20000 in
theorem gX6_spanOf_X3_sum : GoodIn wsX6_spanOf (wsV RX6 162 RX3 yX3_sum wsX3_sum) := goodIn_app (goodIn_of _ (by decide +kernel)) ggX6_spanOf_X3_sum
set_option maxRecDepth 20000 in
theorem ggX6_spanOf_X3_wrongPairs : GoodIn wsX6_spanOf wsX3_wrongPairs := goodIn_r _ [31, 19, 20, 21, 8, 22, 23, 24, 25, 26, 27, 10, 61, 62] (by decide +kernel) (by decide +kernel)
set_option maxRecDepth 20000 in
theorem gX6_spanOf_X3_wrongPairs : GoodIn wsX6_spanOf (wsV RX6 165 RX3 yX3_wrongPairs wsX3_wrongPairs) := goodIn_app (goodIn_of _ (by decide +kernel)) ggX6_spanOf_X3_wrongPairs
set_option maxRecDepth 20000 in
theorem ggX6_spanOf_X4_fill : GoodIn wsX6_spanOf wsX4_fill := goodIn_r _ [36, 37, 38, 20, 21, 8, 22, 23, 24, 25, 26, 27, 10, 39, 13, 40, 63, 61, 62] (by decide +kernel) (by decide +kernel)
set_option maxRecDepth 20000 in
theorem gX6_spanOf_X4_fill : GoodIn wsX6_spanOf (wsV RX6 102 RX4 yX4_fill wsX4_fill) := goodIn_app (goodIn_of _ (by decide +kernel)) ggX6_spanOf_X4_fill
set_option maxRecDepth 20000 in
theorem ggX6_spanOf_X4_unlike : GoodIn wsX6_spanOf wsX4_unlike := goodIn_r _ [44, 37, 63] (by decide +kernel) (by decide +kernel)
set_option maxRecDepth 20000 in
theorem gX6_spanOf_X4_unlike : GoodIn wsX6_spanOf (wsV RX6 168 RX4 yX4_unlike wsX4_unlike) := goodIn_app (goodIn_of _ (by decide +kernel)) ggX6_spanOf_X4_unlike
set_option maxRecDepth 20000 in
theorem ggX6_spanOf_X4_mostFrequent : GoodIn wsX6_spanOf wsX4_mostFrequent := goodIn_r _ [48, 37, 49, 50, 51, 35, 52, 39, 13, 40, 63] (by decide +kernel) (by decide +kernel)
set_option maxRecDepth 20000 in
theorem gX6_spanOf_X4_mostFrequent : GoodIn wsX6_spanOf (wsV RX6 171 RX4 yX4_mostFrequent wsX4_mostFrequent) := goodIn_app (goodIn_of _ (by decide +kernel)) ggX6_spanOf_X4_mostFrequent
set_option maxRecDepth 20000 in
theorem ggX6_spanOf_X4_times : GoodIn wsX6_spanOf wsX4_times := goodIn_r _ [52, 37, 39, 13, 40, 63] (by decide +kernel) (by decide +kernel)
set_option maxRecDepth 20000 in
theorem gX6_spanOf_X4_times : GoodIn wsX6_spanOf (wsV RX6 147 RX4 yX4_times wsX4_times) := goodIn_app (goodIn_of _ (by decide +kernel)) ggX6_spanOf_X4_times
theorem dX6_spanOf_0 : decode cX6_spanOf 0 = .ok (.aload_n 0, 1) := by decide +kernel
theorem dX6_spanOf_1 : decode cX6_spanOf 1 = .ok (.getfield 10, 3) := by decide +kernel
theorem dX6_spanOf_4 : decode cX6_spanOf 4 = .ok (.iload_n 1, 1) := by decide +kernel
theorem dX6_spanOf_5 : decode cX6_spanOf 5 = .ok (.iload_n 2, 1) := by decide +kernel
theorem dX6_spanOf_6 : decode cX6_spanOf 6 = .ok (.invokevirtual 95, 3) := by decide +kernel
theorem dX6_spanOf_9 : decode cX6_spanOf 9 = .ok (.ifCond .eq 11, 3) := by decide +kernel
theorem dX6_spanOf_12 : decode cX6_spanOf 12 = .ok (.iload_n 3, 1) := by decide +kernel
theorem dX6_spanOf_13 : decode cX6_spanOf 13 = .ok (.iconst 5, 1) := by decide +kernel
theorem dX6_spanOf_14 : decode cX6_spanOf 14 = .ok (.invokestatic 60, 3) := by decide +kernel
theorem dX6_spanOf_17 : decode cX6_spanOf 17 = .ok (.ifCond .ne 6, 3) := by decide +kernel
theorem dX6_spanOf_20 : decode cX6_spanOf 20 = .ok (.ldc 68, 2) := by decide +kernel
theorem dX6_spanOf_22 : decode cX6_spanOf 22 = .ok (.ireturn, 1) := by decide +kernel
theorem dX6_spanOf_23 : decode cX6_spanOf 23 = .ok (.iload_n 3, 1) := by decide +kernel
theorem dX6_spanOf_24 : decode cX6_spanOf 24 = .ok (.iconst 3, 1) := by decide +kernel
theorem dX6_spanOf_25 : decode cX6_spanOf 25 = .ok (.if_icmp .ne 13, 3) := by decide +kernel
theorem dX6_spanOf_28 : decode cX6_spanOf 28 = .ok (.aload_n 0, 1) := by decide +kernel
theorem dX6_spanOf_29 : decode cX6_spanOf 29 = .ok (.getfield 10, 3) := by decide +kernel
theorem dX6_spanOf_32 : decode cX6_spanOf 32 = .ok (.iload_n 1, 1) := by decide +kernel
theorem dX6_spanOf_33 : decode cX6_spanOf 33 = .ok (.iload_n 2, 1) := by decide +kernel
theorem dX6_spanOf_34 : decode cX6_spanOf 34 = .ok (.invokevirtual 162, 3) := by decide +kernel
theorem dX6_spanOf_37 : decode cX6_spanOf 37 = .ok (.ireturn, 1) := by decide +kernel
theorem dX6_spanOf_38 : decode cX6_spanOf 38 = .ok (.iload_n 3, 1) := by decide +kernel
theorem dX6_spanOf_39 : decode cX6_spanOf 39 = .ok (.iconst 4, 1) := by decide +kernel
theorem dX6_spanOf_40 : decode cX6_spanOf 40 = .ok (.if_icmp .ne 21, 3) := by decide +kernel
theorem dX6_spanOf_43 : decode cX6_spanOf 43 = .ok (.aload_n 0, 1) := by decide +kernel
theorem dX6_spanOf_44 : decode cX6_spanOf 44 = .ok (.getfield 10, 3) := by decide +kernel
theorem dX6_spanOf_47 : decode cX6_spanOf 47 = .ok (.iload_n 1, 1) := by decide +kernel
theorem dX6_spanOf_48 : decode cX6_spanOf 48 = .ok (.iload_n 2, 1) := by decide +kernel
theorem dX6_spanOf_49 : decode cX6_spanOf 49 = .ok (.invokevirtual 165, 3) := by decide +kernel
theorem dX6_spanOf_52 : decode cX6_spanOf 52 = .ok (.ifCond .ne 7, 3) := by decide +kernel
theorem dX6_spanOf_55 : decode cX6_spanOf 55 = .ok (.iconst 1, 1) := by decide +kernel
theorem dX6_spanOf_56 : decode cX6_spanOf 56 = .ok (.goto 4, 3) := by decide +kernel
theorem dX6_spanOf_59 : decode cX6_spanOf 59 = .ok (.iconst 0, 1) := by decide +kernel
theorem dX6_spanOf_60 : decode cX6_spanOf 60 = .ok (.ireturn, 1) := by decide +kernel
theorem dX6_spanOf_61 : decode cX6_spanOf 61 = .ok (.iload_n 3, 1) := by decide +kernel
theorem dX6_spanOf_62 : decode cX6_spanOf 62 = .ok (.iconst 5, 1) := by decide +kernel
theorem dX6_spanOf_63 : decode cX6_spanOf 63 = .ok (.if_icmp .ne 13, 3) := by decide +kernel
theorem dX6_spanOf_66 : decode cX6_spanOf 66 = .ok (.aload_n 0, 1) := by decide +kernel
theorem dX6_spanOf_67 : decode cX6_spanOf 67 = .ok (.getfield 10, 3) := by decide +kernel
theorem dX6_spanOf_70 : decode cX6_spanOf 70 = .ok (.iload_n 1, 1) := by decide +kernel
theorem dX6_spanOf_71 : decode cX6_spanOf 71 = .ok (.iload_n 2, 1) := by decide +kernel
theorem dX6_spanOf_72 : decode cX6_spanOf 72 = .ok (.invokevirtual 165, 3) := by decide +kernel
theorem dX6_spanOf_75 : decode cX6_spanOf 75 = .ok (.ireturn, 1) := by decide +kernel
theorem dX6_spanOf_76 : decode cX6_spanOf 76 = .ok (.aload_n 0, 1) := by decide +kernel
theorem dX6_spanOf_77 : decode cX6_spanOf 77 = .ok (.getfield 33, 3) := by decide +kernel
theorem dX6_spanOf_80 : decode cX6_spanOf 80 = .ok (.aload_n 0, 1) := by decide +kernel
theorem dX6_spanOf_81 : decode cX6_spanOf 81 = .ok (.getfield 10, 3) := by decide +kernel
theorem dX6_spanOf_84 : decode cX6_spanOf 84 = .ok (.iload_n 1, 1) := by decide +kernel
theorem dX6_spanOf_85 : decode cX6_spanOf 85 = .ok (.iload_n 2, 1) := by decide +kernel
theorem dX6_spanOf_86 : decode cX6_spanOf 86 = .ok (.invokevirtual 102, 3) := by decide +kernel
theorem dX6_spanOf_89 : decode cX6_spanOf 89 = .ok (.iload_n 3, 1) := by decide +kernel
theorem dX6_spanOf_90 : decode cX6_spanOf 90 = .ok (.ifCond .ne 11, 3) := by decide +kernel
theorem dX6_spanOf_93 : decode cX6_spanOf 93 = .ok (.aload_n 0, 1) := by decide +kernel
theorem dX6_spanOf_94 : decode cX6_spanOf 94 = .ok (.getfield 33, 3) := by decide +kernel
theorem dX6_spanOf_97 : decode cX6_spanOf 97 = .ok (.invokevirtual 168, 3) := by decide +kernel
theorem dX6_spanOf_100 : decode cX6_spanOf 100 = .ok (.ireturn, 1) := by decide +kernel
theorem dX6_spanOf_101 : decode cX6_spanOf 101 = .ok (.aload_n 0, 1) := by decide +kernel
theorem dX6_spanOf_102 : decode cX6_spanOf 102 = .ok (.getfield 33, 3) := by decide +kernel
theorem dX6_spanOf_105 : decode cX6_spanOf 105 = .ok (.invokevirtual 171, 3) := by decide +kernel
theorem dX6_spanOf_108 : decode cX6_spanOf 108 = .ok (.istore 4, 2) := by decide +kernel
theorem dX6_spanOf_110 : decode cX6_spanOf 110 = .ok (.iload 4, 2) := by decide +kernel
theorem dX6_spanOf_112 : decode cX6_spanOf 112 = .ok (.iconst (-1), 1) := by decide +kernel
theorem dX6_spanOf_113 : decode cX6_spanOf 113 = .ok (.if_icmp .ne 6, 3) := by decide +kernel
theorem dX6_spanOf_116 : decode cX6_spanOf 116 = .ok (.ldc 110, 2) := by decide +kernel
theorem dX6_spanOf_118 : decode cX6_spanOf 118 = .ok (.ireturn, 1) := by decide +kernel
theorem dX6_spanOf_119 : decode cX6_spanOf 119 = .ok (.iload_n 3, 1) := by decide +kernel
theorem dX6_spanOf_120 : decode cX6_spanOf 120 = .ok (.iconst 1, 1) := by decide +kernel
theorem dX6_spanOf_121 : decode cX6_spanOf 121 = .ok (.if_icmp .ne 8, 3) := by decide +kernel
theorem dX6_spanOf_124 : decode cX6_spanOf 124 = .ok (.iload 4, 2) := by decide +kernel
theorem dX6_spanOf_126 : decode cX6_spanOf 126 = .ok (.goto 12, 3) := by decide +kernel
theorem dX6_spanOf_129 : decode cX6_spanOf 129 = .ok (.aload_n 0, 1) := by decide +kernel
theorem dX6_spanOf_130 : decode cX6_spanOf 130 = .ok (.getfield 33, 3) := by decide +kernel
theorem dX6_spanOf_133 : decode cX6_spanOf 133 = .ok (.iload 4, 2) := by decide +kernel
theorem dX6_spanOf_135 : decode cX6_spanOf 135 = .ok (.invokevirtual 147, 3) := by decide +kernel
theorem dX6_spanOf_138 : decode cX6_spanOf 138 = .ok (.ireturn, 1) := by decide +kernel
set_option maxRecDepth 20000 in
theorem ggX6_product_X3_hasSpan : GoodIn wsX6_product wsX3_hasSpan := goodIn_r _ [9, 10, 27, 28] (by decide +kernel) (by decide +kernel)
set_option maxRecDepth 20000 in
theorem gX6_product_X3_hasSpan : GoodIn wsX6_product (wsV RX6 95 RX3 yX3_hasSpan wsX3_hasSpan) := goodIn_app (goodIn_of _ (by decide +kernel)) ggX6_product_X3_hasSpan
set_option maxRecDepth 20000 in
theorem ggX6_product_X3_at : GoodIn wsX6_product wsX3_at := goodIn_r _ [14, 15, 16, 17, 18, 8, 19, 10, 27, 28] (by decide +kernel) (by decide +kernel)
set_option maxRecDepth 20000 in
theorem gX6_product_X3_at : GoodIn wsX6_product (wsV RX6 81 RX3 yX3_at wsX3_at) := goodIn_app (goodIn_of _ (by decide +kernel)) ggX6_product_X3_at
theorem dX6_product_0 : decode cX6_product 0 = .ok (.aload_n 0, 1) := by decide +kernel
theorem dX6_product_1 : decode cX6_product 1 = .ok (.getfield 10, 3) := by decide +kernel
theorem dX6_product_4 : decode cX6_product 4 = .ok (.iload_n 1, 1) := by decide +kernel
theorem dX6_product_5 : decode cX6_product 5 = .ok (.iload_n 2, 1) := by decide +kernel
theorem dX6_product_6 : decode cX6_product 6 = .ok (.invokevirtual 95, 3) := by decide +kernel
theorem dX6_product_9 : decode cX6_product 9 = .ok (.ifCond .ne 7, 3) := by decide +kernel
theorem dX6_product_12 : decode cX6_product 12 = .ok (.ldc2_w 145, 3) := by decide +kernel
theorem dX6_product_15 : decode cX6_product 15 = .ok (.lreturn, 1) := by decide +kernel
theorem dX6_product_16 : decode cX6_product 16 = .ok (.lconst 1, 1) := by decide +kernel
theorem dX6_product_17 : decode cX6_product 17 = .ok (.lstore_n 3, 1) := by decide +kernel
theorem dX6_product_18 : decode cX6_product 18 = .ok (.iload_n 1, 1) := by decide +kernel
theorem dX6_product_19 : decode cX6_product 19 = .ok (.istore 5, 2) := by decide +kernel
theorem dX6_product_21 : decode cX6_product 21 = .ok (.iload 5, 2) := by decide +kernel
theorem dX6_product_23 : decode cX6_product 23 = .ok (.iload_n 2, 1) := by decide +kernel
theorem dX6_product_24 : decode cX6_product 24 = .ok (.if_icmp .ge 49, 3) := by decide +kernel
theorem dX6_product_27 : decode cX6_product 27 = .ok (.aload_n 0, 1) := by decide +kernel
theorem dX6_product_28 : decode cX6_product 28 = .ok (.getfield 10, 3) := by decide +kernel
theorem dX6_product_31 : decode cX6_product 31 = .ok (.iload 5, 2) := by decide +kernel
theorem dX6_product_33 : decode cX6_product 33 = .ok (.invokevirtual 81, 3) := by decide +kernel
theorem dX6_product_36 : decode cX6_product 36 = .ok (.iconst 1, 1) := by decide +kernel
theorem dX6_product_37 : decode cX6_product 37 = .ok (.iadd, 1) := by decide +kernel
theorem dX6_product_38 : decode cX6_product 38 = .ok (.istore 6, 2) := by decide +kernel
theorem dX6_product_40 : decode cX6_product 40 = .ok (.iload 6, 2) := by decide +kernel
theorem dX6_product_42 : decode cX6_product 42 = .ok (.ifCond .le 19, 3) := by decide +kernel
theorem dX6_product_45 : decode cX6_product 45 = .ok (.lload_n 3, 1) := by decide +kernel
theorem dX6_product_46 : decode cX6_product 46 = .ok (.ldc2_w 176, 3) := by decide +kernel
theorem dX6_product_49 : decode cX6_product 49 = .ok (.iload 6, 2) := by decide +kernel
theorem dX6_product_51 : decode cX6_product 51 = .ok (.i2l, 1) := by decide +kernel
theorem dX6_product_52 : decode cX6_product 52 = .ok (.ldiv, 1) := by decide +kernel
theorem dX6_product_53 : decode cX6_product 53 = .ok (.lcmp, 1) := by decide +kernel
theorem dX6_product_54 : decode cX6_product 54 = .ok (.ifCond .le 7, 3) := by decide +kernel
theorem dX6_product_57 : decode cX6_product 57 = .ok (.ldc2_w 178, 3) := by decide +kernel
theorem dX6_product_60 : decode cX6_product 60 = .ok (.lreturn, 1) := by decide +kernel
theorem dX6_product_61 : decode cX6_product 61 = .ok (.lload_n 3, 1) := by decide +kernel
theorem dX6_product_62 : decode cX6_product 62 = .ok (.iload 6, 2) := by decide +kernel
theorem dX6_product_64 : decode cX6_product 64 = .ok (.i2l, 1) := by decide +kernel
theorem dX6_product_65 : decode cX6_product 65 = .ok (.lmul, 1) := by decide +kernel
theorem dX6_product_66 : decode cX6_product 66 = .ok (.lstore_n 3, 1) := by decide +kernel
theorem dX6_product_67 : decode cX6_product 67 = .ok (.iinc 5 1, 3) := by decide +kernel
theorem dX6_product_70 : decode cX6_product 70 = .ok (.goto (-49), 3) := by decide +kernel
theorem dX6_product_73 : decode cX6_product 73 = .ok (.lload_n 3, 1) := by decide +kernel
theorem dX6_product_74 : decode cX6_product 74 = .ok (.lreturn, 1) := by decide +kernel
set_option maxRecDepth 20000 in
theorem ggX6_common_X3_hasSpan : GoodIn wsX6_common wsX3_hasSpan := goodIn_r _ [9, 10, 70, 71] (by decide +kernel) (by decide +kernel)
set_option maxRecDepth 20000 in
theorem gX6_common_X3_hasSpan : GoodIn wsX6_common (wsV RX6 95 RX3 yX3_hasSpan wsX3_hasSpan) := goodIn_app (goodIn_of _ (by decide +kernel)) ggX6_common_X3_hasSpan
set_option maxRecDepth 20000 in
theorem ggX6_common_X6_isAtMost : GoodIn wsX6_common wsX6_isAtMost := goodIn_r _ [14] (by decide +kernel) (by decide +kernel)
set_option maxRecDepth 20000 in
theorem gX6_common_X6_isAtMost : GoodIn wsX6_common (va_wsS RX6 60 yX6_isAtMost wsX6_isAtMost) := goodIn_app (goodIn_of _ (by decide +kernel)) ggX6_common_X6_isAtMost
set_option maxRecDepth 20000 in
theorem ggX6_common_X4_fill : GoodIn wsX6_common wsX4_fill := goodIn_r _ [19, 20, 21, 22, 23, 8, 24, 25, 26, 27, 28, 29, 10, 30, 13, 31, 72, 70, 71] (by decide +kernel) (by decide +kernel)
set_option maxRecDepth 20000 in
theorem gX6_common_X4_fill : GoodIn wsX6_common (wsV RX6 102 RX4 yX4_fill wsX4_fill) := goodIn_app (goodIn_of _ (by decide +kernel)) ggX6_common_X4_fill
set_option maxRecDepth 20000 in
theorem ggX6_common_X4_isLike : GoodIn wsX6_common wsX4_isLike := goodIn_r _ [35, 20, 72] (by decide +kernel) (by decide +kernel)
set_option maxRecDepth 20000 in
theorem gX6_common_X4_isLike : GoodIn wsX6_common (wsV RX6 180 RX4 yX4_isLike wsX4_isLike) := goodIn_app (goodIn_of _ (by decide +kernel)) ggX6_common_X4_isLike
set_option maxRecDepth 20000 in
theorem ggX6_common_X4_keepCommon : GoodIn wsX6_common wsX4_keepCommon := goodIn_r _ [39, 20, 40, 41, 42, 43, 72] (by decide +kernel) (by decide +kernel)
set_option maxRecDepth 20000 in
theorem gX6_common_X4_keepCommon : GoodIn wsX6_common (wsV RX6 184 RX4 yX4_keepCommon wsX4_keepCommon) := goodIn_app (goodIn_of _ (by decide +kernel)) ggX6_common_X4_keepCommon
set_option maxRecDepth 20000 in
theorem ggX6_common_X4_unlike : GoodIn wsX6_common wsX4_unlike := goodIn_r _ [47, 20, 72] (by decide +kernel) (by decide +kernel)
set_option maxRecDepth 20000 in
theorem gX6_common_X4_unlike : GoodIn wsX6_common (wsV RX6 168 RX4 yX4_unlike wsX4_unlike) := goodIn_app (goodIn_of _ (by decide +kernel)) ggX6_common_X4_unlike
set_option maxRecDepth 20000 in
theorem ggX6_common_X4_timesBelow : GoodIn wsX6_common wsX4_timesBelow := goodIn_r _ [51, 20, 72] (by decide +kernel) (by decide +kernel)
set_option maxRecDepth 20000 in
theorem gX6_common_X4_timesBelow : GoodIn wsX6_common (wsV RX6 156 RX4 yX4_timesBelow wsX4_timesBelow) := goodIn_app (goodIn_of _ (by decide +kernel)) ggX6_common_X4_timesBelow
set_option maxRecDepth 20000 in
theorem ggX6_common_X4_leastFrom : GoodIn wsX6_common wsX4_leastFrom := goodIn_r _ [55, 56, 57, 42, 58, 20, 72] (by decide +kernel) (by decide +kernel)
set_option maxRecDepth 20000 in
theorem gX6_common_X4_leastFrom : GoodIn wsX6_common (wsV RX6 159 RX4 yX4_leastFrom wsX4_leastFrom) := goodIn_app (goodIn_of _ (by decide +kernel)) ggX6_common_X4_leastFrom
set_option maxRecDepth 20000 in
theorem ggX6_common_X6_foundOr : GoodIn wsX6_common wsX6_foundOr := goodIn_r _ [61, 62] (by decide +kernel) (by decide +kernel)
set_option maxRecDepth 20000 in
theorem gX6_common_X6_foundOr : GoodIn wsX6_common (va_wsS RX6 153 yX6_foundOr wsX6_foundOr) := goodIn_app (goodIn_of _ (by decide +kernel)) ggX6_common_X6_foundOr
theorem dX6_common_0 : decode cX6_common 0 = .ok (.aload_n 0, 1) := by decide +kernel
theorem dX6_common_1 : decode cX6_common 1 = .ok (.getfield 10, 3) := by decide +kernel
theorem dX6_common_4 : decode cX6_common 4 = .ok (.iload_n 1, 1) := by decide +kernel
theorem dX6_common_5 : decode cX6_common 5 = .ok (.iload_n 2, 1) := by decide +kernel
theorem dX6_common_6 : decode cX6_common 6 = .ok (.invokevirtual 95, 3) := by decide +kernel
theorem dX6_common_9 : decode cX6_common 9 = .ok (.ifCond .eq 25, 3) := by decide +kernel
theorem dX6_common_12 : decode cX6_common 12 = .ok (.aload_n 0, 1) := by decide +kernel
theorem dX6_common_13 : decode cX6_common 13 = .ok (.getfield 10, 3) := by decide +kernel
theorem dX6_common_16 : decode cX6_common 16 = .ok (.iload_n 3, 1) := by decide +kernel
theorem dX6_common_17 : decode cX6_common 17 = .ok (.iload 4, 2) := by decide +kernel
theorem dX6_common_19 : decode cX6_common 19 = .ok (.invokevirtual 95, 3) := by decide +kernel
theorem dX6_common_22 : decode cX6_common 22 = .ok (.ifCond .eq 12, 3) := by decide +kernel
theorem dX6_common_25 : decode cX6_common 25 = .ok (.iload 5, 2) := by decide +kernel
theorem dX6_common_27 : decode cX6_common 27 = .ok (.iconst 3, 1) := by decide +kernel
theorem dX6_common_28 : decode cX6_common 28 = .ok (.invokestatic 60, 3) := by decide +kernel
theorem dX6_common_31 : decode cX6_common 31 = .ok (.ifCond .ne 6, 3) := by decide +kernel
theorem dX6_common_34 : decode cX6_common 34 = .ok (.ldc 68, 2) := by decide +kernel
theorem dX6_common_36 : decode cX6_common 36 = .ok (.ireturn, 1) := by decide +kernel
theorem dX6_common_37 : decode cX6_common 37 = .ok (.aload_n 0, 1) := by decide +kernel
theorem dX6_common_38 : decode cX6_common 38 = .ok (.getfield 33, 3) := by decide +kernel
theorem dX6_common_41 : decode cX6_common 41 = .ok (.aload_n 0, 1) := by decide +kernel
theorem dX6_common_42 : decode cX6_common 42 = .ok (.getfield 10, 3) := by decide +kernel
theorem dX6_common_45 : decode cX6_common 45 = .ok (.iload_n 1, 1) := by decide +kernel
theorem dX6_common_46 : decode cX6_common 46 = .ok (.iload_n 2, 1) := by decide +kernel
theorem dX6_common_47 : decode cX6_common 47 = .ok (.invokevirtual 102, 3) := by decide +kernel
theorem dX6_common_50 : decode cX6_common 50 = .ok (.aload_n 0, 1) := by decide +kernel
theorem dX6_common_51 : decode cX6_common 51 = .ok (.getfield 37, 3) := by decide +kernel
theorem dX6_common_54 : decode cX6_common 54 = .ok (.aload_n 0, 1) := by decide +kernel
theorem dX6_common_55 : decode cX6_common 55 = .ok (.getfield 10, 3) := by decide +kernel
theorem dX6_common_58 : decode cX6_common 58 = .ok (.iload_n 3, 1) := by decide +kernel
theorem dX6_common_59 : decode cX6_common 59 = .ok (.iload 4, 2) := by decide +kernel
theorem dX6_common_61 : decode cX6_common 61 = .ok (.invokevirtual 102, 3) := by decide +kernel
theorem dX6_common_64 : decode cX6_common 64 = .ok (.iload 5, 2) := by decide +kernel
theorem dX6_common_66 : decode cX6_common 66 = .ok (.iconst 3, 1) := by decide +kernel
theorem dX6_common_67 : decode cX6_common 67 = .ok (.if_icmp .ne 23, 3) := by decide +kernel
theorem dX6_common_70 : decode cX6_common 70 = .ok (.aload_n 0, 1) := by decide +kernel
theorem dX6_common_71 : decode cX6_common 71 = .ok (.getfield 33, 3) := by decide +kernel
theorem dX6_common_74 : decode cX6_common 74 = .ok (.aload_n 0, 1) := by decide +kernel
theorem dX6_common_75 : decode cX6_common 75 = .ok (.getfield 37, 3) := by decide +kernel
theorem dX6_common_78 : decode cX6_common 78 = .ok (.invokevirtual 180, 3) := by decide +kernel
theorem dX6_common_81 : decode cX6_common 81 = .ok (.ifCond .eq 7, 3) := by decide +kernel
theorem dX6_common_84 : decode cX6_common 84 = .ok (.iconst 1, 1) := by decide +kernel
theorem dX6_common_85 : decode cX6_common 85 = .ok (.goto 4, 3) := by decide +kernel
theorem dX6_common_88 : decode cX6_common 88 = .ok (.iconst 0, 1) := by decide +kernel
theorem dX6_common_89 : decode cX6_common 89 = .ok (.ireturn, 1) := by decide +kernel
theorem dX6_common_90 : decode cX6_common 90 = .ok (.aload_n 0, 1) := by decide +kernel
theorem dX6_common_91 : decode cX6_common 91 = .ok (.getfield 33, 3) := by decide +kernel
theorem dX6_common_94 : decode cX6_common 94 = .ok (.aload_n 0, 1) := by decide +kernel
theorem dX6_common_95 : decode cX6_common 95 = .ok (.getfield 37, 3) := by decide +kernel
theorem dX6_common_98 : decode cX6_common 98 = .ok (.invokevirtual 184, 3) := by decide +kernel
theorem dX6_common_101 : decode cX6_common 101 = .ok (.iload 5, 2) := by decide +kernel
theorem dX6_common_103 : decode cX6_common 103 = .ok (.ifCond .ne 11, 3) := by decide +kernel
theorem dX6_common_106 : decode cX6_common 106 = .ok (.aload_n 0, 1) := by decide +kernel
theorem dX6_common_107 : decode cX6_common 107 = .ok (.getfield 33, 3) := by decide +kernel
theorem dX6_common_110 : decode cX6_common 110 = .ok (.invokevirtual 168, 3) := by decide +kernel
theorem dX6_common_113 : decode cX6_common 113 = .ok (.ireturn, 1) := by decide +kernel
theorem dX6_common_114 : decode cX6_common 114 = .ok (.iload 5, 2) := by decide +kernel
theorem dX6_common_116 : decode cX6_common 116 = .ok (.iconst 1, 1) := by decide +kernel
theorem dX6_common_117 : decode cX6_common 117 = .ok (.if_icmp .ne 15, 3) := by decide +kernel
theorem dX6_common_120 : decode cX6_common 120 = .ok (.aload_n 0, 1) := by decide +kernel
theorem dX6_common_121 : decode cX6_common 121 = .ok (.getfield 33, 3) := by decide +kernel
theorem dX6_common_124 : decode cX6_common 124 = .ok (.bipush 16, 2) := by decide +kernel
theorem dX6_common_126 : decode cX6_common 126 = .ok (.invokevirtual 156, 3) := by decide +kernel
theorem dX6_common_129 : decode cX6_common 129 = .ok (.goto 14, 3) := by decide +kernel
theorem dX6_common_132 : decode cX6_common 132 = .ok (.aload_n 0, 1) := by decide +kernel
theorem dX6_common_133 : decode cX6_common 133 = .ok (.getfield 33, 3) := by decide +kernel
theorem dX6_common_136 : decode cX6_common 136 = .ok (.iconst 0, 1) := by decide +kernel
theorem dX6_common_137 : decode cX6_common 137 = .ok (.invokevirtual 159, 3) := by decide +kernel
theorem dX6_common_140 : decode cX6_common 140 = .ok (.invokestatic 153, 3) := by decide +kernel
theorem dX6_common_143 : decode cX6_common 143 = .ok (.ireturn, 1) := by decide +kernel
set_option maxRecDepth 20000 in
theorem ggX6_heaviest_X6_isAtMost : GoodIn wsX6_heaviest wsX6_isAtMost := goodIn_r _ [7] (by decide +kernel) (by decide +kernel)
set_option maxRecDepth 20000 in
theorem gX6_heaviest_X6_isAtMost : GoodIn wsX6_heaviest (va_wsS RX6 60 yX6_isAtMost wsX6_isAtMost) := goodIn_app (goodIn_of _ (by decide +kernel)) ggX6_heaviest_X6_isAtMost
set_option maxRecDepth 20000 in
theorem ggX6_heaviest_X3_size : GoodIn wsX6_heaviest wsX3_size := goodIn_r _ [12, 13, 34, 35] (by decide +kernel) (by decide +kernel)
set_option maxRecDepth 20000 in
theorem gX6_heaviest_X3_size : GoodIn wsX6_heaviest (wsV RX6 56 RX3 yX3_size wsX3_size) := goodIn_app (goodIn_of _ (by decide +kernel)) ggX6_heaviest_X3_size
set_option maxRecDepth 20000 in
theorem ggX6_heaviest_X3_sum : GoodIn wsX6_heaviest wsX3_sum := goodIn_r _ [17, 18, 19, 20, 11, 21, 22, 23, 24, 25, 26, 13, 34, 35] (by decide +kernel) (by decide +kernel)
set_option maxRecDepth 20000 in
theorem gX6_heaviest_X3_sum : GoodIn wsX6_heaviest (wsV RX6 162 RX3 yX3_sum wsX3_sum) := goodIn_app (goodIn_of _ (by decide +kernel)) ggX6_heaviest_X3_sum
theorem dX6_heaviest_0 : decode cX6_heaviest 0 = .ok (.iload_n 1, 1) := by decide +kernel
theorem dX6_heaviest_1 : decode cX6_heaviest 1 = .ok (.iconst 1, 1) := by decide +kernel
theorem dX6_heaviest_2 : decode cX6_heaviest 2 = .ok (.if_icmp .lt 17, 3) := by decide +kernel
theorem dX6_heaviest_5 : decode cX6_heaviest 5 = .ok (.iload_n 1, 1) := by decide +kernel
theorem dX6_heaviest_6 : decode cX6_heaviest 6 = .ok (.bipush 60, 2) := by decide +kernel
theorem dX6_heaviest_8 : decode cX6_heaviest 8 = .ok (.if_icmp .gt 11, 3) := by decide +kernel
theorem dX6_heaviest_11 : decode cX6_heaviest 11 = .ok (.iload_n 2, 1) := by decide +kernel
theorem dX6_heaviest_12 : decode cX6_heaviest 12 = .ok (.iconst 1, 1) := by decide +kernel
theorem dX6_heaviest_13 : decode cX6_heaviest 13 = .ok (.invokestatic 60, 3) := by decide +kernel
theorem dX6_heaviest_16 : decode cX6_heaviest 16 = .ok (.ifCond .ne 6, 3) := by decide +kernel
theorem dX6_heaviest_19 : decode cX6_heaviest 19 = .ok (.ldc 68, 2) := by decide +kernel
theorem dX6_heaviest_21 : decode cX6_heaviest 21 = .ok (.ireturn, 1) := by decide +kernel
theorem dX6_heaviest_22 : decode cX6_heaviest 22 = .ok (.iload_n 1, 1) := by decide +kernel
theorem dX6_heaviest_23 : decode cX6_heaviest 23 = .ok (.aload_n 0, 1) := by decide +kernel
theorem dX6_heaviest_24 : decode cX6_heaviest 24 = .ok (.getfield 10, 3) := by decide +kernel
theorem dX6_heaviest_27 : decode cX6_heaviest 27 = .ok (.invokevirtual 56, 3) := by decide +kernel
theorem dX6_heaviest_30 : decode cX6_heaviest 30 = .ok (.if_icmp .le 6, 3) := by decide +kernel
theorem dX6_heaviest_33 : decode cX6_heaviest 33 = .ok (.ldc 110, 2) := by decide +kernel
theorem dX6_heaviest_35 : decode cX6_heaviest 35 = .ok (.ireturn, 1) := by decide +kernel
theorem dX6_heaviest_36 : decode cX6_heaviest 36 = .ok (.iconst 0, 1) := by decide +kernel
theorem dX6_heaviest_37 : decode cX6_heaviest 37 = .ok (.istore_n 3, 1) := by decide +kernel
theorem dX6_heaviest_38 : decode cX6_heaviest 38 = .ok (.aload_n 0, 1) := by decide +kernel
theorem dX6_heaviest_39 : decode cX6_heaviest 39 = .ok (.getfield 10, 3) := by decide +kernel
theorem dX6_heaviest_42 : decode cX6_heaviest 42 = .ok (.iconst 0, 1) := by decide +kernel
theorem dX6_heaviest_43 : decode cX6_heaviest 43 = .ok (.iload_n 1, 1) := by decide +kernel
theorem dX6_heaviest_44 : decode cX6_heaviest 44 = .ok (.invokevirtual 162, 3) := by decide +kernel
theorem dX6_heaviest_47 : decode cX6_heaviest 47 = .ok (.istore 4, 2) := by decide +kernel
theorem dX6_heaviest_49 : decode cX6_heaviest 49 = .ok (.iconst 1, 1) := by decide +kernel
theorem dX6_heaviest_50 : decode cX6_heaviest 50 = .ok (.istore 5, 2) := by decide +kernel
theorem dX6_heaviest_52 : decode cX6_heaviest 52 = .ok (.iload 5, 2) := by decide +kernel
theorem dX6_heaviest_54 : decode cX6_heaviest 54 = .ok (.iload_n 1, 1) := by decide +kernel
theorem dX6_heaviest_55 : decode cX6_heaviest 55 = .ok (.iadd, 1) := by decide +kernel
theorem dX6_heaviest_56 : decode cX6_heaviest 56 = .ok (.aload_n 0, 1) := by decide +kernel
theorem dX6_heaviest_57 : decode cX6_heaviest 57 = .ok (.getfield 10, 3) := by decide +kernel
theorem dX6_heaviest_60 : decode cX6_heaviest 60 = .ok (.invokevirtual 56, 3) := by decide +kernel
theorem dX6_heaviest_63 : decode cX6_heaviest 63 = .ok (.if_icmp .gt 38, 3) := by decide +kernel
theorem dX6_heaviest_66 : decode cX6_heaviest 66 = .ok (.aload_n 0, 1) := by decide +kernel
theorem dX6_heaviest_67 : decode cX6_heaviest 67 = .ok (.getfield 10, 3) := by decide +kernel
theorem dX6_heaviest_70 : decode cX6_heaviest 70 = .ok (.iload 5, 2) := by decide +kernel
theorem dX6_heaviest_72 : decode cX6_heaviest 72 = .ok (.iload 5, 2) := by decide +kernel
theorem dX6_heaviest_74 : decode cX6_heaviest 74 = .ok (.iload_n 1, 1) := by decide +kernel
theorem dX6_heaviest_75 : decode cX6_heaviest 75 = .ok (.iadd, 1) := by decide +kernel
theorem dX6_heaviest_76 : decode cX6_heaviest 76 = .ok (.invokevirtual 162, 3) := by decide +kernel
theorem dX6_heaviest_79 : decode cX6_heaviest 79 = .ok (.istore 6, 2) := by decide +kernel
theorem dX6_heaviest_81 : decode cX6_heaviest 81 = .ok (.iload 6, 2) := by decide +kernel
theorem dX6_heaviest_83 : decode cX6_heaviest 83 = .ok (.iload 4, 2) := by decide +kernel
theorem dX6_heaviest_85 : decode cX6_heaviest 85 = .ok (.if_icmp .le 10, 3) := by decide +kernel
theorem dX6_heaviest_88 : decode cX6_heaviest 88 = .ok (.iload 5, 2) := by decide +kernel
theorem dX6_heaviest_90 : decode cX6_heaviest 90 = .ok (.istore_n 3, 1) := by decide +kernel
theorem dX6_heaviest_91 : decode cX6_heaviest 91 = .ok (.iload 6, 2) := by decide +kernel
theorem dX6_heaviest_93 : decode cX6_heaviest 93 = .ok (.istore 4, 2) := by decide +kernel
theorem dX6_heaviest_95 : decode cX6_heaviest 95 = .ok (.iinc 5 1, 3) := by decide +kernel
theorem dX6_heaviest_98 : decode cX6_heaviest 98 = .ok (.goto (-46), 3) := by decide +kernel
theorem dX6_heaviest_101 : decode cX6_heaviest 101 = .ok (.iload_n 2, 1) := by decide +kernel
theorem dX6_heaviest_102 : decode cX6_heaviest 102 = .ok (.ifCond .ne 7, 3) := by decide +kernel
theorem dX6_heaviest_105 : decode cX6_heaviest 105 = .ok (.iload_n 3, 1) := by decide +kernel
theorem dX6_heaviest_106 : decode cX6_heaviest 106 = .ok (.goto 5, 3) := by decide +kernel
theorem dX6_heaviest_109 : decode cX6_heaviest 109 = .ok (.iload 4, 2) := by decide +kernel
theorem dX6_heaviest_111 : decode cX6_heaviest 111 = .ok (.ireturn, 1) := by decide +kernel
set_option maxRecDepth 20000 in
theorem ggX6_count_X3_size : GoodIn wsX6_count wsX3_size := goodIn_r _ [10, 11, 69, 70] (by decide +kernel) (by decide +kernel)
set_option maxRecDepth 20000 in
theorem gX6_count_X3_size : GoodIn wsX6_count (wsV RX6 56 RX3 yX3_size wsX3_size) := goodIn_app (goodIn_of _ (by decide +kernel)) ggX6_count_X3_size
set_option maxRecDepth 20000 in
theorem ggX6_count_X4_fill : GoodIn wsX6_count wsX4_fill := goodIn_r _ [16, 17, 18, 19, 20, 9, 21, 22, 23, 24, 25, 26, 11, 27, 28, 29, 71, 69, 70] (by decide +kernel) (by decide +kernel)
set_option maxRecDepth 20000 in
theorem gX6_count_X4_fill : GoodIn wsX6_count (wsV RX6 102 RX4 yX4_fill wsX4_fill) := goodIn_app (goodIn_of _ (by decide +kernel)) ggX6_count_X4_fill
set_option maxRecDepth 20000 in
theorem ggX6_count_X4_unlike : GoodIn wsX6_count wsX4_unlike := goodIn_r _ [33, 17, 71] (by decide +kernel) (by decide +kernel)
set_option maxRecDepth 20000 in
theorem gX6_count_X4_unlike : GoodIn wsX6_count (wsV RX6 168 RX4 yX4_unlike wsX4_unlike) := goodIn_app (goodIn_of _ (by decide +kernel)) ggX6_count_X4_unlike
set_option maxRecDepth 20000 in
theorem ggX6_count_X3_ones : GoodIn wsX6_count wsX3_ones := goodIn_r _ [37, 11, 38, 19, 20, 9, 21, 22, 23, 24, 25, 26, 39, 40, 41, 42, 43, 44, 45, 69, 70] (by decide +kernel) (by decide +kernel)
set_option maxRecDepth 20000 in
theorem gX6_count_X3_ones : GoodIn wsX6_count (wsV RX6 188 RX3 yX3_ones wsX3_ones) := goodIn_app (goodIn_of _ (by decide +kernel)) ggX6_count_X3_ones
set_option maxRecDepth 20000 in
theorem ggX6_count_X6_blocks : GoodIn wsX6_count wsX6_blocks := goodIn_r _ [49, 1, 6, 7, 8, 9, 10, 11, 62, 63, 64, 65, 66, 67, 68, 69, 70] (by decide +kernel) (by decide +kernel)
set_option maxRecDepth 20000 in
theorem gX6_count_X6_blocks : GoodIn wsX6_count (wsV RX6 129 RX6 yX6_blocks wsX6_blocks) := goodIn_app (goodIn_of _ (by decide +kernel)) ggX6_count_X6_blocks
set_option maxRecDepth 20000 in
theorem ggX6_count_X0_size : GoodIn wsX6_count wsX0_size := goodIn_r _ [54, 55, 72, 73] (by decide +kernel) (by decide +kernel)
set_option maxRecDepth 20000 in
theorem gX6_count_X0_size : GoodIn wsX6_count (wsV RX6 190 RX0 yX0_size wsX0_size) := goodIn_app (goodIn_of _ (by decide +kernel)) ggX6_count_X0_size
set_option maxRecDepth 20000 in
theorem ggX6_count_X5_length : GoodIn wsX6_count wsX5_length := goodIn_r _ [60, 61, 74, 75] (by decide +kernel) (by decide +kernel)
set_option maxRecDepth 20000 in
theorem gX6_count_X5_length : GoodIn wsX6_count (wsV RX6 191 RX5 yX5_length wsX5_length) := goodIn_app (goodIn_of _ (by decide +kernel)) ggX6_count_X5_length
theorem dX6_count_0 : decode cX6_count 0 = .ok (.iload_n 1, 1) := by decide +kernel
theorem dX6_count_1 : decode cX6_count 1 = .ok (.tableswitch 103 0 5 #[39, 47, 74, 82, 87, 95], 39) := by decide +kernel
theorem dX6_count_40 : decode cX6_count 40 = .ok (.aload_n 0, 1) := by decide +kernel
theorem dX6_count_41 : decode cX6_count 41 = .ok (.getfield 10, 3) := by decide +kernel
theorem dX6_count_44 : decode cX6_count 44 = .ok (.invokevirtual 56, 3) := by decide +kernel
theorem dX6_count_47 : decode cX6_count 47 = .ok (.ireturn, 1) := by decide +kernel
theorem dX6_count_48 : decode cX6_count 48 = .ok (.aload_n 0, 1) := by decide +kernel
theorem dX6_count_49 : decode cX6_count 49 = .ok (.getfield 33, 3) := by decide +kernel
theorem dX6_count_52 : decode cX6_count 52 = .ok (.aload_n 0, 1) := by decide +kernel
theorem dX6_count_53 : decode cX6_count 53 = .ok (.getfield 10, 3) := by decide +kernel
theorem dX6_count_56 : decode cX6_count 56 = .ok (.iconst 0, 1) := by decide +kernel
theorem dX6_count_57 : decode cX6_count 57 = .ok (.aload_n 0, 1) := by decide +kernel
theorem dX6_count_58 : decode cX6_count 58 = .ok (.getfield 10, 3) := by decide +kernel
theorem dX6_count_61 : decode cX6_count 61 = .ok (.invokevirtual 56, 3) := by decide +kernel
theorem dX6_count_64 : decode cX6_count 64 = .ok (.invokevirtual 102, 3) := by decide +kernel
theorem dX6_count_67 : decode cX6_count 67 = .ok (.aload_n 0, 1) := by decide +kernel
theorem dX6_count_68 : decode cX6_count 68 = .ok (.getfield 33, 3) := by decide +kernel
theorem dX6_count_71 : decode cX6_count 71 = .ok (.invokevirtual 168, 3) := by decide +kernel
theorem dX6_count_74 : decode cX6_count 74 = .ok (.ireturn, 1) := by decide +kernel
theorem dX6_count_75 : decode cX6_count 75 = .ok (.aload_n 0, 1) := by decide +kernel
theorem dX6_count_76 : decode cX6_count 76 = .ok (.getfield 10, 3) := by decide +kernel
theorem dX6_count_79 : decode cX6_count 79 = .ok (.invokevirtual 188, 3) := by decide +kernel
theorem dX6_count_82 : decode cX6_count 82 = .ok (.ireturn, 1) := by decide +kernel
theorem dX6_count_83 : decode cX6_count 83 = .ok (.aload_n 0, 1) := by decide +kernel
theorem dX6_count_84 : decode cX6_count 84 = .ok (.invokevirtual 129, 3) := by decide +kernel
theorem dX6_count_87 : decode cX6_count 87 = .ok (.ireturn, 1) := by decide +kernel
theorem dX6_count_88 : decode cX6_count 88 = .ok (.aload_n 0, 1) := by decide +kernel
theorem dX6_count_89 : decode cX6_count 89 = .ok (.getfield 19, 3) := by decide +kernel
theorem dX6_count_92 : decode cX6_count 92 = .ok (.invokevirtual 190, 3) := by decide +kernel
theorem dX6_count_95 : decode cX6_count 95 = .ok (.ireturn, 1) := by decide +kernel
theorem dX6_count_96 : decode cX6_count 96 = .ok (.aload_n 0, 1) := by decide +kernel
theorem dX6_count_97 : decode cX6_count 97 = .ok (.getfield 43, 3) := by decide +kernel
theorem dX6_count_100 : decode cX6_count 100 = .ok (.invokevirtual 191, 3) := by decide +kernel
theorem dX6_count_103 : decode cX6_count 103 = .ok (.ireturn, 1) := by decide +kernel
theorem dX6_count_104 : decode cX6_count 104 = .ok (.ldc 68, 2) := by decide +kernel
theorem dX6_count_106 : decode cX6_count 106 = .ok (.ireturn, 1) := by decide +kernel
set_option maxRecDepth 20000 in
theorem ggX6_undo_X0_size : GoodIn wsX6_undo wsX0_size := goodIn_r _ [8, 9, 29, 30] (by decide +kernel) (by decide +kernel)
set_option maxRecDepth 20000 in
theorem gX6_undo_X0_size : GoodIn wsX6_undo (wsV RX6 190 RX0 yX0_size wsX0_size) := goodIn_app (goodIn_of _ (by decide +kernel)) ggX6_undo_X0_size
set_option maxRecDepth 20000 in
theorem ggX6_undo_X0_restore : GoodIn wsX6_undo wsX0_restore := goodIn_r _ [13, 9, 14, 15, 16, 17, 18, 19, 20, 21, 29, 30, 31, 32] (by decide +kernel) (by decide +kernel)
set_option maxRecDepth 20000 in
theorem gX6_undo_X0_restore : GoodIn wsX6_undo (wsV RX6 195 RX0 yX0_restore wsX0_restore) := goodIn_app (goodIn_of _ (by decide +kernel)) ggX6_undo_X0_restore
theorem dX6_undo_0 : decode cX6_undo 0 = .ok (.aload_n 0, 1) := by decide +kernel
theorem dX6_undo_1 : decode cX6_undo 1 = .ok (.getfield 19, 3) := by decide +kernel
theorem dX6_undo_4 : decode cX6_undo 4 = .ok (.invokevirtual 190, 3) := by decide +kernel
theorem dX6_undo_7 : decode cX6_undo 7 = .ok (.ifCond .ne 6, 3) := by decide +kernel
theorem dX6_undo_10 : decode cX6_undo 10 = .ok (.ldc 194, 2) := by decide +kernel
theorem dX6_undo_12 : decode cX6_undo 12 = .ok (.ireturn, 1) := by decide +kernel
theorem dX6_undo_13 : decode cX6_undo 13 = .ok (.aload_n 0, 1) := by decide +kernel
theorem dX6_undo_14 : decode cX6_undo 14 = .ok (.getfield 19, 3) := by decide +kernel
theorem dX6_undo_17 : decode cX6_undo 17 = .ok (.aload_n 0, 1) := by decide +kernel
theorem dX6_undo_18 : decode cX6_undo 18 = .ok (.getfield 10, 3) := by decide +kernel
theorem dX6_undo_21 : decode cX6_undo 21 = .ok (.invokevirtual 195, 3) := by decide +kernel
theorem dX6_undo_24 : decode cX6_undo 24 = .ok (.aload_n 0, 1) := by decide +kernel
theorem dX6_undo_25 : decode cX6_undo 25 = .ok (.getfield 19, 3) := by decide +kernel
theorem dX6_undo_28 : decode cX6_undo 28 = .ok (.invokevirtual 190, 3) := by decide +kernel
theorem dX6_undo_31 : decode cX6_undo 31 = .ok (.ireturn, 1) := by decide +kernel
set_option maxRecDepth 20000 in
theorem ggX6_type_X5_length : GoodIn wsX6_type wsX5_length := goodIn_r _ [8, 9, 22, 23] (by decide +kernel) (by decide +kernel)
set_option maxRecDepth 20000 in
theorem gX6_type_X5_length : GoodIn wsX6_type (wsV RX6 191 RX5 yX5_length wsX5_length) := goodIn_app (goodIn_of _ (by decide +kernel)) ggX6_type_X5_length
set_option maxRecDepth 20000 in
theorem ggX6_type_X5_append : GoodIn wsX6_type wsX5_append := goodIn_r _ [13, 9, 14, 22, 23] (by decide +kernel) (by decide +kernel)
set_option maxRecDepth 20000 in
theorem gX6_type_X5_append : GoodIn wsX6_type (wsV RX6 198 RX5 yX5_append wsX5_append) := goodIn_app (goodIn_of _ (by decide +kernel)) ggX6_type_X5_append
theorem dX6_type_0 : decode cX6_type 0 = .ok (.iload_n 1, 1) := by decide +kernel
theorem dX6_type_1 : decode cX6_type 1 = .ok (.bipush 32, 2) := by decide +kernel
theorem dX6_type_3 : decode cX6_type 3 = .ok (.if_icmp .lt 9, 3) := by decide +kernel
theorem dX6_type_6 : decode cX6_type 6 = .ok (.iload_n 1, 1) := by decide +kernel
theorem dX6_type_7 : decode cX6_type 7 = .ok (.bipush 126, 2) := by decide +kernel
theorem dX6_type_9 : decode cX6_type 9 = .ok (.if_icmp .le 6, 3) := by decide +kernel
theorem dX6_type_12 : decode cX6_type 12 = .ok (.ldc 68, 2) := by decide +kernel
theorem dX6_type_14 : decode cX6_type 14 = .ok (.ireturn, 1) := by decide +kernel
theorem dX6_type_15 : decode cX6_type 15 = .ok (.aload_n 0, 1) := by decide +kernel
theorem dX6_type_16 : decode cX6_type 16 = .ok (.getfield 43, 3) := by decide +kernel
theorem dX6_type_19 : decode cX6_type 19 = .ok (.invokevirtual 191, 3) := by decide +kernel
theorem dX6_type_22 : decode cX6_type 22 = .ok (.bipush 60, 2) := by decide +kernel
theorem dX6_type_24 : decode cX6_type 24 = .ok (.if_icmp .lt 6, 3) := by decide +kernel
theorem dX6_type_27 : decode cX6_type 27 = .ok (.ldc 69, 2) := by decide +kernel
theorem dX6_type_29 : decode cX6_type 29 = .ok (.ireturn, 1) := by decide +kernel
theorem dX6_type_30 : decode cX6_type 30 = .ok (.aload_n 0, 1) := by decide +kernel
theorem dX6_type_31 : decode cX6_type 31 = .ok (.getfield 43, 3) := by decide +kernel
theorem dX6_type_34 : decode cX6_type 34 = .ok (.iload_n 1, 1) := by decide +kernel
theorem dX6_type_35 : decode cX6_type 35 = .ok (.i2c, 1) := by decide +kernel
theorem dX6_type_36 : decode cX6_type 36 = .ok (.invokevirtual 198, 3) := by decide +kernel
theorem dX6_type_39 : decode cX6_type 39 = .ok (.aload_n 0, 1) := by decide +kernel
theorem dX6_type_40 : decode cX6_type 40 = .ok (.getfield 43, 3) := by decide +kernel
theorem dX6_type_43 : decode cX6_type 43 = .ok (.invokevirtual 191, 3) := by decide +kernel
theorem dX6_type_46 : decode cX6_type 46 = .ok (.ireturn, 1) := by decide +kernel
set_option maxRecDepth 20000 in
theorem ggX6_clearText_X5_length : GoodIn wsX6_clearText wsX5_length := goodIn_r _ [6, 7, 19, 20] (by decide +kernel) (by decide +kernel)
set_option maxRecDepth 20000 in
theorem gX6_clearText_X5_length : GoodIn wsX6_clearText (wsV RX6 191 RX5 yX5_length wsX5_length) := goodIn_app (goodIn_of _ (by decide +kernel)) ggX6_clearText_X5_length
set_option maxRecDepth 20000 in
theorem ggX6_clearText_X5_empty : GoodIn wsX6_clearText wsX5_empty := goodIn_r _ [11, 7, 19, 20] (by decide +kernel) (by decide +kernel)
set_option maxRecDepth 20000 in
theorem gX6_clearText_X5_empty : GoodIn wsX6_clearText (wsV RX6 202 RX5 yX5_empty wsX5_empty) := goodIn_app (goodIn_of _ (by decide +kernel)) ggX6_clearText_X5_empty
theorem dX6_clearText_0 : decode cX6_clearText 0 = .ok (.aload_n 0, 1) := by decide +kernel
theorem dX6_clearText_1 : decode cX6_clearText 1 = .ok (.getfield 43, 3) := by decide +kernel
theorem dX6_clearText_4 : decode cX6_clearText 4 = .ok (.invokevirtual 191, 3) := by decide +kernel
theorem dX6_clearText_7 : decode cX6_clearText 7 = .ok (.istore_n 1, 1) := by decide +kernel
theorem dX6_clearText_8 : decode cX6_clearText 8 = .ok (.aload_n 0, 1) := by decide +kernel
theorem dX6_clearText_9 : decode cX6_clearText 9 = .ok (.getfield 43, 3) := by decide +kernel
theorem dX6_clearText_12 : decode cX6_clearText 12 = .ok (.invokevirtual 202, 3) := by decide +kernel
theorem dX6_clearText_15 : decode cX6_clearText 15 = .ok (.iload_n 1, 1) := by decide +kernel
theorem dX6_clearText_16 : decode cX6_clearText 16 = .ok (.ireturn, 1) := by decide +kernel
set_option maxRecDepth 20000 in
theorem ggX6_fault_X6_isAtMost : GoodIn wsX6_fault wsX6_isAtMost := goodIn_r _ [8] (by decide +kernel) (by decide +kernel)
set_option maxRecDepth 20000 in
theorem gX6_fault_X6_isAtMost : GoodIn wsX6_fault (va_wsS RX6 60 yX6_isAtMost wsX6_isAtMost) := goodIn_app (goodIn_of _ (by decide +kernel)) ggX6_fault_X6_isAtMost
set_option maxRecDepth 20000 in
theorem ggX6_fault_X2_playAll : GoodIn wsX6_fault wsX2_playAll := goodIn_r _ [13, 14, 15, 16, 17, 18, 19, 20, 21, 22, 23, 24, 25, 26, 27, 28, 29, 30, 31, 32, 33, 12, 34, 35, 36, 37, 38, 39, 40, 41, 42, 43, 44, 45, 46, 47, 48, 49, 50, 51, 52, 53, 54, 55, 56, 57, 58, 59, 60, 61, 62, 63, 64, 65, 66, 67, 68, 69, 70, 71, 72, 73, 74, 75, 76, 77, 78, 79, 80, 81, 82, 83, 84, 85, 6, 7, 8, 86, 87, 88, 89, 90, 91, 92, 93, 94, 95, 96, 97, 98, 99, 100, 101, 102, 103, 104, 105, 106, 107, 108, 109, 110, 111, 112, 113, 114, 115, 116, 117, 118, 119, 120, 121, 122, 123, 124, 125, 126, 127, 147, 148, 149, 150, 151, 152, 153, 154, 155, 156, 157, 158, 159, 160] (by decide +kernel) (by decide +kernel)
set_option maxRecDepth 20000 in
theorem gX6_fault_X2_playAll : GoodIn wsX6_fault (wsV RX6 205 RX2 yX2_playAll wsX2_playAll) := goodIn_app (goodIn_of _ (by decide +kernel)) ggX6_fault_X2_playAll
set_option maxRecDepth 20000 in
theorem ggX6_fault_X2_reason : GoodIn wsX6_fault wsX2_reason := goodIn_r _ [131, 16, 147, 148, 149, 150, 151, 152, 153, 154, 155, 156] (by decide +kernel) (by decide +kernel)
set_option maxRecDepth 20000 in
theorem gX6_fault_X2_reason : GoodIn wsX6_fault (wsV RX6 208 RX2 yX2_reason wsX2_reason) := goodIn_app (goodIn_of _ (by decide +kernel)) ggX6_fault_X2_reason
set_option maxRecDepth 20000 in
theorem ggX6_fault_X2_position : GoodIn wsX6_fault wsX2_position := goodIn_r _ [135, 35, 147, 148, 149, 150, 151, 152, 153, 154, 155, 156] (by decide +kernel) (by decide +kernel)
set_option maxRecDepth 20000 in
theorem gX6_fault_X2_position : GoodIn wsX6_fault (wsV RX6 211 RX2 yX2_position wsX2_position) := goodIn_app (goodIn_of _ (by decide +kernel)) ggX6_fault_X2_position
set_option maxRecDepth 20000 in
theorem ggX6_fault_X2_cause : GoodIn wsX6_fault wsX2_cause := goodIn_r _ [139, 36, 147, 148, 149, 150, 151, 152, 153, 154, 155, 156] (by decide +kernel) (by decide +kernel)
set_option maxRecDepth 20000 in
theorem gX6_fault_X2_cause : GoodIn wsX6_fault (wsV RX6 214 RX2 yX2_cause wsX2_cause) := goodIn_app (goodIn_of _ (by decide +kernel)) ggX6_fault_X2_cause
theorem dX6_fault_0 : decode cX6_fault 0 = .ok (.iload_n 1, 1) := by decide +kernel
theorem dX6_fault_1 : decode cX6_fault 1 = .ok (.iconst 2, 1) := by decide +kernel
theorem dX6_fault_2 : decode cX6_fault 2 = .ok (.invokestatic 60, 3) := by decide +kernel
theorem dX6_fault_5 : decode cX6_fault 5 = .ok (.ifCond .ne 6, 3) := by decide +kernel
theorem dX6_fault_8 : decode cX6_fault 8 = .ok (.ldc 68, 2) := by decide +kernel
theorem dX6_fault_10 : decode cX6_fault 10 = .ok (.ireturn, 1) := by decide +kernel
theorem dX6_fault_11 : decode cX6_fault 11 = .ok (.aload_n 0, 1) := by decide +kernel
theorem dX6_fault_12 : decode cX6_fault 12 = .ok (.getfield 52, 3) := by decide +kernel
theorem dX6_fault_15 : decode cX6_fault 15 = .ok (.aload_n 0, 1) := by decide +kernel
theorem dX6_fault_16 : decode cX6_fault 16 = .ok (.getfield 10, 3) := by decide +kernel
theorem dX6_fault_19 : decode cX6_fault 19 = .ok (.invokevirtual 205, 3) := by decide +kernel
theorem dX6_fault_22 : decode cX6_fault 22 = .ok (.aload_n 0, 1) := by decide +kernel
theorem dX6_fault_23 : decode cX6_fault 23 = .ok (.getfield 52, 3) := by decide +kernel
theorem dX6_fault_26 : decode cX6_fault 26 = .ok (.invokevirtual 208, 3) := by decide +kernel
theorem dX6_fault_29 : decode cX6_fault 29 = .ok (.ifCond .ne 6, 3) := by decide +kernel
theorem dX6_fault_32 : decode cX6_fault 32 = .ok (.ldc 110, 2) := by decide +kernel
theorem dX6_fault_34 : decode cX6_fault 34 = .ok (.ireturn, 1) := by decide +kernel
theorem dX6_fault_35 : decode cX6_fault 35 = .ok (.iload_n 1, 1) := by decide +kernel
theorem dX6_fault_36 : decode cX6_fault 36 = .ok (.ifCond .ne 11, 3) := by decide +kernel
theorem dX6_fault_39 : decode cX6_fault 39 = .ok (.aload_n 0, 1) := by decide +kernel
theorem dX6_fault_40 : decode cX6_fault 40 = .ok (.getfield 52, 3) := by decide +kernel
theorem dX6_fault_43 : decode cX6_fault 43 = .ok (.invokevirtual 211, 3) := by decide +kernel
theorem dX6_fault_46 : decode cX6_fault 46 = .ok (.ireturn, 1) := by decide +kernel
theorem dX6_fault_47 : decode cX6_fault 47 = .ok (.iload_n 1, 1) := by decide +kernel
theorem dX6_fault_48 : decode cX6_fault 48 = .ok (.iconst 1, 1) := by decide +kernel
theorem dX6_fault_49 : decode cX6_fault 49 = .ok (.if_icmp .ne 11, 3) := by decide +kernel
theorem dX6_fault_52 : decode cX6_fault 52 = .ok (.aload_n 0, 1) := by decide +kernel
theorem dX6_fault_53 : decode cX6_fault 53 = .ok (.getfield 52, 3) := by decide +kernel
theorem dX6_fault_56 : decode cX6_fault 56 = .ok (.invokevirtual 208, 3) := by decide +kernel
theorem dX6_fault_59 : decode cX6_fault 59 = .ok (.ireturn, 1) := by decide +kernel
theorem dX6_fault_60 : decode cX6_fault 60 = .ok (.aload_n 0, 1) := by decide +kernel
theorem dX6_fault_61 : decode cX6_fault 61 = .ok (.getfield 52, 3) := by decide +kernel
theorem dX6_fault_64 : decode cX6_fault 64 = .ok (.invokevirtual 208, 3) := by decide +kernel
theorem dX6_fault_67 : decode cX6_fault 67 = .ok (.iconst 1, 1) := by decide +kernel
theorem dX6_fault_68 : decode cX6_fault 68 = .ok (.if_icmp .ne 13, 3) := by decide +kernel
theorem dX6_fault_71 : decode cX6_fault 71 = .ok (.aload_n 0, 1) := by decide +kernel
theorem dX6_fault_72 : decode cX6_fault 72 = .ok (.getfield 52, 3) := by decide +kernel
theorem dX6_fault_75 : decode cX6_fault 75 = .ok (.invokevirtual 214, 3) := by decide +kernel
theorem dX6_fault_78 : decode cX6_fault 78 = .ok (.goto 5, 3) := by decide +kernel
theorem dX6_fault_81 : decode cX6_fault 81 = .ok (.ldc 110, 2) := by decide +kernel
theorem dX6_fault_83 : decode cX6_fault 83 = .ok (.ireturn, 1) := by decide +kernel
set_option maxRecDepth 20000 in
theorem ggX6_play_X2_playAll : GoodIn wsX6_play wsX2_playAll := goodIn_r _ [9, 10, 11, 12, 13, 14, 15, 16, 17, 18, 19, 20, 21, 22, 23, 24, 25, 26, 27, 28, 29, 8, 30, 31, 32, 33, 34, 35, 36, 37, 38, 39, 40, 41, 42, 43, 44, 45, 46, 47, 48, 49, 50, 51, 52, 53, 54, 55, 56, 57, 58, 59, 60, 61, 62, 63, 64, 65, 66, 67, 68, 69, 70, 71, 72, 73, 74, 75, 76, 77, 78, 79, 80, 81, 82, 83, 84, 85, 86, 87, 88, 89, 90, 91, 92, 93, 94, 95, 96, 97, 98, 99, 100, 101, 102, 103, 104, 105, 106, 107, 108, 109, 110, 111, 112, 113, 114, 115, 116, 117, 118, 119, 120, 121, 122, 123, 124, 125, 126, 156, 157, 158, 159, 160, 161, 162, 163, 164, 165, 166, 167, 168, 169] (by decide +kernel) (by decide +kernel)
set_option maxRecDepth 20000 in
theorem gX6_play_X2_playAll : GoodIn wsX6_play (wsV RX6 205 RX2 yX2_playAll wsX2_playAll) := goodIn_app (goodIn_of _ (by decide +kernel)) ggX6_play_X2_playAll
set_option maxRecDepth 20000 in
theorem ggX6_play_X2_reason : GoodIn wsX6_play wsX2_reason := goodIn_r _ [130, 12, 156, 157, 158, 159, 160, 161, 162, 163, 164, 165] (by decide +kernel) (by decide +kernel)
set_option maxRecDepth 20000 in
theorem gX6_play_X2_reason : GoodIn wsX6_play (wsV RX6 208 RX2 yX2_reason wsX2_reason) := goodIn_app (goodIn_of _ (by decide +kernel)) ggX6_play_X2_reason
set_option maxRecDepth 20000 in
theorem ggX6_play_X0_remember : GoodIn wsX6_play wsX0_remember := goodIn_r _ [135, 136, 137, 138, 139, 140, 134, 141, 142, 15, 16, 17, 18, 19, 20, 170, 171, 166, 167] (by decide +kernel) (by decide +kernel)
set_option maxRecDepth 20000 in
theorem gX6_play_X0_remember : GoodIn wsX6_play (wsV RX6 70 RX0 yX0_remember wsX0_remember) := goodIn_app (goodIn_of _ (by decide +kernel)) ggX6_play_X0_remember
set_option maxRecDepth 20000 in
theorem ggX6_play_X2_outcome : GoodIn wsX6_play wsX2_outcome := goodIn_r _ [146, 10, 156, 157, 158, 159, 160, 161, 162, 163, 164, 165] (by decide +kernel) (by decide +kernel)
set_option maxRecDepth 20000 in
theorem gX6_play_X2_outcome : GoodIn wsX6_play (wsV RX6 217 RX2 yX2_outcome wsX2_outcome) := goodIn_app (goodIn_of _ (by decide +kernel)) ggX6_play_X2_outcome
set_option maxRecDepth 20000 in
theorem ggX6_play_X3_copyFrom : GoodIn wsX6_play wsX3_copyFrom := goodIn_r _ [18, 19, 20, 166, 167] (by decide +kernel) (by decide +kernel)
set_option maxRecDepth 20000 in
theorem gX6_play_X3_copyFrom : GoodIn wsX6_play (wsV RX6 221 RX3 yX3_copyFrom wsX3_copyFrom) := goodIn_app (goodIn_of _ (by decide +kernel)) ggX6_play_X3_copyFrom
set_option maxRecDepth 20000 in
theorem ggX6_play_X3_size : GoodIn wsX6_play wsX3_size := goodIn_r _ [81, 19, 166, 167] (by decide +kernel) (by decide +kernel)
set_option maxRecDepth 20000 in
theorem gX6_play_X3_size : GoodIn wsX6_play (wsV RX6 56 RX3 yX3_size wsX3_size) := goodIn_app (goodIn_of _ (by decide +kernel)) ggX6_play_X3_size
theorem dX6_play_0 : decode cX6_play 0 = .ok (.aload_n 0, 1) := by decide +kernel
theorem dX6_play_1 : decode cX6_play 1 = .ok (.getfield 52, 3) := by decide +kernel
theorem dX6_play_4 : decode cX6_play 4 = .ok (.aload_n 0, 1) := by decide +kernel
theorem dX6_play_5 : decode cX6_play 5 = .ok (.getfield 10, 3) := by decide +kernel
theorem dX6_play_8 : decode cX6_play 8 = .ok (.invokevirtual 205, 3) := by decide +kernel
theorem dX6_play_11 : decode cX6_play 11 = .ok (.aload_n 0, 1) := by decide +kernel
theorem dX6_play_12 : decode cX6_play 12 = .ok (.getfield 52, 3) := by decide +kernel
theorem dX6_play_15 : decode cX6_play 15 = .ok (.invokevirtual 208, 3) := by decide +kernel
theorem dX6_play_18 : decode cX6_play 18 = .ok (.ifCond .eq 6, 3) := by decide +kernel
theorem dX6_play_21 : decode cX6_play 21 = .ok (.ldc 194, 2) := by decide +kernel
theorem dX6_play_23 : decode cX6_play 23 = .ok (.ireturn, 1) := by decide +kernel
theorem dX6_play_24 : decode cX6_play 24 = .ok (.aload_n 0, 1) := by decide +kernel
theorem dX6_play_25 : decode cX6_play 25 = .ok (.getfield 19, 3) := by decide +kernel
theorem dX6_play_28 : decode cX6_play 28 = .ok (.aload_n 0, 1) := by decide +kernel
theorem dX6_play_29 : decode cX6_play 29 = .ok (.getfield 10, 3) := by decide +kernel
theorem dX6_play_32 : decode cX6_play 32 = .ok (.invokevirtual 70, 3) := by decide +kernel
theorem dX6_play_35 : decode cX6_play 35 = .ok (.aload_n 0, 1) := by decide +kernel
theorem dX6_play_36 : decode cX6_play 36 = .ok (.getfield 10, 3) := by decide +kernel
theorem dX6_play_39 : decode cX6_play 39 = .ok (.aload_n 0, 1) := by decide +kernel
theorem dX6_play_40 : decode cX6_play 40 = .ok (.getfield 52, 3) := by decide +kernel
theorem dX6_play_43 : decode cX6_play 43 = .ok (.invokevirtual 217, 3) := by decide +kernel
theorem dX6_play_46 : decode cX6_play 46 = .ok (.invokevirtual 221, 3) := by decide +kernel
theorem dX6_play_49 : decode cX6_play 49 = .ok (.aload_n 0, 1) := by decide +kernel
theorem dX6_play_50 : decode cX6_play 50 = .ok (.getfield 10, 3) := by decide +kernel
theorem dX6_play_53 : decode cX6_play 53 = .ok (.invokevirtual 56, 3) := by decide +kernel
theorem dX6_play_56 : decode cX6_play 56 = .ok (.ireturn, 1) := by decide +kernel
theorem dX6_isAtMost_0 : decode cX6_isAtMost 0 = .ok (.iload_n 0, 1) := by decide +kernel
theorem dX6_isAtMost_1 : decode cX6_isAtMost 1 = .ok (.ifCond .lt 12, 3) := by decide +kernel
theorem dX6_isAtMost_4 : decode cX6_isAtMost 4 = .ok (.iload_n 0, 1) := by decide +kernel
theorem dX6_isAtMost_5 : decode cX6_isAtMost 5 = .ok (.iload_n 1, 1) := by decide +kernel
theorem dX6_isAtMost_6 : decode cX6_isAtMost 6 = .ok (.if_icmp .gt 7, 3) := by decide +kernel
theorem dX6_isAtMost_9 : decode cX6_isAtMost 9 = .ok (.iconst 1, 1) := by decide +kernel
theorem dX6_isAtMost_10 : decode cX6_isAtMost 10 = .ok (.goto 4, 3) := by decide +kernel
theorem dX6_isAtMost_13 : decode cX6_isAtMost 13 = .ok (.iconst 0, 1) := by decide +kernel
theorem dX6_isAtMost_14 : decode cX6_isAtMost 14 = .ok (.ireturn, 1) := by decide +kernel
theorem dX6_isSymbol_0 : decode cX6_isSymbol 0 = .ok (.iload_n 0, 1) := by decide +kernel
theorem dX6_isSymbol_1 : decode cX6_isSymbol 1 = .ok (.ifCond .lt 13, 3) := by decide +kernel
theorem dX6_isSymbol_4 : decode cX6_isSymbol 4 = .ok (.iload_n 0, 1) := by decide +kernel
theorem dX6_isSymbol_5 : decode cX6_isSymbol 5 = .ok (.bipush 16, 2) := by decide +kernel
theorem dX6_isSymbol_7 : decode cX6_isSymbol 7 = .ok (.if_icmp .ge 7, 3) := by decide +kernel
theorem dX6_isSymbol_10 : decode cX6_isSymbol 10 = .ok (.iconst 1, 1) := by decide +kernel
theorem dX6_isSymbol_11 : decode cX6_isSymbol 11 = .ok (.goto 4, 3) := by decide +kernel
theorem dX6_isSymbol_14 : decode cX6_isSymbol 14 = .ok (.iconst 0, 1) := by decide +kernel
theorem dX6_isSymbol_15 : decode cX6_isSymbol 15 = .ok (.ireturn, 1) := by decide +kernel
theorem dX6_hasBits_0 : decode cX6_hasBits 0 = .ok (.iload_n 0, 1) := by decide +kernel
theorem dX6_hasBits_1 : decode cX6_hasBits 1 = .ok (.ifCond .lt 12, 3) := by decide +kernel
theorem dX6_hasBits_4 : decode cX6_hasBits 4 = .ok (.iload_n 0, 1) := by decide +kernel
theorem dX6_hasBits_5 : decode cX6_hasBits 5 = .ok (.iconst 4, 1) := by decide +kernel
theorem dX6_hasBits_6 : decode cX6_hasBits 6 = .ok (.if_icmp .ge 7, 3) := by decide +kernel
theorem dX6_hasBits_9 : decode cX6_hasBits 9 = .ok (.iconst 1, 1) := by decide +kernel
theorem dX6_hasBits_10 : decode cX6_hasBits 10 = .ok (.goto 4, 3) := by decide +kernel
theorem dX6_hasBits_13 : decode cX6_hasBits 13 = .ok (.iconst 0, 1) := by decide +kernel
theorem dX6_hasBits_14 : decode cX6_hasBits 14 = .ok (.ireturn, 1) := by decide +kernel
theorem dX6_foundOr_0 : decode cX6_foundOr 0 = .ok (.iload_n 0, 1) := by decide +kernel
theorem dX6_foundOr_1 : decode cX6_foundOr 1 = .ok (.iconst (-1), 1) := by decide +kernel
theorem dX6_foundOr_2 : decode cX6_foundOr 2 = .ok (.if_icmp .ne 8, 3) := by decide +kernel
theorem dX6_foundOr_5 : decode cX6_foundOr 5 = .ok (.ldc 110, 2) := by decide +kernel
theorem dX6_foundOr_7 : decode cX6_foundOr 7 = .ok (.goto 4, 3) := by decide +kernel
theorem dX6_foundOr_10 : decode cX6_foundOr 10 = .ok (.iload_n 0, 1) := by decide +kernel
theorem dX6_foundOr_11 : decode cX6_foundOr 11 = .ok (.ireturn, 1) := by decide +kernel
set_option maxRecDepth 20000 in
theorem ggX6_blocks_X3_size : GoodIn wsX6_blocks wsX3_size := goodIn_r _ [6, 7, 15, 16] (by decide +kernel) (by decide +kernel)
set_option maxRecDepth 20000 in
theorem gX6_blocks_X3_size : GoodIn wsX6_blocks (wsV RX6 56 RX3 yX3_size wsX3_size) := goodIn_app (goodIn_of _ (by decide +kernel)) ggX6_blocks_X3_size
theorem dX6_blocks_0 : decode cX6_blocks 0 = .ok (.aload_n 0, 1) := by decide +kernel
theorem dX6_blocks_1 : decode cX6_blocks 1 = .ok (.getfield 10, 3) := by decide +kernel
theorem dX6_blocks_4 : decode cX6_blocks 4 = .ok (.invokevirtual 56, 3) := by decide +kernel
theorem dX6_blocks_7 : decode cX6_blocks 7 = .ok (.bipush 8, 2) := by decide +kernel
theorem dX6_blocks_9 : decode cX6_blocks 9 = .ok (.iadd, 1) := by decide +kernel
theorem dX6_blocks_10 : decode cX6_blocks 10 = .ok (.iconst 1, 1) := by decide +kernel
theorem dX6_blocks_11 : decode cX6_blocks 11 = .ok (.isub, 1) := by decide +kernel
theorem dX6_blocks_12 : decode cX6_blocks 12 = .ok (.bipush 8, 2) := by decide +kernel
theorem dX6_blocks_14 : decode cX6_blocks 14 = .ok (.idiv, 1) := by decide +kernel
theorem dX6_blocks_15 : decode cX6_blocks 15 = .ok (.ireturn, 1) := by decide +kernel
