set_option maxRecDepth 20000 in
theorem ggX0_init_X3_init : GoodIn wsX0_init wsX3_init := goodIn_r _ [11, 12, 2, 3, 13, 14, 15, 18, 19] (by decide +kernel) (by decide +kernel)
set_option maxRecDepth 20000 in
theorem gX0_init_X3_init : GoodIn wsX0_init (wsX3_init) := ggX0_init_X3_init
theorem dX0_init_0 : decode cX0_init 0 = .ok (.aload_n 0, 1) := by decide +kernel
theorem dX0_init_1 : decode cX0_init 1 = .ok (.invokespecial 3, 3) := by decide +kernel
theorem dX0_init_4 : decode cX0_init 4 = .ok (.aload_n 0, 1) := by decide +kernel
theorem dX0_init_5 : decode cX0_init 5 = .ok (.iconst 4, 1) := by decide +kernel
theorem dX0_init_6 : decode cX0_init 6 = .ok (.anewarray 9, 3) := by decide +kernel
theorem dX0_init_9 : decode cX0_init 9 = .ok (.putfield 11, 3) := by decide +kernel
theorem dX0_init_12 : decode cX0_init 12 = .ok (.iconst 0, 1) := by decide +kernel
theorem dX0_init_13 : decode cX0_init 13 = .ok (.istore_n 1, 1) := by decide +kernel
theorem dX0_init_14 : decode cX0_init 14 = .ok (.iload_n 1, 1) := by decide +kernel
theorem dX0_init_15 : decode cX0_init 15 = .ok (.iconst 4, 1) := by decide +kernel
theorem dX0_init_16 : decode cX0_init 16 = .ok (.if_icmp .ge 22, 3) := by decide +kernel
theorem dX0_init_19 : decode cX0_init 19 = .ok (.aload_n 0, 1) := by decide +kernel
theorem dX0_init_20 : decode cX0_init 20 = .ok (.getfield 11, 3) := by decide +kernel
theorem dX0_init_23 : decode cX0_init 23 = .ok (.iload_n 1, 1) := by decide +kernel
theorem dX0_init_24 : decode cX0_init 24 = .ok (.new 9, 3) := by decide +kernel
theorem dX0_init_27 : decode cX0_init 27 = .ok (.dup, 1) := by decide +kernel
theorem dX0_init_28 : decode cX0_init 28 = .ok (.invokespecial 17, 3) := by decide +kernel
theorem dX0_init_31 : decode cX0_init 31 = .ok (.aastore, 1) := by decide +kernel
theorem dX0_init_32 : decode cX0_init 32 = .ok (.iinc 1 1, 3) := by decide +kernel
theorem dX0_init_35 : decode cX0_init 35 = .ok (.goto (-21), 3) := by decide +kernel
theorem dX0_init_38 : decode cX0_init 38 = .ok (.aload_n 0, 1) := by decide +kernel
theorem dX0_init_39 : decode cX0_init 39 = .ok (.iconst 0, 1) := by decide +kernel
theorem dX0_init_40 : decode cX0_init 40 = .ok (.putfield 18, 3) := by decide +kernel
theorem dX0_init_43 : decode cX0_init 43 = .ok (.return_, 1) := by decide +kernel
theorem dX0_size_0 : decode cX0_size 0 = .ok (.aload_n 0, 1) := by decide +kernel
theorem dX0_size_1 : decode cX0_size 1 = .ok (.getfield 18, 3) := by decide +kernel
theorem dX0_size_4 : decode cX0_size 4 = .ok (.ireturn, 1) := by decide +kernel
set_option maxRecDepth 20000 in
theorem ggX0_remember_X0_dropOldest : GoodIn wsX0_remember wsX0_dropOldest := goodIn_r _ [7, 2, 1, 8, 9, 10, 11, 12, 13, 14, 15, 16, 17, 18] (by decide +kernel) (by decide +kernel)
set_option maxRecDepth 20000 in
theorem gX0_remember_X0_dropOldest : GoodIn wsX0_remember (wsV RX0 22 RX0 yX0_dropOldest wsX0_dropOldest) := goodIn_app (goodIn_of _ (by decide +kernel)) ggX0_remember_X0_dropOldest
set_option maxRecDepth 20000 in
theorem ggX0_remember_X3_copyFrom : GoodIn wsX0_remember wsX3_copyFrom := goodIn_r _ [12, 13, 14, 17, 18] (by decide +kernel) (by decide +kernel)
set_option maxRecDepth 20000 in
theorem gX0_remember_X3_copyFrom : GoodIn wsX0_remember (wsV RX0 25 RX3 yX3_copyFrom wsX3_copyFrom) := goodIn_app (goodIn_of _ (by decide +kernel)) ggX0_remember_X3_copyFrom
theorem dX0_remember_0 : decode cX0_remember 0 = .ok (.aload_n 0, 1) := by decide +kernel
theorem dX0_remember_1 : decode cX0_remember 1 = .ok (.getfield 18, 3) := by decide +kernel
theorem dX0_remember_4 : decode cX0_remember 4 = .ok (.iconst 4, 1) := by decide +kernel
theorem dX0_remember_5 : decode cX0_remember 5 = .ok (.if_icmp .lt 7, 3) := by decide +kernel
theorem dX0_remember_8 : decode cX0_remember 8 = .ok (.aload_n 0, 1) := by decide +kernel
theorem dX0_remember_9 : decode cX0_remember 9 = .ok (.invokevirtual 22, 3) := by decide +kernel
theorem dX0_remember_12 : decode cX0_remember 12 = .ok (.aload_n 0, 1) := by decide +kernel
theorem dX0_remember_13 : decode cX0_remember 13 = .ok (.getfield 11, 3) := by decide +kernel
theorem dX0_remember_16 : decode cX0_remember 16 = .ok (.aload_n 0, 1) := by decide +kernel
theorem dX0_remember_17 : decode cX0_remember 17 = .ok (.getfield 18, 3) := by decide +kernel
theorem dX0_remember_20 : decode cX0_remember 20 = .ok (.aaload, 1) := by decide +kernel
theorem dX0_remember_21 : decode cX0_remember 21 = .ok (.aload_n 1, 1) := by decide +kernel
theorem dX0_remember_22 : decode cX0_remember 22 = .ok (.invokevirtual 25, 3) := by decide +kernel
theorem dX0_remember_25 : decode cX0_remember 25 = .ok (.aload_n 0, 1) := by decide +kernel
theorem dX0_remember_26 : decode cX0_remember 26 = .ok (.dup, 1) := by decide +kernel
theorem dX0_remember_27 : decode cX0_remember 27 = .ok (.getfield 18, 3) := by decide +kernel
theorem dX0_remember_30 : decode cX0_remember 30 = .ok (.iconst 1, 1) := by decide +kernel
theorem dX0_remember_31 : decode cX0_remember 31 = .ok (.iadd, 1) := by decide +kernel
theorem dX0_remember_32 : decode cX0_remember 32 = .ok (.putfield 18, 3) := by decide +kernel
theorem dX0_remember_35 : decode cX0_remember 35 = .ok (.return_, 1) := by decide +kernel
set_option maxRecDepth 20000 in
theorem ggX0_dropOldest_X3_copyFrom : GoodIn wsX0_dropOldest wsX3_copyFrom := goodIn_r _ [7, 8, 9, 12, 13] (by decide +kernel) (by decide +kernel)
set_option maxRecDepth 20000 in
theorem gX0_dropOldest_X3_copyFrom : GoodIn wsX0_dropOldest (wsV RX0 25 RX3 yX3_copyFrom wsX3_copyFrom) := goodIn_app (goodIn_of _ (by decide +kernel)) ggX0_dropOldest_X3_copyFrom
theorem dX0_dropOldest_0 : decode cX0_dropOldest 0 = .ok (.iconst 1, 1) := by decide +kernel
theorem dX0_dropOldest_1 : decode cX0_dropOldest 1 = .ok (.istore_n 1, 1) := by decide +kernel
theorem dX0_dropOldest_2 : decode cX0_dropOldest 2 = .ok (.iload_n 1, 1) := by decide +kernel
theorem dX0_dropOldest_3 : decode cX0_dropOldest 3 = .ok (.iconst 4, 1) := by decide +kernel
theorem dX0_dropOldest_4 : decode cX0_dropOldest 4 = .ok (.if_icmp .ge 26, 3) := by decide +kernel
theorem dX0_dropOldest_7 : decode cX0_dropOldest 7 = .ok (.aload_n 0, 1) := by decide +kernel
theorem dX0_dropOldest_8 : decode cX0_dropOldest 8 = .ok (.getfield 11, 3) := by decide +kernel
theorem dX0_dropOldest_11 : decode cX0_dropOldest 11 = .ok (.iload_n 1, 1) := by decide +kernel
theorem dX0_dropOldest_12 : decode cX0_dropOldest 12 = .ok (.iconst 1, 1) := by decide +kernel
theorem dX0_dropOldest_13 : decode cX0_dropOldest 13 = .ok (.isub, 1) := by decide +kernel
theorem dX0_dropOldest_14 : decode cX0_dropOldest 14 = .ok (.aaload, 1) := by decide +kernel
theorem dX0_dropOldest_15 : decode cX0_dropOldest 15 = .ok (.aload_n 0, 1) := by decide +kernel
theorem dX0_dropOldest_16 : decode cX0_dropOldest 16 = .ok (.getfield 11, 3) := by decide +kernel
theorem dX0_dropOldest_19 : decode cX0_dropOldest 19 = .ok (.iload_n 1, 1) := by decide +kernel
theorem dX0_dropOldest_20 : decode cX0_dropOldest 20 = .ok (.aaload, 1) := by decide +kernel
theorem dX0_dropOldest_21 : decode cX0_dropOldest 21 = .ok (.invokevirtual 25, 3) := by decide +kernel
theorem dX0_dropOldest_24 : decode cX0_dropOldest 24 = .ok (.iinc 1 1, 3) := by decide +kernel
theorem dX0_dropOldest_27 : decode cX0_dropOldest 27 = .ok (.goto (-25), 3) := by decide +kernel
theorem dX0_dropOldest_30 : decode cX0_dropOldest 30 = .ok (.aload_n 0, 1) := by decide +kernel
theorem dX0_dropOldest_31 : decode cX0_dropOldest 31 = .ok (.iconst 3, 1) := by decide +kernel
theorem dX0_dropOldest_32 : decode cX0_dropOldest 32 = .ok (.putfield 18, 3) := by decide +kernel
theorem dX0_dropOldest_35 : decode cX0_dropOldest 35 = .ok (.return_, 1) := by decide +kernel
set_option maxRecDepth 20000 in
theorem ggX0_restore_X3_copyFrom : GoodIn wsX0_restore wsX3_copyFrom := goodIn_r _ [7, 8, 9, 12, 13] (by decide +kernel) (by decide +kernel)
set_option maxRecDepth 20000 in
theorem gX0_restore_X3_copyFrom : GoodIn wsX0_restore (wsV RX0 25 RX3 yX3_copyFrom wsX3_copyFrom) := goodIn_app (goodIn_of _ (by decide +kernel)) ggX0_restore_X3_copyFrom
theorem dX0_restore_0 : decode cX0_restore 0 = .ok (.aload_n 0, 1) := by decide +kernel
theorem dX0_restore_1 : decode cX0_restore 1 = .ok (.getfield 18, 3) := by decide +kernel
theorem dX0_restore_4 : decode cX0_restore 4 = .ok (.ifCond .le 26, 3) := by decide +kernel
theorem dX0_restore_7 : decode cX0_restore 7 = .ok (.aload_n 0, 1) := by decide +kernel
theorem dX0_restore_8 : decode cX0_restore 8 = .ok (.dup, 1) := by decide +kernel
theorem dX0_restore_9 : decode cX0_restore 9 = .ok (.getfield 18, 3) := by decide +kernel
theorem dX0_restore_12 : decode cX0_restore 12 = .ok (.iconst 1, 1) := by decide +kernel
theorem dX0_restore_13 : decode cX0_restore 13 = .ok (.isub, 1) := by decide +kernel
theorem dX0_restore_14 : decode cX0_restore 14 = .ok (.putfield 18, 3) := by decide +kernel
theorem dX0_restore_17 : decode cX0_restore 17 = .ok (.aload_n 1, 1) := by decide +kernel
theorem dX0_restore_18 : decode cX0_restore 18 = .ok (.aload_n 0, 1) := by decide +kernel
theorem dX0_restore_19 : decode cX0_restore 19 = .ok (.getfield 11, 3) := by decide +kernel
theorem dX0_restore_22 : decode cX0_restore 22 = .ok (.aload_n 0, 1) := by decide +kernel
theorem dX0_restore_23 : decode cX0_restore 23 = .ok (.getfield 18, 3) := by decide +kernel
theorem dX0_restore_26 : decode cX0_restore 26 = .ok (.aaload, 1) := by decide +kernel
theorem dX0_restore_27 : decode cX0_restore 27 = .ok (.invokevirtual 25, 3) := by decide +kernel
theorem dX0_restore_30 : decode cX0_restore 30 = .ok (.return_, 1) := by decide +kernel
theorem dX1_init_0 : decode cX1_init 0 = .ok (.aload_n 0, 1) := by decide +kernel
theorem dX1_init_1 : decode cX1_init 1 = .ok (.invokespecial 3, 3) := by decide +kernel
theorem dX1_init_4 : decode cX1_init 4 = .ok (.aload_n 0, 1) := by decide +kernel
theorem dX1_init_5 : decode cX1_init 5 = .ok (.iconst 5, 1) := by decide +kernel
theorem dX1_init_6 : decode cX1_init 6 = .ok (.bipush 60, 2) := by decide +kernel
theorem dX1_init_8 : decode cX1_init 8 = .ok (.multianewarray 9 2, 4) := by decide +kernel
theorem dX1_init_12 : decode cX1_init 12 = .ok (.putfield 11, 3) := by decide +kernel
theorem dX1_init_15 : decode cX1_init 15 = .ok (.aload_n 0, 1) := by decide +kernel
theorem dX1_init_16 : decode cX1_init 16 = .ok (.iconst 5, 1) := by decide +kernel
theorem dX1_init_17 : decode cX1_init 17 = .ok (.bipush 60, 2) := by decide +kernel
theorem dX1_init_19 : decode cX1_init 19 = .ok (.multianewarray 9 2, 4) := by decide +kernel
theorem dX1_init_23 : decode cX1_init 23 = .ok (.putfield 16, 3) := by decide +kernel
theorem dX1_init_26 : decode cX1_init 26 = .ok (.aload_n 0, 1) := by decide +kernel
theorem dX1_init_27 : decode cX1_init 27 = .ok (.iconst 4, 1) := by decide +kernel
theorem dX1_init_28 : decode cX1_init 28 = .ok (.bipush 60, 2) := by decide +kernel
theorem dX1_init_30 : decode cX1_init 30 = .ok (.multianewarray 9 2, 4) := by decide +kernel
theorem dX1_init_34 : decode cX1_init 34 = .ok (.putfield 19, 3) := by decide +kernel
theorem dX1_init_37 : decode cX1_init 37 = .ok (.aload_n 0, 1) := by decide +kernel
theorem dX1_init_38 : decode cX1_init 38 = .ok (.iconst 0, 1) := by decide +kernel
theorem dX1_init_39 : decode cX1_init 39 = .ok (.putfield 22, 3) := by decide +kernel
theorem dX1_init_42 : decode cX1_init 42 = .ok (.return_, 1) := by decide +kernel
set_option maxRecDepth 20000 in
theorem ggX1_build_X3_size : GoodIn wsX1_build wsX3_size := goodIn_r _ [8, 9, 42, 43] (by decide +kernel) (by decide +kernel)
set_option maxRecDepth 20000 in
theorem gX1_build_X3_size : GoodIn wsX1_build (wsV RX1 26 RX3 yX3_size wsX3_size) := goodIn_app (goodIn_of _ (by decide +kernel)) ggX1_build_X3_size
set_option maxRecDepth 20000 in
theorem ggX1_build_X3_at : GoodIn wsX1_build wsX3_at := goodIn_r _ [13, 14, 15, 16, 17, 7, 18, 9, 42, 43] (by decide +kernel) (by decide +kernel)
set_option maxRecDepth 20000 in
theorem gX1_build_X3_at : GoodIn wsX1_build (wsV RX1 31 RX3 yX3_at wsX3_at) := goodIn_app (goodIn_of _ (by decide +kernel)) ggX1_build_X3_at
set_option maxRecDepth 20000 in
theorem ggX1_build_X1_moveBits : GoodIn wsX1_build wsX1_moveBits := goodIn_r _ [23, 1, 24, 2, 3, 25, 26, 27, 22, 28, 29, 30, 31, 32, 33, 34, 35, 36, 37, 38, 39, 40, 41] (by decide +kernel) (by decide +kernel)
set_option maxRecDepth 20000 in
theorem gX1_build_X1_moveBits : GoodIn wsX1_build (wsV RX1 35 RX1 yX1_moveBits wsX1_moveBits) := goodIn_app (goodIn_of _ (by decide +kernel)) ggX1_build_X1_moveBits
theorem dX1_build_0 : decode cX1_build 0 = .ok (.aload_n 0, 1) := by decide +kernel
theorem dX1_build_1 : decode cX1_build 1 = .ok (.aload_n 1, 1) := by decide +kernel
theorem dX1_build_2 : decode cX1_build 2 = .ok (.invokevirtual 26, 3) := by decide +kernel
theorem dX1_build_5 : decode cX1_build 5 = .ok (.putfield 22, 3) := by decide +kernel
theorem dX1_build_8 : decode cX1_build 8 = .ok (.iconst 0, 1) := by decide +kernel
theorem dX1_build_9 : decode cX1_build 9 = .ok (.istore_n 2, 1) := by decide +kernel
theorem dX1_build_10 : decode cX1_build 10 = .ok (.iload_n 2, 1) := by decide +kernel
theorem dX1_build_11 : decode cX1_build 11 = .ok (.aload_n 0, 1) := by decide +kernel
theorem dX1_build_12 : decode cX1_build 12 = .ok (.getfield 22, 3) := by decide +kernel
theorem dX1_build_15 : decode cX1_build 15 = .ok (.if_icmp .ge 31, 3) := by decide +kernel
theorem dX1_build_18 : decode cX1_build 18 = .ok (.aload_n 0, 1) := by decide +kernel
theorem dX1_build_19 : decode cX1_build 19 = .ok (.getfield 11, 3) := by decide +kernel
theorem dX1_build_22 : decode cX1_build 22 = .ok (.iconst 0, 1) := by decide +kernel
theorem dX1_build_23 : decode cX1_build 23 = .ok (.aaload, 1) := by decide +kernel
theorem dX1_build_24 : decode cX1_build 24 = .ok (.iload_n 2, 1) := by decide +kernel
theorem dX1_build_25 : decode cX1_build 25 = .ok (.aload_n 1, 1) := by decide +kernel
theorem dX1_build_26 : decode cX1_build 26 = .ok (.iload_n 2, 1) := by decide +kernel
theorem dX1_build_27 : decode cX1_build 27 = .ok (.invokevirtual 31, 3) := by decide +kernel
theorem dX1_build_30 : decode cX1_build 30 = .ok (.iastore, 1) := by decide +kernel
theorem dX1_build_31 : decode cX1_build 31 = .ok (.aload_n 0, 1) := by decide +kernel
theorem dX1_build_32 : decode cX1_build 32 = .ok (.getfield 16, 3) := by decide +kernel
theorem dX1_build_35 : decode cX1_build 35 = .ok (.iconst 0, 1) := by decide +kernel
theorem dX1_build_36 : decode cX1_build 36 = .ok (.aaload, 1) := by decide +kernel
theorem dX1_build_37 : decode cX1_build 37 = .ok (.iload_n 2, 1) := by decide +kernel
theorem dX1_build_38 : decode cX1_build 38 = .ok (.iload_n 2, 1) := by decide +kernel
theorem dX1_build_39 : decode cX1_build 39 = .ok (.iastore, 1) := by decide +kernel
theorem dX1_build_40 : decode cX1_build 40 = .ok (.iinc 2 1, 3) := by decide +kernel
theorem dX1_build_43 : decode cX1_build 43 = .ok (.goto (-33), 3) := by decide +kernel
theorem dX1_build_46 : decode cX1_build 46 = .ok (.iconst 0, 1) := by decide +kernel
theorem dX1_build_47 : decode cX1_build 47 = .ok (.istore_n 2, 1) := by decide +kernel
theorem dX1_build_48 : decode cX1_build 48 = .ok (.iload_n 2, 1) := by decide +kernel
theorem dX1_build_49 : decode cX1_build 49 = .ok (.iconst 4, 1) := by decide +kernel
theorem dX1_build_50 : decode cX1_build 50 = .ok (.if_icmp .ge 25, 3) := by decide +kernel
theorem dX1_build_53 : decode cX1_build 53 = .ok (.aload_n 0, 1) := by decide +kernel
theorem dX1_build_54 : decode cX1_build 54 = .ok (.iload_n 2, 1) := by decide +kernel
theorem dX1_build_55 : decode cX1_build 55 = .ok (.iconst 0, 1) := by decide +kernel
theorem dX1_build_56 : decode cX1_build 56 = .ok (.iconst 0, 1) := by decide +kernel
theorem dX1_build_57 : decode cX1_build 57 = .ok (.invokevirtual 35, 3) := by decide +kernel
theorem dX1_build_60 : decode cX1_build 60 = .ok (.istore_n 3, 1) := by decide +kernel
theorem dX1_build_61 : decode cX1_build 61 = .ok (.aload_n 0, 1) := by decide +kernel
theorem dX1_build_62 : decode cX1_build 62 = .ok (.iload_n 2, 1) := by decide +kernel
theorem dX1_build_63 : decode cX1_build 63 = .ok (.iconst 1, 1) := by decide +kernel
theorem dX1_build_64 : decode cX1_build 64 = .ok (.iload_n 3, 1) := by decide +kernel
theorem dX1_build_65 : decode cX1_build 65 = .ok (.invokevirtual 35, 3) := by decide +kernel
theorem dX1_build_68 : decode cX1_build 68 = .ok (.pop, 1) := by decide +kernel
theorem dX1_build_69 : decode cX1_build 69 = .ok (.iinc 2 1, 3) := by decide +kernel
theorem dX1_build_72 : decode cX1_build 72 = .ok (.goto (-24), 3) := by decide +kernel
theorem dX1_build_75 : decode cX1_build 75 = .ok (.return_, 1) := by decide +kernel
set_option maxRecDepth 20000 in
theorem ggX1_moveBits_X1_bitOf : GoodIn wsX1_moveBits wsX1_bitOf := goodIn_r _ [9, 3, 10, 11, 12, 13, 14, 15, 8, 16, 1, 17, 18, 19, 20, 21, 22] (by decide +kernel) (by decide +kernel)
set_option maxRecDepth 20000 in
theorem gX1_moveBits_X1_bitOf : GoodIn wsX1_moveBits (wsV RX1 39 RX1 yX1_bitOf wsX1_bitOf) := goodIn_app (goodIn_of _ (by decide +kernel)) ggX1_moveBits_X1_bitOf
theorem dX1_moveBits_0 : decode cX1_moveBits 0 = .ok (.iload_n 3, 1) := by decide +kernel
theorem dX1_moveBits_1 : decode cX1_moveBits 1 = .ok (.istore 4, 2) := by decide +kernel
theorem dX1_moveBits_3 : decode cX1_moveBits 3 = .ok (.iconst 0, 1) := by decide +kernel
theorem dX1_moveBits_4 : decode cX1_moveBits 4 = .ok (.istore 5, 2) := by decide +kernel
theorem dX1_moveBits_6 : decode cX1_moveBits 6 = .ok (.iload 5, 2) := by decide +kernel
theorem dX1_moveBits_8 : decode cX1_moveBits 8 = .ok (.aload_n 0, 1) := by decide +kernel
theorem dX1_moveBits_9 : decode cX1_moveBits 9 = .ok (.getfield 22, 3) := by decide +kernel
theorem dX1_moveBits_12 : decode cX1_moveBits 12 = .ok (.if_icmp .ge 83, 3) := by decide +kernel
theorem dX1_moveBits_15 : decode cX1_moveBits 15 = .ok (.aload_n 0, 1) := by decide +kernel
theorem dX1_moveBits_16 : decode cX1_moveBits 16 = .ok (.iload_n 1, 1) := by decide +kernel
theorem dX1_moveBits_17 : decode cX1_moveBits 17 = .ok (.iload 5, 2) := by decide +kernel
theorem dX1_moveBits_19 : decode cX1_moveBits 19 = .ok (.invokevirtual 39, 3) := by decide +kernel
theorem dX1_moveBits_22 : decode cX1_moveBits 22 = .ok (.iload_n 2, 1) := by decide +kernel
theorem dX1_moveBits_23 : decode cX1_moveBits 23 = .ok (.if_icmp .ne 66, 3) := by decide +kernel
theorem dX1_moveBits_26 : decode cX1_moveBits 26 = .ok (.iload 4, 2) := by decide +kernel
theorem dX1_moveBits_28 : decode cX1_moveBits 28 = .ok (.aload_n 0, 1) := by decide +kernel
theorem dX1_moveBits_29 : decode cX1_moveBits 29 = .ok (.getfield 22, 3) := by decide +kernel
theorem dX1_moveBits_32 : decode cX1_moveBits 32 = .ok (.if_icmp .ge 57, 3) := by decide +kernel
theorem dX1_moveBits_35 : decode cX1_moveBits 35 = .ok (.aload_n 0, 1) := by decide +kernel
theorem dX1_moveBits_36 : decode cX1_moveBits 36 = .ok (.getfield 19, 3) := by decide +kernel
theorem dX1_moveBits_39 : decode cX1_moveBits 39 = .ok (.iload_n 1, 1) := by decide +kernel
theorem dX1_moveBits_40 : decode cX1_moveBits 40 = .ok (.aaload, 1) := by decide +kernel
theorem dX1_moveBits_41 : decode cX1_moveBits 41 = .ok (.iload 5, 2) := by decide +kernel
theorem dX1_moveBits_43 : decode cX1_moveBits 43 = .ok (.iload 4, 2) := by decide +kernel
theorem dX1_moveBits_45 : decode cX1_moveBits 45 = .ok (.iastore, 1) := by decide +kernel
theorem dX1_moveBits_46 : decode cX1_moveBits 46 = .ok (.aload_n 0, 1) := by decide +kernel
theorem dX1_moveBits_47 : decode cX1_moveBits 47 = .ok (.getfield 11, 3) := by decide +kernel
theorem dX1_moveBits_50 : decode cX1_moveBits 50 = .ok (.iload_n 1, 1) := by decide +kernel
theorem dX1_moveBits_51 : decode cX1_moveBits 51 = .ok (.iconst 1, 1) := by decide +kernel
theorem dX1_moveBits_52 : decode cX1_moveBits 52 = .ok (.iadd, 1) := by decide +kernel
theorem dX1_moveBits_53 : decode cX1_moveBits 53 = .ok (.aaload, 1) := by decide +kernel
theorem dX1_moveBits_54 : decode cX1_moveBits 54 = .ok (.iload 4, 2) := by decide +kernel
theorem dX1_moveBits_56 : decode cX1_moveBits 56 = .ok (.aload_n 0, 1) := by decide +kernel
theorem dX1_moveBits_57 : decode cX1_moveBits 57 = .ok (.getfield 11, 3) := by decide +kernel
theorem dX1_moveBits_60 : decode cX1_moveBits 60 = .ok (.iload_n 1, 1) := by decide +kernel
theorem dX1_moveBits_61 : decode cX1_moveBits 61 = .ok (.aaload, 1) := by decide +kernel
theorem dX1_moveBits_62 : decode cX1_moveBits 62 = .ok (.iload 5, 2) := by decide +kernel
theorem dX1_moveBits_64 : decode cX1_moveBits 64 = .ok (.iaload, 1) := by decide +kernel
theorem dX1_moveBits_65 : decode cX1_moveBits 65 = .ok (.iastore, 1) := by decide +kernel
theorem dX1_moveBits_66 : decode cX1_moveBits 66 = .ok (.aload_n 0, 1) := by decide +kernel
theorem dX1_moveBits_67 : decode cX1_moveBits 67 = .ok (.getfield 16, 3) := by decide +kernel
theorem dX1_moveBits_70 : decode cX1_moveBits 70 = .ok (.iload_n 1, 1) := by decide +kernel
theorem dX1_moveBits_71 : decode cX1_moveBits 71 = .ok (.iconst 1, 1) := by decide +kernel
theorem dX1_moveBits_72 : decode cX1_moveBits 72 = .ok (.iadd, 1) := by decide +kernel
theorem dX1_moveBits_73 : decode cX1_moveBits 73 = .ok (.aaload, 1) := by decide +kernel
theorem dX1_moveBits_74 : decode cX1_moveBits 74 = .ok (.iload 4, 2) := by decide +kernel
theorem dX1_moveBits_76 : decode cX1_moveBits 76 = .ok (.aload_n 0, 1) := by decide +kernel
theorem dX1_moveBits_77 : decode cX1_moveBits 77 = .ok (.getfield 16, 3) := by decide +kernel
theorem dX1_moveBits_80 : decode cX1_moveBits 80 = .ok (.iload_n 1, 1) := by decide +kernel
theorem dX1_moveBits_81 : decode cX1_moveBits 81 = .ok (.aaload, 1) := by decide +kernel
theorem dX1_moveBits_82 : decode cX1_moveBits 82 = .ok (.iload 5, 2) := by decide +kernel
theorem dX1_moveBits_84 : decode cX1_moveBits 84 = .ok (.iaload, 1) := by decide +kernel
theorem dX1_moveBits_85 : decode cX1_moveBits 85 = .ok (.iastore, 1) := by decide +kernel
theorem dX1_moveBits_86 : decode cX1_moveBits 86 = .ok (.iinc 4 1, 3) := by decide +kernel
theorem dX1_moveBits_89 : decode cX1_moveBits 89 = .ok (.iinc 5 1, 3) := by decide +kernel
theorem dX1_moveBits_92 : decode cX1_moveBits 92 = .ok (.goto (-86), 3) := by decide +kernel
theorem dX1_moveBits_95 : decode cX1_moveBits 95 = .ok (.iload 4, 2) := by decide +kernel
theorem dX1_moveBits_97 : decode cX1_moveBits 97 = .ok (.ireturn, 1) := by decide +kernel
set_option maxRecDepth 20000 in
theorem ggX1_isOn_X6_isAtMost : GoodIn wsX1_isOn wsX6_isAtMost := goodIn_r _ [4] (by decide +kernel) (by decide +kernel)
set_option maxRecDepth 20000 in
theorem gX1_isOn_X6_isAtMost_n43 : GoodIn wsX1_isOn (wsX6_isAtMost) := ggX1_isOn_X6_isAtMost
theorem dX1_isOn_0 : decode cX1_isOn 0 = .ok (.iload_n 1, 1) := by decide +kernel
theorem dX1_isOn_1 : decode cX1_isOn 1 = .ok (.iconst 4, 1) := by decide +kernel
theorem dX1_isOn_2 : decode cX1_isOn 2 = .ok (.invokestatic 43, 3) := by decide +kernel
theorem dX1_isOn_5 : decode cX1_isOn 5 = .ok (.ifCond .eq 19, 3) := by decide +kernel
theorem dX1_isOn_8 : decode cX1_isOn 8 = .ok (.iload_n 2, 1) := by decide +kernel
theorem dX1_isOn_9 : decode cX1_isOn 9 = .ok (.ifCond .lt 15, 3) := by decide +kernel
theorem dX1_isOn_12 : decode cX1_isOn 12 = .ok (.iload_n 2, 1) := by decide +kernel
theorem dX1_isOn_13 : decode cX1_isOn 13 = .ok (.aload_n 0, 1) := by decide +kernel
theorem dX1_isOn_14 : decode cX1_isOn 14 = .ok (.getfield 22, 3) := by decide +kernel
theorem dX1_isOn_17 : decode cX1_isOn 17 = .ok (.if_icmp .ge 7, 3) := by decide +kernel
theorem dX1_isOn_20 : decode cX1_isOn 20 = .ok (.iconst 1, 1) := by decide +kernel
theorem dX1_isOn_21 : decode cX1_isOn 21 = .ok (.goto 4, 3) := by decide +kernel
theorem dX1_isOn_24 : decode cX1_isOn 24 = .ok (.iconst 0, 1) := by decide +kernel
theorem dX1_isOn_25 : decode cX1_isOn 25 = .ok (.ireturn, 1) := by decide +kernel
set_option maxRecDepth 20000 in
theorem ggX1_symbolOf_X1_isOn : GoodIn wsX1_symbolOf wsX1_isOn := goodIn_r _ [6, 7, 8, 9, 10, 11, 12, 13, 14] (by decide +kernel) (by decide +kernel)
set_option maxRecDepth 20000 in
theorem gX1_symbolOf_X1_isOn : GoodIn wsX1_symbolOf (wsV RX1 47 RX1 yX1_isOn wsX1_isOn) := goodIn_app (goodIn_of _ (by decide +kernel)) ggX1_symbolOf_X1_isOn
theorem dX1_symbolOf_0 : decode cX1_symbolOf 0 = .ok (.aload_n 0, 1) := by decide +kernel
theorem dX1_symbolOf_1 : decode cX1_symbolOf 1 = .ok (.iload_n 1, 1) := by decide +kernel
theorem dX1_symbolOf_2 : decode cX1_symbolOf 2 = .ok (.iload_n 2, 1) := by decide +kernel
theorem dX1_symbolOf_3 : decode cX1_symbolOf 3 = .ok (.invokevirtual 47, 3) := by decide +kernel
theorem dX1_symbolOf_6 : decode cX1_symbolOf 6 = .ok (.ifCond .eq 14, 3) := by decide +kernel
theorem dX1_symbolOf_9 : decode cX1_symbolOf 9 = .ok (.aload_n 0, 1) := by decide +kernel
theorem dX1_symbolOf_10 : decode cX1_symbolOf 10 = .ok (.getfield 11, 3) := by decide +kernel
theorem dX1_symbolOf_13 : decode cX1_symbolOf 13 = .ok (.iload_n 1, 1) := by decide +kernel
theorem dX1_symbolOf_14 : decode cX1_symbolOf 14 = .ok (.aaload, 1) := by decide +kernel
theorem dX1_symbolOf_15 : decode cX1_symbolOf 15 = .ok (.iload_n 2, 1) := by decide +kernel
theorem dX1_symbolOf_16 : decode cX1_symbolOf 16 = .ok (.iaload, 1) := by decide +kernel
theorem dX1_symbolOf_17 : decode cX1_symbolOf 17 = .ok (.goto 4, 3) := by decide +kernel
theorem dX1_symbolOf_20 : decode cX1_symbolOf 20 = .ok (.iconst (-1), 1) := by decide +kernel
theorem dX1_symbolOf_21 : decode cX1_symbolOf 21 = .ok (.ireturn, 1) := by decide +kernel
set_option maxRecDepth 20000 in
theorem ggX1_bitOf_X6_hasBits : GoodIn wsX1_bitOf wsX6_hasBits := goodIn_r _ [4] (by decide +kernel) (by decide +kernel)
set_option maxRecDepth 20000 in
theorem gX1_bitOf_X6_hasBits_n50 : GoodIn wsX1_bitOf (wsX6_hasBits) := ggX1_bitOf_X6_hasBits
set_option maxRecDepth 20000 in
theorem ggX1_bitOf_X1_isOn : GoodIn wsX1_bitOf wsX1_isOn := goodIn_r _ [9, 10, 11, 3, 12, 13, 14, 15, 16] (by decide +kernel) (by decide +kernel)
set_option maxRecDepth 20000 in
theorem gX1_bitOf_X1_isOn : GoodIn wsX1_bitOf (wsV RX1 47 RX1 yX1_isOn wsX1_isOn) := goodIn_app (goodIn_of _ (by decide +kernel)) ggX1_bitOf_X1_isOn
theorem dX1_bitOf_0 : decode cX1_bitOf 0 = .ok (.iload_n 1, 1) := by decide +kernel
theorem dX1_bitOf_1 : decode cX1_bitOf 1 = .ok (.invokestatic 50, 3) := by decide +kernel
theorem dX1_bitOf_4 : decode cX1_bitOf 4 = .ok (.ifCond .eq 29, 3) := by decide +kernel
theorem dX1_bitOf_7 : decode cX1_bitOf 7 = .ok (.aload_n 0, 1) := by decide +kernel
theorem dX1_bitOf_8 : decode cX1_bitOf 8 = .ok (.iload_n 1, 1) := by decide +kernel
theorem dX1_bitOf_9 : decode cX1_bitOf 9 = .ok (.iload_n 2, 1) := by decide +kernel
theorem dX1_bitOf_10 : decode cX1_bitOf 10 = .ok (.invokevirtual 47, 3) := by decide +kernel
theorem dX1_bitOf_13 : decode cX1_bitOf 13 = .ok (.ifCond .eq 20, 3) := by decide +kernel
theorem dX1_bitOf_16 : decode cX1_bitOf 16 = .ok (.aload_n 0, 1) := by decide +kernel
theorem dX1_bitOf_17 : decode cX1_bitOf 17 = .ok (.getfield 11, 3) := by decide +kernel
theorem dX1_bitOf_20 : decode cX1_bitOf 20 = .ok (.iload_n 1, 1) := by decide +kernel
theorem dX1_bitOf_21 : decode cX1_bitOf 21 = .ok (.aaload, 1) := by decide +kernel
theorem dX1_bitOf_22 : decode cX1_bitOf 22 = .ok (.iload_n 2, 1) := by decide +kernel
theorem dX1_bitOf_23 : decode cX1_bitOf 23 = .ok (.iaload, 1) := by decide +kernel
theorem dX1_bitOf_24 : decode cX1_bitOf 24 = .ok (.iconst 3, 1) := by decide +kernel
theorem dX1_bitOf_25 : decode cX1_bitOf 25 = .ok (.iload_n 1, 1) := by decide +kernel
theorem dX1_bitOf_26 : decode cX1_bitOf 26 = .ok (.isub, 1) := by decide +kernel
theorem dX1_bitOf_27 : decode cX1_bitOf 27 = .ok (.ishr, 1) := by decide +kernel
theorem dX1_bitOf_28 : decode cX1_bitOf 28 = .ok (.iconst 1, 1) := by decide +kernel
theorem dX1_bitOf_29 : decode cX1_bitOf 29 = .ok (.iand, 1) := by decide +kernel
theorem dX1_bitOf_30 : decode cX1_bitOf 30 = .ok (.goto 4, 3) := by decide +kernel
theorem dX1_bitOf_33 : decode cX1_bitOf 33 = .ok (.iconst (-1), 1) := by decide +kernel
theorem dX1_bitOf_34 : decode cX1_bitOf 34 = .ok (.ireturn, 1) := by decide +kernel
set_option maxRecDepth 20000 in
theorem ggX1_goalOf_X6_hasBits : GoodIn wsX1_goalOf wsX6_hasBits := goodIn_r _ [4] (by decide +kernel) (by decide +kernel)
set_option maxRecDepth 20000 in
theorem gX1_goalOf_X6_hasBits_n50 : GoodIn wsX1_goalOf (wsX6_hasBits) := ggX1_goalOf_X6_hasBits
set_option maxRecDepth 20000 in
theorem ggX1_goalOf_X1_isOn : GoodIn wsX1_goalOf wsX1_isOn := goodIn_r _ [9, 10, 11, 3, 12, 13, 14, 15, 16] (by decide +kernel) (by decide +kernel)
set_option maxRecDepth 20000 in
theorem gX1_goalOf_X1_isOn : GoodIn wsX1_goalOf (wsV RX1 47 RX1 yX1_isOn wsX1_isOn) := goodIn_app (goodIn_of _ (by decide +kernel)) ggX1_goalOf_X1_isOn
theorem dX1_goalOf_0 : decode cX1_goalOf 0 = .ok (.iload_n 1, 1) := by decide +kernel
theorem dX1_goalOf_1 : decode cX1_goalOf 1 = .ok (.invokestatic 50, 3) := by decide +kernel
theorem dX1_goalOf_4 : decode cX1_goalOf 4 = .ok (.ifCond .eq 23, 3) := by decide +kernel
theorem dX1_goalOf_7 : decode cX1_goalOf 7 = .ok (.aload_n 0, 1) := by decide +kernel
theorem dX1_goalOf_8 : decode cX1_goalOf 8 = .ok (.iload_n 1, 1) := by decide +kernel
theorem dX1_goalOf_9 : decode cX1_goalOf 9 = .ok (.iload_n 2, 1) := by decide +kernel
theorem dX1_goalOf_10 : decode cX1_goalOf 10 = .ok (.invokevirtual 47, 3) := by decide +kernel
theorem dX1_goalOf_13 : decode cX1_goalOf 13 = .ok (.ifCond .eq 14, 3) := by decide +kernel
theorem dX1_goalOf_16 : decode cX1_goalOf 16 = .ok (.aload_n 0, 1) := by decide +kernel
theorem dX1_goalOf_17 : decode cX1_goalOf 17 = .ok (.getfield 19, 3) := by decide +kernel
theorem dX1_goalOf_20 : decode cX1_goalOf 20 = .ok (.iload_n 1, 1) := by decide +kernel
theorem dX1_goalOf_21 : decode cX1_goalOf 21 = .ok (.aaload, 1) := by decide +kernel
theorem dX1_goalOf_22 : decode cX1_goalOf 22 = .ok (.iload_n 2, 1) := by decide +kernel
theorem dX1_goalOf_23 : decode cX1_goalOf 23 = .ok (.iaload, 1) := by decide +kernel
theorem dX1_goalOf_24 : decode cX1_goalOf 24 = .ok (.goto 4, 3) := by decide +kernel
theorem dX1_goalOf_27 : decode cX1_goalOf 27 = .ok (.iconst (-1), 1) := by decide +kernel
theorem dX1_goalOf_28 : decode cX1_goalOf 28 = .ok (.ireturn, 1) := by decide +kernel
set_option maxRecDepth 20000 in
theorem ggX1_originOf_X1_isOn : GoodIn wsX1_originOf wsX1_isOn := goodIn_r _ [6, 7, 8, 9, 10, 11, 12, 13, 14] (by decide +kernel) (by decide +kernel)
set_option maxRecDepth 20000 in
theorem gX1_originOf_X1_isOn : GoodIn wsX1_originOf (wsV RX1 47 RX1 yX1_isOn wsX1_isOn) := goodIn_app (goodIn_of _ (by decide +kernel)) ggX1_originOf_X1_isOn
theorem dX1_originOf_0 : decode cX1_originOf 0 = .ok (.aload_n 0, 1) := by decide +kernel
theorem dX1_originOf_1 : decode cX1_originOf 1 = .ok (.iload_n 1, 1) := by decide +kernel
theorem dX1_originOf_2 : decode cX1_originOf 2 = .ok (.iload_n 2, 1) := by decide +kernel
theorem dX1_originOf_3 : decode cX1_originOf 3 = .ok (.invokevirtual 47, 3) := by decide +kernel
theorem dX1_originOf_6 : decode cX1_originOf 6 = .ok (.ifCond .eq 14, 3) := by decide +kernel
theorem dX1_originOf_9 : decode cX1_originOf 9 = .ok (.aload_n 0, 1) := by decide +kernel
theorem dX1_originOf_10 : decode cX1_originOf 10 = .ok (.getfield 16, 3) := by decide +kernel
theorem dX1_originOf_13 : decode cX1_originOf 13 = .ok (.iload_n 1, 1) := by decide +kernel
theorem dX1_originOf_14 : decode cX1_originOf 14 = .ok (.aaload, 1) := by decide +kernel
theorem dX1_originOf_15 : decode cX1_originOf 15 = .ok (.iload_n 2, 1) := by decide +kernel
theorem dX1_originOf_16 : decode cX1_originOf 16 = .ok (.iaload, 1) := by decide +kernel
theorem dX1_originOf_17 : decode cX1_originOf 17 = .ok (.goto 4, 3) := by decide +kernel
theorem dX1_originOf_20 : decode cX1_originOf 20 = .ok (.iconst (-1), 1) := by decide +kernel
theorem dX1_originOf_21 : decode cX1_originOf 21 = .ok (.ireturn, 1) := by decide +kernel
set_option maxRecDepth 20000 in
theorem ggX1_packed_X1_bitOf : GoodIn wsX1_packed wsX1_bitOf := goodIn_r _ [5, 6, 7, 8, 9, 10, 11, 12, 4, 13, 14, 15, 16, 17, 18, 19, 20] (by decide +kernel) (by decide +kernel)
set_option maxRecDepth 20000 in
theorem gX1_packed_X1_bitOf : GoodIn wsX1_packed (wsV RX1 39 RX1 yX1_bitOf wsX1_bitOf) := goodIn_app (goodIn_of _ (by decide +kernel)) ggX1_packed_X1_bitOf
theorem dX1_packed_0 : decode cX1_packed 0 = .ok (.lconst 0, 1) := by decide +kernel
theorem dX1_packed_1 : decode cX1_packed 1 = .ok (.lstore 4, 2) := by decide +kernel
theorem dX1_packed_3 : decode cX1_packed 3 = .ok (.iload_n 2, 1) := by decide +kernel
theorem dX1_packed_4 : decode cX1_packed 4 = .ok (.istore 6, 2) := by decide +kernel
theorem dX1_packed_6 : decode cX1_packed 6 = .ok (.iload 6, 2) := by decide +kernel
theorem dX1_packed_8 : decode cX1_packed 8 = .ok (.iload_n 3, 1) := by decide +kernel
theorem dX1_packed_9 : decode cX1_packed 9 = .ok (.if_icmp .ge 31, 3) := by decide +kernel
theorem dX1_packed_12 : decode cX1_packed 12 = .ok (.aload_n 0, 1) := by decide +kernel
theorem dX1_packed_13 : decode cX1_packed 13 = .ok (.iload_n 1, 1) := by decide +kernel
theorem dX1_packed_14 : decode cX1_packed 14 = .ok (.iload 6, 2) := by decide +kernel
theorem dX1_packed_16 : decode cX1_packed 16 = .ok (.invokevirtual 39, 3) := by decide +kernel
theorem dX1_packed_19 : decode cX1_packed 19 = .ok (.iconst 1, 1) := by decide +kernel
theorem dX1_packed_20 : decode cX1_packed 20 = .ok (.if_icmp .ne 14, 3) := by decide +kernel
theorem dX1_packed_23 : decode cX1_packed 23 = .ok (.lload 4, 2) := by decide +kernel
theorem dX1_packed_25 : decode cX1_packed 25 = .ok (.lconst 1, 1) := by decide +kernel
theorem dX1_packed_26 : decode cX1_packed 26 = .ok (.iload 6, 2) := by decide +kernel
theorem dX1_packed_28 : decode cX1_packed 28 = .ok (.iload_n 2, 1) := by decide +kernel
theorem dX1_packed_29 : decode cX1_packed 29 = .ok (.isub, 1) := by decide +kernel
theorem dX1_packed_30 : decode cX1_packed 30 = .ok (.lshl, 1) := by decide +kernel
theorem dX1_packed_31 : decode cX1_packed 31 = .ok (.lor, 1) := by decide +kernel
theorem dX1_packed_32 : decode cX1_packed 32 = .ok (.lstore 4, 2) := by decide +kernel
theorem dX1_packed_34 : decode cX1_packed 34 = .ok (.iinc 6 1, 3) := by decide +kernel
theorem dX1_packed_37 : decode cX1_packed 37 = .ok (.goto (-31), 3) := by decide +kernel
theorem dX1_packed_40 : decode cX1_packed 40 = .ok (.lload 4, 2) := by decide +kernel
theorem dX1_packed_42 : decode cX1_packed 42 = .ok (.lreturn, 1) := by decide +kernel
set_option maxRecDepth 20000 in
theorem ggX1_ones_X1_packed : GoodIn wsX1_ones wsX1_packed := goodIn_r _ [5, 6, 7, 8, 4, 9, 10, 11, 12, 13, 14, 15, 16, 17, 18, 19, 20, 28, 29, 30, 31] (by decide +kernel) (by decide +kernel)
set_option maxRecDepth 20000 in
theorem gX1_ones_X1_packed : GoodIn wsX1_ones (wsV RX1 54 RX1 yX1_packed wsX1_packed) := goodIn_app (goodIn_of _ (by decide +kernel)) ggX1_ones_X1_packed
set_option maxRecDepth 20000 in
theorem ggX1_ones_J13_bitCount_95d88 : GoodIn wsX1_ones wsJ13_bitCount_95d88 := goodIn_r _ [24, 25, 26, 27] (by decide +kernel) (by decide +kernel)
set_option maxRecDepth 20000 in
theorem gX1_ones_J13_bitCount_95d88 : GoodIn wsX1_ones (va_wsS RX1 58 yJ13_bitCount_95d88 wsJ13_bitCount_95d88) := goodIn_app (goodIn_of _ (by decide +kernel)) ggX1_ones_J13_bitCount_95d88
theorem dX1_ones_0 : decode cX1_ones 0 = .ok (.aload_n 0, 1) := by decide +kernel
theorem dX1_ones_1 : decode cX1_ones 1 = .ok (.iload_n 1, 1) := by decide +kernel
theorem dX1_ones_2 : decode cX1_ones 2 = .ok (.iload_n 2, 1) := by decide +kernel
theorem dX1_ones_3 : decode cX1_ones 3 = .ok (.iload_n 3, 1) := by decide +kernel
theorem dX1_ones_4 : decode cX1_ones 4 = .ok (.invokevirtual 54, 3) := by decide +kernel
theorem dX1_ones_7 : decode cX1_ones 7 = .ok (.invokestatic 58, 3) := by decide +kernel
theorem dX1_ones_10 : decode cX1_ones 10 = .ok (.ireturn, 1) := by decide +kernel
