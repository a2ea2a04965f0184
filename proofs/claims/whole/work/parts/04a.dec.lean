theorem dX0_init_0 : decode cX0_init 0 = .ok (.aload_n 0, 1) := by decide +kernel
theorem dX0_init_1 : decode cX0_init 1 = .ok (.invokespecial 3, 3) := by decide +kernel
theorem dX0_init_4 : decode cX0_init 4 = .ok (.aload_n 0, 1) := by decide +kernel
theorem dX0_init_5 : decode cX0_init 5 = .ok (.iconst 4, 1) := by decide +kernel
theorem dX0_init_6 : decode cX0_init 6 = .ok (.anewarray 9, 3) := by decide +kernel
theorem dX0_init_9 : decode cX0_init 9 = .ok (.putfield 11, 3) := by decide +kernel
theorem dX0_init_12 : decode cX0_init 12 = .ok (.iconst 0, 1) := by decide +kernel
theorem dX0_init_13 : decode cX0_init 13 = .ok (.istore_n 1, 1) := by decide +kernel
theorem dX0_init_14 : decode cX0_init 14 = .ok (.iload_n 1, 1) := by decide +kernel
theorem dX0_init_15 : decode cX0_init 15 = .ok (.iconst 4, 1) := by decide +kernel
theorem dX0_init_16 : decode cX0_init 16 = .ok (.if_icmp .ge 22, 3) := by decide +kernel
theorem dX0_init_19 : decode cX0_init 19 = .ok (.aload_n 0, 1) := by decide +kernel
theorem dX0_init_20 : decode cX0_init 20 = .ok (.getfield 11, 3) := by decide +kernel
theorem dX0_init_23 : decode cX0_init 23 = .ok (.iload_n 1, 1) := by decide +kernel
theorem dX0_init_24 : decode cX0_init 24 = .ok (.new 9, 3) := by decide +kernel
theorem dX0_init_27 : decode cX0_init 27 = .ok (.dup, 1) := by decide +kernel
theorem dX0_init_28 : decode cX0_init 28 = .ok (.invokespecial 17, 3) := by decide +kernel
theorem dX0_init_31 : decode cX0_init 31 = .ok (.aastore, 1) := by decide +kernel
theorem dX0_init_32 : decode cX0_init 32 = .ok (.iinc 1 1, 3) := by decide +kernel
theorem dX0_init_35 : decode cX0_init 35 = .ok (.goto (-21), 3) := by decide +kernel
theorem dX0_init_38 : decode cX0_init 38 = .ok (.aload_n 0, 1) := by decide +kernel
theorem dX0_init_39 : decode cX0_init 39 = .ok (.iconst 0, 1) := by decide +kernel
theorem dX0_init_40 : decode cX0_init 40 = .ok (.putfield 18, 3) := by decide +kernel
theorem dX0_init_43 : decode cX0_init 43 = .ok (.return_, 1) := by decide +kernel
theorem dX0_size_0 : decode cX0_size 0 = .ok (.aload_n 0, 1) := by decide +kernel
theorem dX0_size_1 : decode cX0_size 1 = .ok (.getfield 18, 3) := by decide +kernel
theorem dX0_size_4 : decode cX0_size 4 = .ok (.ireturn, 1) := by decide +kernel
theorem dX0_remember_0 : decode cX0_remember 0 = .ok (.aload_n 0, 1) := by decide +kernel
theorem dX0_remember_1 : decode cX0_remember 1 = .ok (.getfield 18, 3) := by decide +kernel
theorem dX0_remember_4 : decode cX0_remember 4 = .ok (.iconst 4, 1) := by decide +kernel
theorem dX0_remember_5 : decode cX0_remember 5 = .ok (.if_icmp .lt 7, 3) := by decide +kernel
theorem dX0_remember_8 : decode cX0_remember 8 = .ok (.aload_n 0, 1) := by decide +kernel
theorem dX0_remember_9 : decode cX0_remember 9 = .ok (.invokevirtual 22, 3) := by decide +kernel
theorem dX0_remember_12 : decode cX0_remember 12 = .ok (.aload_n 0, 1) := by decide +kernel
theorem dX0_remember_13 : decode cX0_remember 13 = .ok (.getfield 11, 3) := by decide +kernel
theorem dX0_remember_16 : decode cX0_remember 16 = .ok (.aload_n 0, 1) := by decide +kernel
theorem dX0_remember_17 : decode cX0_remember 17 = .ok (.getfield 18, 3) := by decide +kernel
theorem dX0_remember_20 : decode cX0_remember 20 = .ok (.aaload, 1) := by decide +kernel
theorem dX0_remember_21 : decode cX0_remember 21 = .ok (.aload_n 1, 1) := by decide +kernel
theorem dX0_remember_22 : decode cX0_remember 22 = .ok (.invokevirtual 25, 3) := by decide +kernel
theorem dX0_remember_25 : decode cX0_remember 25 = .ok (.aload_n 0, 1) := by decide +kernel
theorem dX0_remember_26 : decode cX0_remember 26 = .ok (.dup, 1) := by decide +kernel
theorem dX0_remember_27 : decode cX0_remember 27 = .ok (.getfield 18, 3) := by decide +kernel
theorem dX0_remember_30 : decode cX0_remember 30 = .ok (.iconst 1, 1) := by decide +kernel
theorem dX0_remember_31 : decode cX0_remember 31 = .ok (.iadd, 1) := by decide +kernel
theorem dX0_remember_32 : decode cX0_remember 32 = .ok (.putfield 18, 3) := by decide +kernel
theorem dX0_remember_35 : decode cX0_remember 35 = .ok (.return_, 1) := by decide +kernel
theorem dX0_dropOldest_0 : decode cX0_dropOldest 0 = .ok (.iconst 1, 1) := by decide +kernel
theorem dX0_dropOldest_1 : decode cX0_dropOldest 1 = .ok (.istore_n 1, 1) := by decide +kernel
theorem dX0_dropOldest_2 : decode cX0_dropOldest 2 = .ok (.iload_n 1, 1) := by decide +kernel
theorem dX0_dropOldest_3 : decode cX0_dropOldest 3 = .ok (.iconst 4, 1) := by decide +kernel
theorem dX0_dropOldest_4 : decode cX0_dropOldest 4 = .ok (.if_icmp .ge 26, 3) := by decide +kernel
theorem dX0_dropOldest_7 : decode cX0_dropOldest 7 = .ok (.aload_n 0, 1) := by decide +kernel
theorem dX0_dropOldest_8 : decode cX0_dropOldest 8 = .ok (.getfield 11, 3) := by decide +kernel
theorem dX0_dropOldest_11 : decode cX0_dropOldest 11 = .ok (.iload_n 1, 1) := by decide +kernel
theorem dX0_dropOldest_12 : decode cX0_dropOldest 12 = .ok (.iconst 1, 1) := by decide +kernel
theorem dX0_dropOldest_13 : decode cX0_dropOldest 13 = .ok (.isub, 1) := by decide +kernel
theorem dX0_dropOldest_14 : decode cX0_dropOldest 14 = .ok (.aaload, 1) := by decide +kernel
theorem dX0_dropOldest_15 : decode cX0_dropOldest 15 = .ok (.aload_n 0, 1) := by decide +kernel
theorem dX0_dropOldest_16 : decode cX0_dropOldest 16 = .ok (.getfield 11, 3) := by decide +kernel
theorem dX0_dropOldest_19 : decode cX0_dropOldest 19 = .ok (.iload_n 1, 1) := by decide +kernel
theorem dX0_dropOldest_20 : decode cX0_dropOldest 20 = .ok (.aaload, 1) := by decide +kernel
theorem dX0_dropOldest_21 : decode cX0_dropOldest 21 = .ok (.invokevirtual 25, 3) := by decide +kernel
theorem dX0_dropOldest_24 : decode cX0_dropOldest 24 = .ok (.iinc 1 1, 3) := by decide +kernel
theorem dX0_dropOldest_27 : decode cX0_dropOldest 27 = .ok (.goto (-25), 3) := by decide +kernel
theorem dX0_dropOldest_30 : decode cX0_dropOldest 30 = .ok (.aload_n 0, 1) := by decide +kernel
theorem dX0_dropOldest_31 : decode cX0_dropOldest 31 = .ok (.iconst 3, 1) := by decide +kernel
theorem dX0_dropOldest_32 : decode cX0_dropOldest 32 = .ok (.putfield 18, 3) := by decide +kernel
theorem dX0_dropOldest_35 : decode cX0_dropOldest 35 = .ok (.return_, 1) := by decide +kernel
theorem dX0_restore_0 : decode cX0_restore 0 = .ok (.aload_n 0, 1) := by decide +kernel
theorem dX0_restore_1 : decode cX0_restore 1 = .ok (.getfield 18, 3) := by decide +kernel
theorem dX0_restore_4 : decode cX0_restore 4 = .ok (.ifCond .le 26, 3) := by decide +kernel
theorem dX0_restore_7 : decode cX0_restore 7 = .ok (.aload_n 0, 1) := by decide +kernel
theorem dX0_restore_8 : decode cX0_restore 8 = .ok (.dup, 1) := by decide +kernel
theorem dX0_restore_9 : decode cX0_restore 9 = .ok (.getfield 18, 3) := by decide +kernel
theorem dX0_restore_12 : decode cX0_restore 12 = .ok (.iconst 1, 1) := by decide +kernel
theorem dX0_restore_13 : decode cX0_restore 13 = .ok (.isub, 1) := by decide +kernel
theorem dX0_restore_14 : decode cX0_restore 14 = .ok (.putfield 18, 3) := by decide +kernel
theorem dX0_restore_17 : decode cX0_restore 17 = .ok (.aload_n 1, 1) := by decide +kernel
theorem dX0_restore_18 : decode cX0_restore 18 = .ok (.aload_n 0, 1) := by decide +kernel
theorem dX0_restore_19 : decode cX0_restore 19 = .ok (.getfield 11, 3) := by decide +kernel
theorem dX0_restore_22 : decode cX0_restore 22 = .ok (.aload_n 0, 1) := by decide +kernel
theorem dX0_restore_23 : decode cX0_restore 23 = .ok (.getfield 18, 3) := by decide +kernel
theorem dX0_restore_26 : decode cX0_restore 26 = .ok (.aaload, 1) := by decide +kernel
theorem dX0_restore_27 : decode cX0_restore 27 = .ok (.invokevirtual 25, 3) := by decide +kernel
theorem dX0_restore_30 : decode cX0_restore 30 = .ok (.return_, 1) := by decide +kernel
theorem dX1_init_0 : decode cX1_init 0 = .ok (.aload_n 0, 1) := by decide +kernel
theorem dX1_init_1 : decode cX1_init 1 = .ok (.invokespecial 3, 3) := by decide +kernel
theorem dX1_init_4 : decode cX1_init 4 = .ok (.aload_n 0, 1) := by decide +kernel
theorem dX1_init_5 : decode cX1_init 5 = .ok (.iconst 5, 1) := by decide +kernel
theorem dX1_init_6 : decode cX1_init 6 = .ok (.bipush 60, 2) := by decide +kernel
theorem dX1_init_8 : decode cX1_init 8 = .ok (.multianewarray 9 2, 4) := by decide +kernel
theorem dX1_init_12 : decode cX1_init 12 = .ok (.putfield 11, 3) := by decide +kernel
theorem dX1_init_15 : decode cX1_init 15 = .ok (.aload_n 0, 1) := by decide +kernel
theorem dX1_init_16 : decode cX1_init 16 = .ok (.iconst 5, 1) := by decide +kernel
theorem dX1_init_17 : decode cX1_init 17 = .ok (.bipush 60, 2) := by decide +kernel
theorem dX1_init_19 : decode cX1_init 19 = .ok (.multianewarray 9 2, 4) := by decide +kernel
theorem dX1_init_23 : decode cX1_init 23 = .ok (.putfield 16, 3) := by decide +kernel
theorem dX1_init_26 : decode cX1_init 26 = .ok (.aload_n 0, 1) := by decide +kernel
theorem dX1_init_27 : decode cX1_init 27 = .ok (.iconst 4, 1) := by decide +kernel
theorem dX1_init_28 : decode cX1_init 28 = .ok (.bipush 60, 2) := by decide +kernel
theorem dX1_init_30 : decode cX1_init 30 = .ok (.multianewarray 9 2, 4) := by decide +kernel
theorem dX1_init_34 : decode cX1_init 34 = .ok (.putfield 19, 3) := by decide +kernel
theorem dX1_init_37 : decode cX1_init 37 = .ok (.aload_n 0, 1) := by decide +kernel
theorem dX1_init_38 : decode cX1_init 38 = .ok (.iconst 0, 1) := by decide +kernel
theorem dX1_init_39 : decode cX1_init 39 = .ok (.putfield 22, 3) := by decide +kernel
theorem dX1_init_42 : decode cX1_init 42 = .ok (.return_, 1) := by decide +kernel
theorem dX1_build_0 : decode cX1_build 0 = .ok (.aload_n 0, 1) := by decide +kernel
theorem dX1_build_1 : decode cX1_build 1 = .ok (.aload_n 1, 1) := by decide +kernel
theorem dX1_build_2 : decode cX1_build 2 = .ok (.invokevirtual 26, 3) := by decide +kernel
theorem dX1_build_5 : decode cX1_build 5 = .ok (.putfield 22, 3) := by decide +kernel
theorem dX1_build_8 : decode cX1_build 8 = .ok (.iconst 0, 1) := by decide +kernel
theorem dX1_build_9 : decode cX1_build 9 = .ok (.istore_n 2, 1) := by decide +kernel
theorem dX1_build_10 : decode cX1_build 10 = .ok (.iload_n 2, 1) := by decide +kernel
theorem dX1_build_11 : decode cX1_build 11 = .ok (.aload_n 0, 1) := by decide +kernel
theorem dX1_build_12 : decode cX1_build 12 = .ok (.getfield 22, 3) := by decide +kernel
theorem dX1_build_15 : decode cX1_build 15 = .ok (.if_icmp .ge 31, 3) := by decide +kernel
theorem dX1_build_18 : decode cX1_build 18 = .ok (.aload_n 0, 1) := by decide +kernel
theorem dX1_build_19 : decode cX1_build 19 = .ok (.getfield 11, 3) := by decide +kernel
theorem dX1_build_22 : decode cX1_build 22 = .ok (.iconst 0, 1) := by decide +kernel
theorem dX1_build_23 : decode cX1_build 23 = .ok (.aaload, 1) := by decide +kernel
theorem dX1_build_24 : decode cX1_build 24 = .ok (.iload_n 2, 1) := by decide +kernel
theorem dX1_build_25 : decode cX1_build 25 = .ok (.aload_n 1, 1) := by decide +kernel
theorem dX1_build_26 : decode cX1_build 26 = .ok (.iload_n 2, 1) := by decide +kernel
theorem dX1_build_27 : decode cX1_build 27 = .ok (.invokevirtual 31, 3) := by decide +kernel
theorem dX1_build_30 : decode cX1_build 30 = .ok (.iastore, 1) := by decide +kernel
theorem dX1_build_31 : decode cX1_build 31 = .ok (.aload_n 0, 1) := by decide +kernel
theorem dX1_build_32 : decode cX1_build 32 = .ok (.getfield 16, 3) := by decide +kernel
theorem dX1_build_35 : decode cX1_build 35 = .ok (.iconst 0, 1) := by decide +kernel
theorem dX1_build_36 : decode cX1_build 36 = .ok (.aaload, 1) := by decide +kernel
theorem dX1_build_37 : decode cX1_build 37 = .ok (.iload_n 2, 1) := by decide +kernel
theorem dX1_build_38 : decode cX1_build 38 = .ok (.iload_n 2, 1) := by decide +kernel
theorem dX1_build_39 : decode cX1_build 39 = .ok (.iastore, 1) := by decide +kernel
theorem dX1_build_40 : decode cX1_build 40 = .ok (.iinc 2 1, 3) := by decide +kernel
theorem dX1_build_43 : decode cX1_build 43 = .ok (.goto (-33), 3) := by decide +kernel
theorem dX1_build_46 : decode cX1_build 46 = .ok (.iconst 0, 1) := by decide +kernel
theorem dX1_build_47 : decode cX1_build 47 = .ok (.istore_n 2, 1) := by decide +kernel
theorem dX1_build_48 : decode cX1_build 48 = .ok (.iload_n 2, 1) := by decide +kernel
theorem dX1_build_49 : decode cX1_build 49 = .ok (.iconst 4, 1) := by decide +kernel
theorem dX1_build_50 : decode cX1_build 50 = .ok (.if_icmp .ge 25, 3) := by decide +kernel
theorem dX1_build_53 : decode cX1_build 53 = .ok (.aload_n 0, 1) := by decide +kernel
theorem dX1_build_54 : decode cX1_build 54 = .ok (.iload_n 2, 1) := by decide +kernel
theorem dX1_build_55 : decode cX1_build 55 = .ok (.iconst 0, 1) := by decide +kernel
theorem dX1_build_56 : decode cX1_build 56 = .ok (.iconst 0, 1) := by decide +kernel
theorem dX1_build_57 : decode cX1_build 57 = .ok (.invokevirtual 35, 3) := by decide +kernel
theorem dX1_build_60 : decode cX1_build 60 = .ok (.istore_n 3, 1) := by decide +kernel
theorem dX1_build_61 : decode cX1_build 61 = .ok (.aload_n 0, 1) := by decide +kernel
theorem dX1_build_62 : decode cX1_build 62 = .ok (.iload_n 2, 1) := by decide +kernel
theorem dX1_build_63 : decode cX1_build 63 = .ok (.iconst 1, 1) := by decide +kernel
theorem dX1_build_64 : decode cX1_build 64 = .ok (.iload_n 3, 1) := by decide +kernel
theorem dX1_build_65 : decode cX1_build 65 = .ok (.invokevirtual 35, 3) := by decide +kernel
theorem dX1_build_68 : decode cX1_build 68 = .ok (.pop, 1) := by decide +kernel
theorem dX1_build_69 : decode cX1_build 69 = .ok (.iinc 2 1, 3) := by decide +kernel
theorem dX1_build_72 : decode cX1_build 72 = .ok (.goto (-24), 3) := by decide +kernel
theorem dX1_build_75 : decode cX1_build 75 = .ok (.return_, 1) := by decide +kernel
theorem dX1_moveBits_0 : decode cX1_moveBits 0 = .ok (.iload_n 3, 1) := by decide +kernel
theorem dX1_moveBits_1 : decode cX1_moveBits 1 = .ok (.istore 4, 2) := by decide +kernel
theorem dX1_moveBits_3 : decode cX1_moveBits 3 = .ok (.iconst 0, 1) := by decide +kernel
theorem dX1_moveBits_4 : decode cX1_moveBits 4 = .ok (.istore 5, 2) := by decide +kernel
theorem dX1_moveBits_6 : decode cX1_moveBits 6 = .ok (.iload 5, 2) := by decide +kernel
theorem dX1_moveBits_8 : decode cX1_moveBits 8 = .ok (.aload_n 0, 1) := by decide +kernel
theorem dX1_moveBits_9 : decode cX1_moveBits 9 = .ok (.getfield 22, 3) := by decide +kernel
theorem dX1_moveBits_12 : decode cX1_moveBits 12 = .ok (.if_icmp .ge 83, 3) := by decide +kernel
theorem dX1_moveBits_15 : decode cX1_moveBits 15 = .ok (.aload_n 0, 1) := by decide +kernel
theorem dX1_moveBits_16 : decode cX1_moveBits 16 = .ok (.iload_n 1, 1) := by decide +kernel
theorem dX1_moveBits_17 : decode cX1_moveBits 17 = .ok (.iload 5, 2) := by decide +kernel
theorem dX1_moveBits_19 : decode cX1_moveBits 19 = .ok (.invokevirtual 39, 3) := by decide +kernel
theorem dX1_moveBits_22 : decode cX1_moveBits 22 = .ok (.iload_n 2, 1) := by decide +kernel
theorem dX1_moveBits_23 : decode cX1_moveBits 23 = .ok (.if_icmp .ne 66, 3) := by decide +kernel
theorem dX1_moveBits_26 : decode cX1_moveBits 26 = .ok (.iload 4, 2) := by decide +kernel
theorem dX1_moveBits_28 : decode cX1_moveBits 28 = .ok (.aload_n 0, 1) := by decide +kernel
theorem dX1_moveBits_29 : decode cX1_moveBits 29 = .ok (.getfield 22, 3) := by decide +kernel
theorem dX1_moveBits_32 : decode cX1_moveBits 32 = .ok (.if_icmp .ge 57, 3) := by decide +kernel
theorem dX1_moveBits_35 : decode cX1_moveBits 35 = .ok (.aload_n 0, 1) := by decide +kernel
theorem dX1_moveBits_36 : decode cX1_moveBits 36 = .ok (.getfield 19, 3) := by decide +kernel
theorem dX1_moveBits_39 : decode cX1_moveBits 39 = .ok (.iload_n 1, 1) := by decide +kernel
theorem dX1_moveBits_40 : decode cX1_moveBits 40 = .ok (.aaload, 1) := by decide +kernel
theorem dX1_moveBits_41 : decode cX1_moveBits 41 = .ok (.iload 5, 2) := by decide +kernel
theorem dX1_moveBits_43 : decode cX1_moveBits 43 = .ok (.iload 4, 2) := by decide +kernel
theorem dX1_moveBits_45 : decode cX1_moveBits 45 = .ok (.iastore, 1) := by decide +kernel
theorem dX1_moveBits_46 : decode cX1_moveBits 46 = .ok (.aload_n 0, 1) := by decide +kernel
theorem dX1_moveBits_47 : decode cX1_moveBits 47 = .ok (.getfield 11, 3) := by decide +kernel
theorem dX1_moveBits_50 : decode cX1_moveBits 50 = .ok (.iload_n 1, 1) := by decide +kernel
theorem dX1_moveBits_51 : decode cX1_moveBits 51 = .ok (.iconst 1, 1) := by decide +kernel
theorem dX1_moveBits_52 : decode cX1_moveBits 52 = .ok (.iadd, 1) := by decide +kernel
theorem dX1_moveBits_53 : decode cX1_moveBits 53 = .ok (.aaload, 1) := by decide +kernel
theorem dX1_moveBits_54 : decode cX1_moveBits 54 = .ok (.iload 4, 2) := by decide +kernel
theorem dX1_moveBits_56 : decode cX1_moveBits 56 = .ok (.aload_n 0, 1) := by decide +kernel
theorem dX1_moveBits_57 : decode cX1_moveBits 57 = .ok (.getfield 11, 3) := by decide +kernel
theorem dX1_moveBits_60 : decode cX1_moveBits 60 = .ok (.iload_n 1, 1) := by decide +kernel
theorem dX1_moveBits_61 : decode cX1_moveBits 61 = .ok (.aaload, 1) := by decide +kernel
theorem dX1_moveBits_62 : decode cX1_moveBits 62 = .ok (.iload 5, 2) := by decide +kernel
theorem dX1_moveBits_64 : decode cX1_moveBits 64 = .ok (.iaload, 1) := by decide +kernel
theorem dX1_moveBits_65 : decode cX1_moveBits 65 = .ok (.iastore, 1) := by decide +kernel
theorem dX1_moveBits_66 : decode cX1_moveBits 66 = .ok (.aload_n 0, 1) := by decide +kernel
theorem dX1_moveBits_67 : decode cX1_moveBits 67 = .ok (.getfield 16, 3) := by decide +kernel
theorem dX1_moveBits_70 : decode cX1_moveBits 70 = .ok (.iload_n 1, 1) := by decide +kernel
theorem dX1_moveBits_71 : decode cX1_moveBits 71 = .ok (.iconst 1, 1) := by decide +kernel
theorem dX1_moveBits_72 : decode cX1_moveBits 72 = .ok (.iadd, 1) := by decide +kernel
theorem dX1_moveBits_73 : decode cX1_moveBits 73 = .ok (.aaload, 1) := by decide +kernel
theorem dX1_moveBits_74 : decode cX1_moveBits 74 = .ok (.iload 4, 2) := by decide +kernel
theorem dX1_moveBits_76 : decode cX1_moveBits 76 = .ok (.aload_n 0, 1) := by decide +kernel
theorem dX1_moveBits_77 : decode cX1_moveBits 77 = .ok (.getfield 16, 3) := by decide +kernel
theorem dX1_moveBits_80 : decode cX1_moveBits 80 = .ok (.iload_n 1, 1) := by decide +kernel
theorem dX1_moveBits_81 : decode cX1_moveBits 81 = .ok (.aaload, 1) := by decide +kernel
theorem dX1_moveBits_82 : decode cX1_moveBits 82 = .ok (.iload 5, 2) := by decide +kernel
theorem dX1_moveBits_84 : decode cX1_moveBits 84 = .ok (.iaload, 1) := by decide +kernel
theorem dX1_moveBits_85 : decode cX1_moveBits 85 = .ok (.iastore, 1) := by decide +kernel
theorem dX1_moveBits_86 : decode cX1_moveBits 86 = .ok (.iinc 4 1, 3) := by decide +kernel
theorem dX1_moveBits_89 : decode cX1_moveBits 89 = .ok (.iinc 5 1, 3) := by decide +kernel
theorem dX1_moveBits_92 : decode cX1_moveBits 92 = .ok (.goto (-86), 3) := by decide +kernel
theorem dX1_moveBits_95 : decode cX1_moveBits 95 = .ok (.iload 4, 2) := by decide +kernel
theorem dX1_moveBits_97 : decode cX1_moveBits 97 = .ok (.ireturn, 1) := by decide +kernel
theorem dX1_isOn_0 : decode cX1_isOn 0 = .ok (.iload_n 1, 1) := by decide +kernel
theorem dX1_isOn_1 : decode cX1_isOn 1 = .ok (.iconst 4, 1) := by decide +kernel
theorem dX1_isOn_2 : decode cX1_isOn 2 = .ok (.invokestatic 43, 3) := by decide +kernel
theorem dX1_isOn_5 : decode cX1_isOn 5 = .ok (.ifCond .eq 19, 3) := by decide +kernel
theorem dX1_isOn_8 : decode cX1_isOn 8 = .ok (.iload_n 2, 1) := by decide +kernel
theorem dX1_isOn_9 : decode cX1_isOn 9 = .ok (.ifCond .lt 15, 3) := by decide +kernel
theorem dX1_isOn_12 : decode cX1_isOn 12 = .ok (.iload_n 2, 1) := by decide +kernel
theorem dX1_isOn_13 : decode cX1_isOn 13 = .ok (.aload_n 0, 1) := by decide +kernel
theorem dX1_isOn_14 : decode cX1_isOn 14 = .ok (.getfield 22, 3) := by decide +kernel
theorem dX1_isOn_17 : decode cX1_isOn 17 = .ok (.if_icmp .ge 7, 3) := by decide +kernel
theorem dX1_isOn_20 : decode cX1_isOn 20 = .ok (.iconst 1, 1) := by decide +kernel
theorem dX1_isOn_21 : decode cX1_isOn 21 = .ok (.goto 4, 3) := by decide +kernel
theorem dX1_isOn_24 : decode cX1_isOn 24 = .ok (.iconst 0, 1) := by decide +kernel
theorem dX1_isOn_25 : decode cX1_isOn 25 = .ok (.ireturn, 1) := by decide +kernel
theorem dX1_symbolOf_0 : decode cX1_symbolOf 0 = .ok (.aload_n 0, 1) := by decide +kernel
theorem dX1_symbolOf_1 : decode cX1_symbolOf 1 = .ok (.iload_n 1, 1) := by decide +kernel
theorem dX1_symbolOf_2 : decode cX1_symbolOf 2 = .ok (.iload_n 2, 1) := by decide +kernel
theorem dX1_symbolOf_3 : decode cX1_symbolOf 3 = .ok (.invokevirtual 47, 3) := by decide +kernel
theorem dX1_symbolOf_6 : decode cX1_symbolOf 6 = .ok (.ifCond .eq 14, 3) := by decide +kernel
theorem dX1_symbolOf_9 : decode cX1_symbolOf 9 = .ok (.aload_n 0, 1) := by decide +kernel
theorem dX1_symbolOf_10 : decode cX1_symbolOf 10 = .ok (.getfield 11, 3) := by decide +kernel
theorem dX1_symbolOf_13 : decode cX1_symbolOf 13 = .ok (.iload_n 1, 1) := by decide +kernel
theorem dX1_symbolOf_14 : decode cX1_symbolOf 14 = .ok (.aaload, 1) := by decide +kernel
theorem dX1_symbolOf_15 : decode cX1_symbolOf 15 = .ok (.iload_n 2, 1) := by decide +kernel
theorem dX1_symbolOf_16 : decode cX1_symbolOf 16 = .ok (.iaload, 1) := by decide +kernel
theorem dX1_symbolOf_17 : decode cX1_symbolOf 17 = .ok (.goto 4, 3) := by decide +kernel
theorem dX1_symbolOf_20 : decode cX1_symbolOf 20 = .ok (.iconst (-1), 1) := by decide +kernel
theorem dX1_symbolOf_21 : decode cX1_symbolOf 21 = .ok (.ireturn, 1) := by decide +kernel
theorem dX1_bitOf_0 : decode cX1_bitOf 0 = .ok (.iload_n 1, 1) := by decide +kernel
theorem dX1_bitOf_1 : decode cX1_bitOf 1 = .ok (.invokestatic 50, 3) := by decide +kernel
theorem dX1_bitOf_4 : decode cX1_bitOf 4 = .ok (.ifCond .eq 29, 3) := by decide +kernel
theorem dX1_bitOf_7 : decode cX1_bitOf 7 = .ok (.aload_n 0, 1) := by decide +kernel
theorem dX1_bitOf_8 : decode cX1_bitOf 8 = .ok (.iload_n 1, 1) := by decide +kernel
theorem dX1_bitOf_9 : decode cX1_bitOf 9 = .ok (.iload_n 2, 1) := by decide +kernel
theorem dX1_bitOf_10 : decode cX1_bitOf 10 = .ok (.invokevirtual 47, 3) := by decide +kernel
theorem dX1_bitOf_13 : decode cX1_bitOf 13 = .ok (.ifCond .eq 20, 3) := by decide +kernel
theorem dX1_bitOf_16 : decode cX1_bitOf 16 = .ok (.aload_n 0, 1) := by decide +kernel
theorem dX1_bitOf_17 : decode cX1_bitOf 17 = .ok (.getfield 11, 3) := by decide +kernel
theorem dX1_bitOf_20 : decode cX1_bitOf 20 = .ok (.iload_n 1, 1) := by decide +kernel
theorem dX1_bitOf_21 : decode cX1_bitOf 21 = .ok (.aaload, 1) := by decide +kernel
theorem dX1_bitOf_22 : decode cX1_bitOf 22 = .ok (.iload_n 2, 1) := by decide +kernel
theorem dX1_bitOf_23 : decode cX1_bitOf 23 = .ok (.iaload, 1) := by decide +kernel
theorem dX1_bitOf_24 : decode cX1_bitOf 24 = .ok (.iconst 3, 1) := by decide +kernel
theorem dX1_bitOf_25 : decode cX1_bitOf 25 = .ok (.iload_n 1, 1) := by decide +kernel
theorem dX1_bitOf_26 : decode cX1_bitOf 26 = .ok (.isub, 1) := by decide +kernel
theorem dX1_bitOf_27 : decode cX1_bitOf 27 = .ok (.ishr, 1) := by decide +kernel
theorem dX1_bitOf_28 : decode cX1_bitOf 28 = .ok (.iconst 1, 1) := by decide +kernel
theorem dX1_bitOf_29 : decode cX1_bitOf 29 = .ok (.iand, 1) := by decide +kernel
theorem dX1_bitOf_30 : decode cX1_bitOf 30 = .ok (.goto 4, 3) := by decide +kernel
theorem dX1_bitOf_33 : decode cX1_bitOf 33 = .ok (.iconst (-1), 1) := by decide +kernel
theorem dX1_bitOf_34 : decode cX1_bitOf 34 = .ok (.ireturn, 1) := by decide +kernel
theorem dX1_goalOf_0 : decode cX1_goalOf 0 = .ok (.iload_n 1, 1) := by decide +kernel
theorem dX1_goalOf_1 : decode cX1_goalOf 1 = .ok (.invokestatic 50, 3) := by decide +kernel
theorem dX1_goalOf_4 : decode cX1_goalOf 4 = .ok (.ifCond .eq 23, 3) := by decide +kernel
theorem dX1_goalOf_7 : decode cX1_goalOf 7 = .ok (.aload_n 0, 1) := by decide +kernel
theorem dX1_goalOf_8 : decode cX1_goalOf 8 = .ok (.iload_n 1, 1) := by decide +kernel
theorem dX1_goalOf_9 : decode cX1_goalOf 9 = .ok (.iload_n 2, 1) := by decide +kernel
theorem dX1_goalOf_10 : decode cX1_goalOf 10 = .ok (.invokevirtual 47, 3) := by decide +kernel
theorem dX1_goalOf_13 : decode cX1_goalOf 13 = .ok (.ifCond .eq 14, 3) := by decide +kernel
theorem dX1_goalOf_16 : decode cX1_goalOf 16 = .ok (.aload_n 0, 1) := by decide +kernel
theorem dX1_goalOf_17 : decode cX1_goalOf 17 = .ok (.getfield 19, 3) := by decide +kernel
theorem dX1_goalOf_20 : decode cX1_goalOf 20 = .ok (.iload_n 1, 1) := by decide +kernel
theorem dX1_goalOf_21 : decode cX1_goalOf 21 = .ok (.aaload, 1) := by decide +kernel
theorem dX1_goalOf_22 : decode cX1_goalOf 22 = .ok (.iload_n 2, 1) := by decide +kernel
theorem dX1_goalOf_23 : decode cX1_goalOf 23 = .ok (.iaload, 1) := by decide +kernel
theorem dX1_goalOf_24 : decode cX1_goalOf 24 = .ok (.goto 4, 3) := by decide +kernel
theorem dX1_goalOf_27 : decode cX1_goalOf 27 = .ok (.iconst (-1), 1) := by decide +kernel
theorem dX1_goalOf_28 : decode cX1_goalOf 28 = .ok (.ireturn, 1) := by decide +kernel
theorem dX1_originOf_0 : decode cX1_originOf 0 = .ok (.aload_n 0, 1) := by decide +kernel
theorem dX1_originOf_1 : decode cX1_originOf 1 = .ok (.iload_n 1, 1) := by decide +kernel
theorem dX1_originOf_2 : decode cX1_originOf 2 = .ok (.iload_n 2, 1) := by decide +kernel
theorem dX1_originOf_3 : decode cX1_originOf 3 = .ok (.invokevirtual 47, 3) := by decide +kernel
theorem dX1_originOf_6 : decode cX1_originOf 6 = .ok (.ifCond .eq 14, 3) := by decide +kernel
theorem dX1_originOf_9 : decode cX1_originOf 9 = .ok (.aload_n 0, 1) := by decide +kernel
theorem dX1_originOf_10 : decode cX1_originOf 10 = .ok (.getfield 16, 3) := by decide +kernel
theorem dX1_originOf_13 : decode cX1_originOf 13 = .ok (.iload_n 1, 1) := by decide +kernel
theorem dX1_originOf_14 : decode cX1_originOf 14 = .ok (.aaload, 1) := by decide +kernel
theorem dX1_originOf_15 : decode cX1_originOf 15 = .ok (.iload_n 2, 1) := by decide +kernel
theorem dX1_originOf_16 : decode cX1_originOf 16 = .ok (.iaload, 1) := by decide +kernel
theorem dX1_originOf_17 : decode cX1_originOf 17 = .ok (.goto 4, 3) := by decide +kernel
theorem dX1_originOf_20 : decode cX1_originOf 20 = .ok (.iconst (-1), 1) := by decide +kernel
theorem dX1_originOf_21 : decode cX1_originOf 21 = .ok (.ireturn, 1) := by decide +kernel
theorem dX1_packed_0 : decode cX1_packed 0 = .ok (.lconst 0, 1) := by decide +kernel
theorem dX1_packed_1 : decode cX1_packed 1 = .ok (.lstore 4, 2) := by decide +kernel
theorem dX1_packed_3 : decode cX1_packed 3 = .ok (.iload_n 2, 1) := by decide +kernel
theorem dX1_packed_4 : decode cX1_packed 4 = .ok (.istore 6, 2) := by decide +kernel
theorem dX1_packed_6 : decode cX1_packed 6 = .ok (.iload 6, 2) := by decide +kernel
theorem dX1_packed_8 : decode cX1_packed 8 = .ok (.iload_n 3, 1) := by decide +kernel
theorem dX1_packed_9 : decode cX1_packed 9 = .ok (.if_icmp .ge 31, 3) := by decide +kernel
theorem dX1_packed_12 : decode cX1_packed 12 = .ok (.aload_n 0, 1) := by decide +kernel
theorem dX1_packed_13 : decode cX1_packed 13 = .ok (.iload_n 1, 1) := by decide +kernel
theorem dX1_packed_14 : decode cX1_packed 14 = .ok (.iload 6, 2) := by decide +kernel
theorem dX1_packed_16 : decode cX1_packed 16 = .ok (.invokevirtual 39, 3) := by decide +kernel
theorem dX1_packed_19 : decode cX1_packed 19 = .ok (.iconst 1, 1) := by decide +kernel
theorem dX1_packed_20 : decode cX1_packed 20 = .ok (.if_icmp .ne 14, 3) := by decide +kernel
theorem dX1_packed_23 : decode cX1_packed 23 = .ok (.lload 4, 2) := by decide +kernel
theorem dX1_packed_25 : decode cX1_packed 25 = .ok (.lconst 1, 1) := by decide +kernel
theorem dX1_packed_26 : decode cX1_packed 26 = .ok (.iload 6, 2) := by decide +kernel
theorem dX1_packed_28 : decode cX1_packed 28 = .ok (.iload_n 2, 1) := by decide +kernel
theorem dX1_packed_29 : decode cX1_packed 29 = .ok (.isub, 1) := by decide +kernel
theorem dX1_packed_30 : decode cX1_packed 30 = .ok (.lshl, 1) := by decide +kernel
theorem dX1_packed_31 : decode cX1_packed 31 = .ok (.lor, 1) := by decide +kernel
theorem dX1_packed_32 : decode cX1_packed 32 = .ok (.lstore 4, 2) := by decide +kernel
theorem dX1_packed_34 : decode cX1_packed 34 = .ok (.iinc 6 1, 3) := by decide +kernel
theorem dX1_packed_37 : decode cX1_packed 37 = .ok (.goto (-31), 3) := by decide +kernel
theorem dX1_packed_40 : decode cX1_packed 40 = .ok (.lload 4, 2) := by decide +kernel
theorem dX1_packed_42 : decode cX1_packed 42 = .ok (.lreturn, 1) := by decide +kernel
theorem dX1_ones_0 : decode cX1_ones 0 = .ok (.aload_n 0, 1) := by decide +kernel
theorem dX1_ones_1 : decode cX1_ones 1 = .ok (.iload_n 1, 1) := by decide +kernel
theorem dX1_ones_2 : decode cX1_ones 2 = .ok (.iload_n 2, 1) := by decide +kernel
theorem dX1_ones_3 : decode cX1_ones 3 = .ok (.iload_n 3, 1) := by decide +kernel
theorem dX1_ones_4 : decode cX1_ones 4 = .ok (.invokevirtual 54, 3) := by decide +kernel
theorem dX1_ones_7 : decode cX1_ones 7 = .ok (.invokestatic 58, 3) := by decide +kernel
theorem dX1_ones_10 : decode cX1_ones 10 = .ok (.ireturn, 1) := by decide +kernel
theorem dX2_init_0 : decode cX2_init 0 = .ok (.aload_n 0, 1) := by decide +kernel
theorem dX2_init_1 : decode cX2_init 1 = .ok (.invokespecial 3, 3) := by decide +kernel
theorem dX2_init_4 : decode cX2_init 4 = .ok (.aload_n 0, 1) := by decide +kernel
theorem dX2_init_5 : decode cX2_init 5 = .ok (.new 9, 3) := by decide +kernel
theorem dX2_init_8 : decode cX2_init 8 = .ok (.dup, 1) := by decide +kernel
theorem dX2_init_9 : decode cX2_init 9 = .ok (.invokespecial 11, 3) := by decide +kernel
theorem dX2_init_12 : decode cX2_init 12 = .ok (.putfield 12, 3) := by decide +kernel
theorem dX2_init_15 : decode cX2_init 15 = .ok (.aload_n 0, 1) := by decide +kernel
theorem dX2_init_16 : decode cX2_init 16 = .ok (.new 18, 3) := by decide +kernel
theorem dX2_init_19 : decode cX2_init 19 = .ok (.dup, 1) := by decide +kernel
theorem dX2_init_20 : decode cX2_init 20 = .ok (.invokespecial 20, 3) := by decide +kernel
theorem dX2_init_23 : decode cX2_init 23 = .ok (.putfield 21, 3) := by decide +kernel
theorem dX2_init_26 : decode cX2_init 26 = .ok (.return_, 1) := by decide +kernel
theorem dX2_text_0 : decode cX2_text 0 = .ok (.aload_n 0, 1) := by decide +kernel
theorem dX2_text_1 : decode cX2_text 1 = .ok (.getfield 12, 3) := by decide +kernel
theorem dX2_text_4 : decode cX2_text 4 = .ok (.areturn, 1) := by decide +kernel
theorem dX2_outcome_0 : decode cX2_outcome 0 = .ok (.aload_n 0, 1) := by decide +kernel
theorem dX2_outcome_1 : decode cX2_outcome 1 = .ok (.getfield 21, 3) := by decide +kernel
theorem dX2_outcome_4 : decode cX2_outcome 4 = .ok (.areturn, 1) := by decide +kernel
theorem dX2_position_0 : decode cX2_position 0 = .ok (.aload_n 0, 1) := by decide +kernel
theorem dX2_position_1 : decode cX2_position 1 = .ok (.getfield 25, 3) := by decide +kernel
theorem dX2_position_4 : decode cX2_position 4 = .ok (.ireturn, 1) := by decide +kernel
theorem dX2_reason_0 : decode cX2_reason 0 = .ok (.aload_n 0, 1) := by decide +kernel
theorem dX2_reason_1 : decode cX2_reason 1 = .ok (.getfield 29, 3) := by decide +kernel
theorem dX2_reason_4 : decode cX2_reason 4 = .ok (.ireturn, 1) := by decide +kernel
theorem dX2_cause_0 : decode cX2_cause 0 = .ok (.aload_n 0, 1) := by decide +kernel
theorem dX2_cause_1 : decode cX2_cause 1 = .ok (.getfield 32, 3) := by decide +kernel
theorem dX2_cause_4 : decode cX2_cause 4 = .ok (.ireturn, 1) := by decide +kernel
theorem dX2_playAll_0 : decode cX2_playAll 0 = .ok (.aload_n 0, 1) := by decide +kernel
theorem dX2_playAll_1 : decode cX2_playAll 1 = .ok (.getfield 21, 3) := by decide +kernel
theorem dX2_playAll_4 : decode cX2_playAll 4 = .ok (.aload_n 1, 1) := by decide +kernel
theorem dX2_playAll_5 : decode cX2_playAll 5 = .ok (.invokevirtual 35, 3) := by decide +kernel
theorem dX2_playAll_8 : decode cX2_playAll 8 = .ok (.aload_n 0, 1) := by decide +kernel
theorem dX2_playAll_9 : decode cX2_playAll 9 = .ok (.iconst 0, 1) := by decide +kernel
theorem dX2_playAll_10 : decode cX2_playAll 10 = .ok (.putfield 39, 3) := by decide +kernel
theorem dX2_playAll_13 : decode cX2_playAll 13 = .ok (.aload_n 0, 1) := by decide +kernel
theorem dX2_playAll_14 : decode cX2_playAll 14 = .ok (.iconst 0, 1) := by decide +kernel
theorem dX2_playAll_15 : decode cX2_playAll 15 = .ok (.putfield 29, 3) := by decide +kernel
theorem dX2_playAll_18 : decode cX2_playAll 18 = .ok (.iconst 0, 1) := by decide +kernel
theorem dX2_playAll_19 : decode cX2_playAll 19 = .ok (.istore_n 2, 1) := by decide +kernel
theorem dX2_playAll_20 : decode cX2_playAll 20 = .ok (.iload_n 2, 1) := by decide +kernel
theorem dX2_playAll_21 : decode cX2_playAll 21 = .ok (.bipush 60, 2) := by decide +kernel
theorem dX2_playAll_23 : decode cX2_playAll 23 = .ok (.if_icmp .ge 34, 3) := by decide +kernel
theorem dX2_playAll_26 : decode cX2_playAll 26 = .ok (.aload_n 0, 1) := by decide +kernel
theorem dX2_playAll_27 : decode cX2_playAll 27 = .ok (.getfield 29, 3) := by decide +kernel
theorem dX2_playAll_30 : decode cX2_playAll 30 = .ok (.ifCond .ne 27, 3) := by decide +kernel
theorem dX2_playAll_33 : decode cX2_playAll 33 = .ok (.aload_n 0, 1) := by decide +kernel
theorem dX2_playAll_34 : decode cX2_playAll 34 = .ok (.getfield 39, 3) := by decide +kernel
theorem dX2_playAll_37 : decode cX2_playAll 37 = .ok (.aload_n 0, 1) := by decide +kernel
theorem dX2_playAll_38 : decode cX2_playAll 38 = .ok (.getfield 12, 3) := by decide +kernel
theorem dX2_playAll_41 : decode cX2_playAll 41 = .ok (.invokevirtual 42, 3) := by decide +kernel
theorem dX2_playAll_44 : decode cX2_playAll 44 = .ok (.if_icmp .ge 13, 3) := by decide +kernel
theorem dX2_playAll_47 : decode cX2_playAll 47 = .ok (.aload_n 0, 1) := by decide +kernel
theorem dX2_playAll_48 : decode cX2_playAll 48 = .ok (.invokevirtual 46, 3) := by decide +kernel
theorem dX2_playAll_51 : decode cX2_playAll 51 = .ok (.iinc 2 1, 3) := by decide +kernel
theorem dX2_playAll_54 : decode cX2_playAll 54 = .ok (.goto (-34), 3) := by decide +kernel
theorem dX2_playAll_57 : decode cX2_playAll 57 = .ok (.return_, 1) := by decide +kernel
theorem dX2_playEdit_0 : decode cX2_playEdit 0 = .ok (.aload_n 0, 1) := by decide +kernel
theorem dX2_playEdit_1 : decode cX2_playEdit 1 = .ok (.aload_n 0, 1) := by decide +kernel
theorem dX2_playEdit_2 : decode cX2_playEdit 2 = .ok (.getfield 39, 3) := by decide +kernel
theorem dX2_playEdit_5 : decode cX2_playEdit 5 = .ok (.putfield 25, 3) := by decide +kernel
theorem dX2_playEdit_8 : decode cX2_playEdit 8 = .ok (.aload_n 0, 1) := by decide +kernel
theorem dX2_playEdit_9 : decode cX2_playEdit 9 = .ok (.invokevirtual 49, 3) := by decide +kernel
theorem dX2_playEdit_12 : decode cX2_playEdit 12 = .ok (.ifCond .ne 22, 3) := by decide +kernel
theorem dX2_playEdit_15 : decode cX2_playEdit 15 = .ok (.aload_n 0, 1) := by decide +kernel
theorem dX2_playEdit_16 : decode cX2_playEdit 16 = .ok (.iconst 1, 1) := by decide +kernel
theorem dX2_playEdit_17 : decode cX2_playEdit 17 = .ok (.putfield 29, 3) := by decide +kernel
theorem dX2_playEdit_20 : decode cX2_playEdit 20 = .ok (.aload_n 0, 1) := by decide +kernel
theorem dX2_playEdit_21 : decode cX2_playEdit 21 = .ok (.aload_n 0, 1) := by decide +kernel
theorem dX2_playEdit_22 : decode cX2_playEdit 22 = .ok (.getfield 39, 3) := by decide +kernel
theorem dX2_playEdit_25 : decode cX2_playEdit 25 = .ok (.aload_n 0, 1) := by decide +kernel
theorem dX2_playEdit_26 : decode cX2_playEdit 26 = .ok (.getfield 25, 3) := by decide +kernel
theorem dX2_playEdit_29 : decode cX2_playEdit 29 = .ok (.isub, 1) := by decide +kernel
theorem dX2_playEdit_30 : decode cX2_playEdit 30 = .ok (.putfield 32, 3) := by decide +kernel
theorem dX2_playEdit_33 : decode cX2_playEdit 33 = .ok (.return_, 1) := by decide +kernel
theorem dX2_playEdit_34 : decode cX2_playEdit 34 = .ok (.aload_n 0, 1) := by decide +kernel
theorem dX2_playEdit_35 : decode cX2_playEdit 35 = .ok (.aload_n 0, 1) := by decide +kernel
theorem dX2_playEdit_36 : decode cX2_playEdit 36 = .ok (.invokevirtual 53, 3) := by decide +kernel
theorem dX2_playEdit_39 : decode cX2_playEdit 39 = .ok (.putfield 29, 3) := by decide +kernel
theorem dX2_playEdit_42 : decode cX2_playEdit 42 = .ok (.aload_n 0, 1) := by decide +kernel
theorem dX2_playEdit_43 : decode cX2_playEdit 43 = .ok (.getfield 29, 3) := by decide +kernel
theorem dX2_playEdit_46 : decode cX2_playEdit 46 = .ok (.ifCond .ne 7, 3) := by decide +kernel
theorem dX2_playEdit_49 : decode cX2_playEdit 49 = .ok (.aload_n 0, 1) := by decide +kernel
theorem dX2_playEdit_50 : decode cX2_playEdit 50 = .ok (.invokevirtual 56, 3) := by decide +kernel
theorem dX2_playEdit_53 : decode cX2_playEdit 53 = .ok (.return_, 1) := by decide +kernel
theorem dX2_readEdit_0 : decode cX2_readEdit 0 = .ok (.aload_n 0, 1) := by decide +kernel
theorem dX2_readEdit_1 : decode cX2_readEdit 1 = .ok (.aload_n 0, 1) := by decide +kernel
theorem dX2_readEdit_2 : decode cX2_readEdit 2 = .ok (.getfield 12, 3) := by decide +kernel
theorem dX2_readEdit_5 : decode cX2_readEdit 5 = .ok (.aload_n 0, 1) := by decide +kernel
theorem dX2_readEdit_6 : decode cX2_readEdit 6 = .ok (.getfield 39, 3) := by decide +kernel
theorem dX2_readEdit_9 : decode cX2_readEdit 9 = .ok (.invokevirtual 59, 3) := by decide +kernel
theorem dX2_readEdit_12 : decode cX2_readEdit 12 = .ok (.putfield 63, 3) := by decide +kernel
theorem dX2_readEdit_15 : decode cX2_readEdit 15 = .ok (.aload_n 0, 1) := by decide +kernel
theorem dX2_readEdit_16 : decode cX2_readEdit 16 = .ok (.getfield 63, 3) := by decide +kernel
theorem dX2_readEdit_19 : decode cX2_readEdit 19 = .ok (.bipush 43, 2) := by decide +kernel
theorem dX2_readEdit_21 : decode cX2_readEdit 21 = .ok (.if_icmp .eq 32, 3) := by decide +kernel
theorem dX2_readEdit_24 : decode cX2_readEdit 24 = .ok (.aload_n 0, 1) := by decide +kernel
theorem dX2_readEdit_25 : decode cX2_readEdit 25 = .ok (.getfield 63, 3) := by decide +kernel
theorem dX2_readEdit_28 : decode cX2_readEdit 28 = .ok (.bipush 45, 2) := by decide +kernel
theorem dX2_readEdit_30 : decode cX2_readEdit 30 = .ok (.if_icmp .eq 23, 3) := by decide +kernel
theorem dX2_readEdit_33 : decode cX2_readEdit 33 = .ok (.aload_n 0, 1) := by decide +kernel
theorem dX2_readEdit_34 : decode cX2_readEdit 34 = .ok (.getfield 63, 3) := by decide +kernel
theorem dX2_readEdit_37 : decode cX2_readEdit 37 = .ok (.bipush 120, 2) := by decide +kernel
theorem dX2_readEdit_39 : decode cX2_readEdit 39 = .ok (.if_icmp .eq 14, 3) := by decide +kernel
theorem dX2_readEdit_42 : decode cX2_readEdit 42 = .ok (.aload_n 0, 1) := by decide +kernel
theorem dX2_readEdit_43 : decode cX2_readEdit 43 = .ok (.getfield 63, 3) := by decide +kernel
theorem dX2_readEdit_46 : decode cX2_readEdit 46 = .ok (.bipush 114, 2) := by decide +kernel
theorem dX2_readEdit_48 : decode cX2_readEdit 48 = .ok (.if_icmp .eq 5, 3) := by decide +kernel
theorem dX2_readEdit_51 : decode cX2_readEdit 51 = .ok (.iconst 0, 1) := by decide +kernel
theorem dX2_readEdit_52 : decode cX2_readEdit 52 = .ok (.ireturn, 1) := by decide +kernel
theorem dX2_readEdit_53 : decode cX2_readEdit 53 = .ok (.aload_n 0, 1) := by decide +kernel
theorem dX2_readEdit_54 : decode cX2_readEdit 54 = .ok (.dup, 1) := by decide +kernel
theorem dX2_readEdit_55 : decode cX2_readEdit 55 = .ok (.getfield 39, 3) := by decide +kernel
theorem dX2_readEdit_58 : decode cX2_readEdit 58 = .ok (.iconst 1, 1) := by decide +kernel
theorem dX2_readEdit_59 : decode cX2_readEdit 59 = .ok (.iadd, 1) := by decide +kernel
theorem dX2_readEdit_60 : decode cX2_readEdit 60 = .ok (.putfield 39, 3) := by decide +kernel
theorem dX2_readEdit_63 : decode cX2_readEdit 63 = .ok (.aload_n 0, 1) := by decide +kernel
theorem dX2_readEdit_64 : decode cX2_readEdit 64 = .ok (.aload_n 0, 1) := by decide +kernel
theorem dX2_readEdit_65 : decode cX2_readEdit 65 = .ok (.invokevirtual 66, 3) := by decide +kernel
theorem dX2_readEdit_68 : decode cX2_readEdit 68 = .ok (.putfield 69, 3) := by decide +kernel
theorem dX2_readEdit_71 : decode cX2_readEdit 71 = .ok (.aload_n 0, 1) := by decide +kernel
theorem dX2_readEdit_72 : decode cX2_readEdit 72 = .ok (.getfield 69, 3) := by decide +kernel
theorem dX2_readEdit_75 : decode cX2_readEdit 75 = .ok (.iconst (-1), 1) := by decide +kernel
theorem dX2_readEdit_76 : decode cX2_readEdit 76 = .ok (.if_icmp .eq 12, 3) := by decide +kernel
theorem dX2_readEdit_79 : decode cX2_readEdit 79 = .ok (.aload_n 0, 1) := by decide +kernel
theorem dX2_readEdit_80 : decode cX2_readEdit 80 = .ok (.bipush 44, 2) := by decide +kernel
theorem dX2_readEdit_82 : decode cX2_readEdit 82 = .ok (.invokevirtual 72, 3) := by decide +kernel
theorem dX2_readEdit_85 : decode cX2_readEdit 85 = .ok (.ifCond .ne 5, 3) := by decide +kernel
theorem dX2_readEdit_88 : decode cX2_readEdit 88 = .ok (.iconst 0, 1) := by decide +kernel
theorem dX2_readEdit_89 : decode cX2_readEdit 89 = .ok (.ireturn, 1) := by decide +kernel
theorem dX2_readEdit_90 : decode cX2_readEdit 90 = .ok (.aload_n 0, 1) := by decide +kernel
theorem dX2_readEdit_91 : decode cX2_readEdit 91 = .ok (.aload_n 0, 1) := by decide +kernel
theorem dX2_readEdit_92 : decode cX2_readEdit 92 = .ok (.getfield 63, 3) := by decide +kernel
theorem dX2_readEdit_95 : decode cX2_readEdit 95 = .ok (.bipush 43, 2) := by decide +kernel
theorem dX2_readEdit_97 : decode cX2_readEdit 97 = .ok (.if_icmp .ne 10, 3) := by decide +kernel
theorem dX2_readEdit_100 : decode cX2_readEdit 100 = .ok (.aload_n 0, 1) := by decide +kernel
theorem dX2_readEdit_101 : decode cX2_readEdit 101 = .ok (.invokevirtual 76, 3) := by decide +kernel
theorem dX2_readEdit_104 : decode cX2_readEdit 104 = .ok (.goto 7, 3) := by decide +kernel
theorem dX2_readEdit_107 : decode cX2_readEdit 107 = .ok (.aload_n 0, 1) := by decide +kernel
theorem dX2_readEdit_108 : decode cX2_readEdit 108 = .ok (.invokevirtual 66, 3) := by decide +kernel
theorem dX2_readEdit_111 : decode cX2_readEdit 111 = .ok (.putfield 79, 3) := by decide +kernel
theorem dX2_readEdit_114 : decode cX2_readEdit 114 = .ok (.aload_n 0, 1) := by decide +kernel
theorem dX2_readEdit_115 : decode cX2_readEdit 115 = .ok (.getfield 79, 3) := by decide +kernel
theorem dX2_readEdit_118 : decode cX2_readEdit 118 = .ok (.iconst (-1), 1) := by decide +kernel
theorem dX2_readEdit_119 : decode cX2_readEdit 119 = .ok (.if_icmp .eq 16, 3) := by decide +kernel
theorem dX2_readEdit_122 : decode cX2_readEdit 122 = .ok (.aload_n 0, 1) := by decide +kernel
theorem dX2_readEdit_123 : decode cX2_readEdit 123 = .ok (.bipush 59, 2) := by decide +kernel
theorem dX2_readEdit_125 : decode cX2_readEdit 125 = .ok (.invokevirtual 72, 3) := by decide +kernel
theorem dX2_readEdit_128 : decode cX2_readEdit 128 = .ok (.ifCond .eq 7, 3) := by decide +kernel
theorem dX2_readEdit_131 : decode cX2_readEdit 131 = .ok (.iconst 1, 1) := by decide +kernel
theorem dX2_readEdit_132 : decode cX2_readEdit 132 = .ok (.goto 4, 3) := by decide +kernel
theorem dX2_readEdit_135 : decode cX2_readEdit 135 = .ok (.iconst 0, 1) := by decide +kernel
theorem dX2_readEdit_136 : decode cX2_readEdit 136 = .ok (.ireturn, 1) := by decide +kernel
theorem dX2_readSign_0 : decode cX2_readSign 0 = .ok (.aload_n 0, 1) := by decide +kernel
theorem dX2_readSign_1 : decode cX2_readSign 1 = .ok (.getfield 12, 3) := by decide +kernel
theorem dX2_readSign_4 : decode cX2_readSign 4 = .ok (.aload_n 0, 1) := by decide +kernel
theorem dX2_readSign_5 : decode cX2_readSign 5 = .ok (.getfield 39, 3) := by decide +kernel
theorem dX2_readSign_8 : decode cX2_readSign 8 = .ok (.invokevirtual 59, 3) := by decide +kernel
theorem dX2_readSign_11 : decode cX2_readSign 11 = .ok (.iload_n 1, 1) := by decide +kernel
theorem dX2_readSign_12 : decode cX2_readSign 12 = .ok (.if_icmp .eq 5, 3) := by decide +kernel
theorem dX2_readSign_15 : decode cX2_readSign 15 = .ok (.iconst 0, 1) := by decide +kernel
theorem dX2_readSign_16 : decode cX2_readSign 16 = .ok (.ireturn, 1) := by decide +kernel
theorem dX2_readSign_17 : decode cX2_readSign 17 = .ok (.aload_n 0, 1) := by decide +kernel
theorem dX2_readSign_18 : decode cX2_readSign 18 = .ok (.dup, 1) := by decide +kernel
theorem dX2_readSign_19 : decode cX2_readSign 19 = .ok (.getfield 39, 3) := by decide +kernel
theorem dX2_readSign_22 : decode cX2_readSign 22 = .ok (.iconst 1, 1) := by decide +kernel
theorem dX2_readSign_23 : decode cX2_readSign 23 = .ok (.iadd, 1) := by decide +kernel
theorem dX2_readSign_24 : decode cX2_readSign 24 = .ok (.putfield 39, 3) := by decide +kernel
theorem dX2_readSign_27 : decode cX2_readSign 27 = .ok (.iconst 1, 1) := by decide +kernel
theorem dX2_readSign_28 : decode cX2_readSign 28 = .ok (.ireturn, 1) := by decide +kernel
theorem dX2_readNumber_0 : decode cX2_readNumber 0 = .ok (.aload_n 0, 1) := by decide +kernel
theorem dX2_readNumber_1 : decode cX2_readNumber 1 = .ok (.getfield 12, 3) := by decide +kernel
theorem dX2_readNumber_4 : decode cX2_readNumber 4 = .ok (.aload_n 0, 1) := by decide +kernel
theorem dX2_readNumber_5 : decode cX2_readNumber 5 = .ok (.getfield 39, 3) := by decide +kernel
theorem dX2_readNumber_8 : decode cX2_readNumber 8 = .ok (.invokevirtual 82, 3) := by decide +kernel
theorem dX2_readNumber_11 : decode cX2_readNumber 11 = .ok (.istore_n 1, 1) := by decide +kernel
theorem dX2_readNumber_12 : decode cX2_readNumber 12 = .ok (.iload_n 1, 1) := by decide +kernel
theorem dX2_readNumber_13 : decode cX2_readNumber 13 = .ok (.iconst (-1), 1) := by decide +kernel
theorem dX2_readNumber_14 : decode cX2_readNumber 14 = .ok (.if_icmp .ne 5, 3) := by decide +kernel
theorem dX2_readNumber_17 : decode cX2_readNumber 17 = .ok (.iconst (-1), 1) := by decide +kernel
theorem dX2_readNumber_18 : decode cX2_readNumber 18 = .ok (.ireturn, 1) := by decide +kernel
theorem dX2_readNumber_19 : decode cX2_readNumber 19 = .ok (.aload_n 0, 1) := by decide +kernel
theorem dX2_readNumber_20 : decode cX2_readNumber 20 = .ok (.dup, 1) := by decide +kernel
theorem dX2_readNumber_21 : decode cX2_readNumber 21 = .ok (.getfield 39, 3) := by decide +kernel
theorem dX2_readNumber_24 : decode cX2_readNumber 24 = .ok (.iconst 1, 1) := by decide +kernel
theorem dX2_readNumber_25 : decode cX2_readNumber 25 = .ok (.iadd, 1) := by decide +kernel
theorem dX2_readNumber_26 : decode cX2_readNumber 26 = .ok (.putfield 39, 3) := by decide +kernel
theorem dX2_readNumber_29 : decode cX2_readNumber 29 = .ok (.aload_n 0, 1) := by decide +kernel
theorem dX2_readNumber_30 : decode cX2_readNumber 30 = .ok (.getfield 12, 3) := by decide +kernel
theorem dX2_readNumber_33 : decode cX2_readNumber 33 = .ok (.aload_n 0, 1) := by decide +kernel
theorem dX2_readNumber_34 : decode cX2_readNumber 34 = .ok (.getfield 39, 3) := by decide +kernel
theorem dX2_readNumber_37 : decode cX2_readNumber 37 = .ok (.invokevirtual 82, 3) := by decide +kernel
theorem dX2_readNumber_40 : decode cX2_readNumber 40 = .ok (.istore_n 2, 1) := by decide +kernel
theorem dX2_readNumber_41 : decode cX2_readNumber 41 = .ok (.iload_n 2, 1) := by decide +kernel
theorem dX2_readNumber_42 : decode cX2_readNumber 42 = .ok (.iconst (-1), 1) := by decide +kernel
theorem dX2_readNumber_43 : decode cX2_readNumber 43 = .ok (.if_icmp .ne 5, 3) := by decide +kernel
theorem dX2_readNumber_46 : decode cX2_readNumber 46 = .ok (.iload_n 1, 1) := by decide +kernel
theorem dX2_readNumber_47 : decode cX2_readNumber 47 = .ok (.ireturn, 1) := by decide +kernel
theorem dX2_readNumber_48 : decode cX2_readNumber 48 = .ok (.aload_n 0, 1) := by decide +kernel
theorem dX2_readNumber_49 : decode cX2_readNumber 49 = .ok (.dup, 1) := by decide +kernel
theorem dX2_readNumber_50 : decode cX2_readNumber 50 = .ok (.getfield 39, 3) := by decide +kernel
theorem dX2_readNumber_53 : decode cX2_readNumber 53 = .ok (.iconst 1, 1) := by decide +kernel
theorem dX2_readNumber_54 : decode cX2_readNumber 54 = .ok (.iadd, 1) := by decide +kernel
theorem dX2_readNumber_55 : decode cX2_readNumber 55 = .ok (.putfield 39, 3) := by decide +kernel
theorem dX2_readNumber_58 : decode cX2_readNumber 58 = .ok (.iload_n 1, 1) := by decide +kernel
theorem dX2_readNumber_59 : decode cX2_readNumber 59 = .ok (.bipush 10, 2) := by decide +kernel
theorem dX2_readNumber_61 : decode cX2_readNumber 61 = .ok (.imul, 1) := by decide +kernel
theorem dX2_readNumber_62 : decode cX2_readNumber 62 = .ok (.iload_n 2, 1) := by decide +kernel
theorem dX2_readNumber_63 : decode cX2_readNumber 63 = .ok (.iadd, 1) := by decide +kernel
theorem dX2_readNumber_64 : decode cX2_readNumber 64 = .ok (.ireturn, 1) := by decide +kernel
theorem dX2_readSymbols_0 : decode cX2_readSymbols 0 = .ok (.aload_n 0, 1) := by decide +kernel
theorem dX2_readSymbols_1 : decode cX2_readSymbols 1 = .ok (.aload_n 0, 1) := by decide +kernel
theorem dX2_readSymbols_2 : decode cX2_readSymbols 2 = .ok (.getfield 39, 3) := by decide +kernel
theorem dX2_readSymbols_5 : decode cX2_readSymbols 5 = .ok (.putfield 85, 3) := by decide +kernel
theorem dX2_readSymbols_8 : decode cX2_readSymbols 8 = .ok (.iconst 0, 1) := by decide +kernel
theorem dX2_readSymbols_9 : decode cX2_readSymbols 9 = .ok (.istore_n 1, 1) := by decide +kernel
theorem dX2_readSymbols_10 : decode cX2_readSymbols 10 = .ok (.iload_n 1, 1) := by decide +kernel
theorem dX2_readSymbols_11 : decode cX2_readSymbols 11 = .ok (.bipush 60, 2) := by decide +kernel
theorem dX2_readSymbols_13 : decode cX2_readSymbols 13 = .ok (.if_icmp .ge 34, 3) := by decide +kernel
theorem dX2_readSymbols_16 : decode cX2_readSymbols 16 = .ok (.aload_n 0, 1) := by decide +kernel
theorem dX2_readSymbols_17 : decode cX2_readSymbols 17 = .ok (.getfield 12, 3) := by decide +kernel
theorem dX2_readSymbols_20 : decode cX2_readSymbols 20 = .ok (.aload_n 0, 1) := by decide +kernel
theorem dX2_readSymbols_21 : decode cX2_readSymbols 21 = .ok (.getfield 39, 3) := by decide +kernel
theorem dX2_readSymbols_24 : decode cX2_readSymbols 24 = .ok (.invokevirtual 88, 3) := by decide +kernel
theorem dX2_readSymbols_27 : decode cX2_readSymbols 27 = .ok (.iconst (-1), 1) := by decide +kernel
theorem dX2_readSymbols_28 : decode cX2_readSymbols 28 = .ok (.if_icmp .eq 19, 3) := by decide +kernel
theorem dX2_readSymbols_31 : decode cX2_readSymbols 31 = .ok (.aload_n 0, 1) := by decide +kernel
theorem dX2_readSymbols_32 : decode cX2_readSymbols 32 = .ok (.dup, 1) := by decide +kernel
theorem dX2_readSymbols_33 : decode cX2_readSymbols 33 = .ok (.getfield 39, 3) := by decide +kernel
theorem dX2_readSymbols_36 : decode cX2_readSymbols 36 = .ok (.iconst 1, 1) := by decide +kernel
theorem dX2_readSymbols_37 : decode cX2_readSymbols 37 = .ok (.iadd, 1) := by decide +kernel
theorem dX2_readSymbols_38 : decode cX2_readSymbols 38 = .ok (.putfield 39, 3) := by decide +kernel
theorem dX2_readSymbols_41 : decode cX2_readSymbols 41 = .ok (.iinc 1 1, 3) := by decide +kernel
theorem dX2_readSymbols_44 : decode cX2_readSymbols 44 = .ok (.goto (-34), 3) := by decide +kernel
theorem dX2_readSymbols_47 : decode cX2_readSymbols 47 = .ok (.aload_n 0, 1) := by decide +kernel
theorem dX2_readSymbols_48 : decode cX2_readSymbols 48 = .ok (.getfield 39, 3) := by decide +kernel
theorem dX2_readSymbols_51 : decode cX2_readSymbols 51 = .ok (.aload_n 0, 1) := by decide +kernel
theorem dX2_readSymbols_52 : decode cX2_readSymbols 52 = .ok (.getfield 85, 3) := by decide +kernel
theorem dX2_readSymbols_55 : decode cX2_readSymbols 55 = .ok (.if_icmp .le 15, 3) := by decide +kernel
theorem dX2_readSymbols_58 : decode cX2_readSymbols 58 = .ok (.aload_n 0, 1) := by decide +kernel
theorem dX2_readSymbols_59 : decode cX2_readSymbols 59 = .ok (.getfield 39, 3) := by decide +kernel
theorem dX2_readSymbols_62 : decode cX2_readSymbols 62 = .ok (.aload_n 0, 1) := by decide +kernel
theorem dX2_readSymbols_63 : decode cX2_readSymbols 63 = .ok (.getfield 85, 3) := by decide +kernel
theorem dX2_readSymbols_66 : decode cX2_readSymbols 66 = .ok (.isub, 1) := by decide +kernel
theorem dX2_readSymbols_67 : decode cX2_readSymbols 67 = .ok (.goto 4, 3) := by decide +kernel
theorem dX2_readSymbols_70 : decode cX2_readSymbols 70 = .ok (.iconst (-1), 1) := by decide +kernel
theorem dX2_readSymbols_71 : decode cX2_readSymbols 71 = .ok (.ireturn, 1) := by decide +kernel
theorem dX2_reasonAgainst_0 : decode cX2_reasonAgainst 0 = .ok (.aload_n 0, 1) := by decide +kernel
theorem dX2_reasonAgainst_1 : decode cX2_reasonAgainst 1 = .ok (.invokevirtual 91, 3) := by decide +kernel
theorem dX2_reasonAgainst_4 : decode cX2_reasonAgainst 4 = .ok (.ifCond .ne 5, 3) := by decide +kernel
theorem dX2_reasonAgainst_7 : decode cX2_reasonAgainst 7 = .ok (.iconst 2, 1) := by decide +kernel
theorem dX2_reasonAgainst_8 : decode cX2_reasonAgainst 8 = .ok (.ireturn, 1) := by decide +kernel
theorem dX2_reasonAgainst_9 : decode cX2_reasonAgainst 9 = .ok (.aload_n 0, 1) := by decide +kernel
theorem dX2_reasonAgainst_10 : decode cX2_reasonAgainst 10 = .ok (.getfield 63, 3) := by decide +kernel
theorem dX2_reasonAgainst_13 : decode cX2_reasonAgainst 13 = .ok (.bipush 43, 2) := by decide +kernel
theorem dX2_reasonAgainst_15 : decode cX2_reasonAgainst 15 = .ok (.if_icmp .ne 24, 3) := by decide +kernel
theorem dX2_reasonAgainst_18 : decode cX2_reasonAgainst 18 = .ok (.aload_n 0, 1) := by decide +kernel
theorem dX2_reasonAgainst_19 : decode cX2_reasonAgainst 19 = .ok (.getfield 21, 3) := by decide +kernel
theorem dX2_reasonAgainst_22 : decode cX2_reasonAgainst 22 = .ok (.invokevirtual 94, 3) := by decide +kernel
theorem dX2_reasonAgainst_25 : decode cX2_reasonAgainst 25 = .ok (.aload_n 0, 1) := by decide +kernel
theorem dX2_reasonAgainst_26 : decode cX2_reasonAgainst 26 = .ok (.getfield 79, 3) := by decide +kernel
theorem dX2_reasonAgainst_29 : decode cX2_reasonAgainst 29 = .ok (.iadd, 1) := by decide +kernel
theorem dX2_reasonAgainst_30 : decode cX2_reasonAgainst 30 = .ok (.bipush 60, 2) := by decide +kernel
theorem dX2_reasonAgainst_32 : decode cX2_reasonAgainst 32 = .ok (.if_icmp .le 7, 3) := by decide +kernel
theorem dX2_reasonAgainst_35 : decode cX2_reasonAgainst 35 = .ok (.iconst 3, 1) := by decide +kernel
theorem dX2_reasonAgainst_36 : decode cX2_reasonAgainst 36 = .ok (.goto 4, 3) := by decide +kernel
theorem dX2_reasonAgainst_39 : decode cX2_reasonAgainst 39 = .ok (.iconst 0, 1) := by decide +kernel
theorem dX2_reasonAgainst_40 : decode cX2_reasonAgainst 40 = .ok (.ireturn, 1) := by decide +kernel
theorem dX2_hasPlaces_0 : decode cX2_hasPlaces 0 = .ok (.aload_n 0, 1) := by decide +kernel
theorem dX2_hasPlaces_1 : decode cX2_hasPlaces 1 = .ok (.getfield 63, 3) := by decide +kernel
theorem dX2_hasPlaces_4 : decode cX2_hasPlaces 4 = .ok (.lookupswitch 106 #[(43, 36), (45, 51), (120, 72)], 36) := by decide +kernel
theorem dX2_hasPlaces_40 : decode cX2_hasPlaces 40 = .ok (.aload_n 0, 1) := by decide +kernel
theorem dX2_hasPlaces_41 : decode cX2_hasPlaces 41 = .ok (.getfield 69, 3) := by decide +kernel
theorem dX2_hasPlaces_44 : decode cX2_hasPlaces 44 = .ok (.aload_n 0, 1) := by decide +kernel
theorem dX2_hasPlaces_45 : decode cX2_hasPlaces 45 = .ok (.getfield 21, 3) := by decide +kernel
theorem dX2_hasPlaces_48 : decode cX2_hasPlaces 48 = .ok (.invokevirtual 94, 3) := by decide +kernel
theorem dX2_hasPlaces_51 : decode cX2_hasPlaces 51 = .ok (.invokestatic 97, 3) := by decide +kernel
theorem dX2_hasPlaces_54 : decode cX2_hasPlaces 54 = .ok (.ireturn, 1) := by decide +kernel
theorem dX2_hasPlaces_55 : decode cX2_hasPlaces 55 = .ok (.aload_n 0, 1) := by decide +kernel
theorem dX2_hasPlaces_56 : decode cX2_hasPlaces 56 = .ok (.getfield 21, 3) := by decide +kernel
theorem dX2_hasPlaces_59 : decode cX2_hasPlaces 59 = .ok (.aload_n 0, 1) := by decide +kernel
theorem dX2_hasPlaces_60 : decode cX2_hasPlaces 60 = .ok (.getfield 69, 3) := by decide +kernel
theorem dX2_hasPlaces_63 : decode cX2_hasPlaces 63 = .ok (.aload_n 0, 1) := by decide +kernel
theorem dX2_hasPlaces_64 : decode cX2_hasPlaces 64 = .ok (.getfield 69, 3) := by decide +kernel
theorem dX2_hasPlaces_67 : decode cX2_hasPlaces 67 = .ok (.aload_n 0, 1) := by decide +kernel
theorem dX2_hasPlaces_68 : decode cX2_hasPlaces 68 = .ok (.getfield 79, 3) := by decide +kernel
theorem dX2_hasPlaces_71 : decode cX2_hasPlaces 71 = .ok (.iadd, 1) := by decide +kernel
theorem dX2_hasPlaces_72 : decode cX2_hasPlaces 72 = .ok (.invokevirtual 101, 3) := by decide +kernel
theorem dX2_hasPlaces_75 : decode cX2_hasPlaces 75 = .ok (.ireturn, 1) := by decide +kernel
theorem dX2_hasPlaces_76 : decode cX2_hasPlaces 76 = .ok (.aload_n 0, 1) := by decide +kernel
theorem dX2_hasPlaces_77 : decode cX2_hasPlaces 77 = .ok (.getfield 21, 3) := by decide +kernel
theorem dX2_hasPlaces_80 : decode cX2_hasPlaces 80 = .ok (.aload_n 0, 1) := by decide +kernel
theorem dX2_hasPlaces_81 : decode cX2_hasPlaces 81 = .ok (.getfield 69, 3) := by decide +kernel
theorem dX2_hasPlaces_84 : decode cX2_hasPlaces 84 = .ok (.invokevirtual 104, 3) := by decide +kernel
theorem dX2_hasPlaces_87 : decode cX2_hasPlaces 87 = .ok (.ifCond .eq 21, 3) := by decide +kernel
theorem dX2_hasPlaces_90 : decode cX2_hasPlaces 90 = .ok (.aload_n 0, 1) := by decide +kernel
theorem dX2_hasPlaces_91 : decode cX2_hasPlaces 91 = .ok (.getfield 21, 3) := by decide +kernel
theorem dX2_hasPlaces_94 : decode cX2_hasPlaces 94 = .ok (.aload_n 0, 1) := by decide +kernel
theorem dX2_hasPlaces_95 : decode cX2_hasPlaces 95 = .ok (.getfield 79, 3) := by decide +kernel
theorem dX2_hasPlaces_98 : decode cX2_hasPlaces 98 = .ok (.invokevirtual 104, 3) := by decide +kernel
theorem dX2_hasPlaces_101 : decode cX2_hasPlaces 101 = .ok (.ifCond .eq 7, 3) := by decide +kernel
theorem dX2_hasPlaces_104 : decode cX2_hasPlaces 104 = .ok (.iconst 1, 1) := by decide +kernel
theorem dX2_hasPlaces_105 : decode cX2_hasPlaces 105 = .ok (.goto 4, 3) := by decide +kernel
theorem dX2_hasPlaces_108 : decode cX2_hasPlaces 108 = .ok (.iconst 0, 1) := by decide +kernel
theorem dX2_hasPlaces_109 : decode cX2_hasPlaces 109 = .ok (.ireturn, 1) := by decide +kernel
theorem dX2_hasPlaces_110 : decode cX2_hasPlaces 110 = .ok (.aload_n 0, 1) := by decide +kernel
theorem dX2_hasPlaces_111 : decode cX2_hasPlaces 111 = .ok (.getfield 21, 3) := by decide +kernel
theorem dX2_hasPlaces_114 : decode cX2_hasPlaces 114 = .ok (.aload_n 0, 1) := by decide +kernel
theorem dX2_hasPlaces_115 : decode cX2_hasPlaces 115 = .ok (.getfield 69, 3) := by decide +kernel
theorem dX2_hasPlaces_118 : decode cX2_hasPlaces 118 = .ok (.aload_n 0, 1) := by decide +kernel
theorem dX2_hasPlaces_119 : decode cX2_hasPlaces 119 = .ok (.getfield 79, 3) := by decide +kernel
theorem dX2_hasPlaces_122 : decode cX2_hasPlaces 122 = .ok (.invokevirtual 101, 3) := by decide +kernel
theorem dX2_hasPlaces_125 : decode cX2_hasPlaces 125 = .ok (.ireturn, 1) := by decide +kernel
theorem dX2_perform_0 : decode cX2_perform 0 = .ok (.aload_n 0, 1) := by decide +kernel
theorem dX2_perform_1 : decode cX2_perform 1 = .ok (.getfield 63, 3) := by decide +kernel
theorem dX2_perform_4 : decode cX2_perform 4 = .ok (.lookupswitch 68 #[(43, 36), (45, 43), (120, 50)], 36) := by decide +kernel
theorem dX2_perform_40 : decode cX2_perform 40 = .ok (.aload_n 0, 1) := by decide +kernel
theorem dX2_perform_41 : decode cX2_perform 41 = .ok (.invokevirtual 108, 3) := by decide +kernel
theorem dX2_perform_44 : decode cX2_perform 44 = .ok (.goto 44, 3) := by decide +kernel
theorem dX2_perform_47 : decode cX2_perform 47 = .ok (.aload_n 0, 1) := by decide +kernel
theorem dX2_perform_48 : decode cX2_perform 48 = .ok (.invokevirtual 111, 3) := by decide +kernel
theorem dX2_perform_51 : decode cX2_perform 51 = .ok (.goto 37, 3) := by decide +kernel
theorem dX2_perform_54 : decode cX2_perform 54 = .ok (.aload_n 0, 1) := by decide +kernel
theorem dX2_perform_55 : decode cX2_perform 55 = .ok (.getfield 21, 3) := by decide +kernel
theorem dX2_perform_58 : decode cX2_perform 58 = .ok (.aload_n 0, 1) := by decide +kernel
theorem dX2_perform_59 : decode cX2_perform 59 = .ok (.getfield 69, 3) := by decide +kernel
theorem dX2_perform_62 : decode cX2_perform 62 = .ok (.aload_n 0, 1) := by decide +kernel
theorem dX2_perform_63 : decode cX2_perform 63 = .ok (.getfield 79, 3) := by decide +kernel
theorem dX2_perform_66 : decode cX2_perform 66 = .ok (.invokevirtual 114, 3) := by decide +kernel
theorem dX2_perform_69 : decode cX2_perform 69 = .ok (.goto 19, 3) := by decide +kernel
theorem dX2_perform_72 : decode cX2_perform 72 = .ok (.aload_n 0, 1) := by decide +kernel
theorem dX2_perform_73 : decode cX2_perform 73 = .ok (.getfield 21, 3) := by decide +kernel
theorem dX2_perform_76 : decode cX2_perform 76 = .ok (.aload_n 0, 1) := by decide +kernel
theorem dX2_perform_77 : decode cX2_perform 77 = .ok (.getfield 69, 3) := by decide +kernel
theorem dX2_perform_80 : decode cX2_perform 80 = .ok (.aload_n 0, 1) := by decide +kernel
theorem dX2_perform_81 : decode cX2_perform 81 = .ok (.getfield 79, 3) := by decide +kernel
theorem dX2_perform_84 : decode cX2_perform 84 = .ok (.invokevirtual 118, 3) := by decide +kernel
theorem dX2_perform_87 : decode cX2_perform 87 = .ok (.pop, 1) := by decide +kernel
theorem dX2_perform_88 : decode cX2_perform 88 = .ok (.return_, 1) := by decide +kernel
theorem dX2_putSymbolsIn_0 : decode cX2_putSymbolsIn 0 = .ok (.iconst 0, 1) := by decide +kernel
theorem dX2_putSymbolsIn_1 : decode cX2_putSymbolsIn 1 = .ok (.istore_n 1, 1) := by decide +kernel
theorem dX2_putSymbolsIn_2 : decode cX2_putSymbolsIn 2 = .ok (.iload_n 1, 1) := by decide +kernel
theorem dX2_putSymbolsIn_3 : decode cX2_putSymbolsIn 3 = .ok (.aload_n 0, 1) := by decide +kernel
theorem dX2_putSymbolsIn_4 : decode cX2_putSymbolsIn 4 = .ok (.getfield 79, 3) := by decide +kernel
theorem dX2_putSymbolsIn_7 : decode cX2_putSymbolsIn 7 = .ok (.if_icmp .ge 35, 3) := by decide +kernel
theorem dX2_putSymbolsIn_10 : decode cX2_putSymbolsIn 10 = .ok (.aload_n 0, 1) := by decide +kernel
theorem dX2_putSymbolsIn_11 : decode cX2_putSymbolsIn 11 = .ok (.getfield 21, 3) := by decide +kernel
theorem dX2_putSymbolsIn_14 : decode cX2_putSymbolsIn 14 = .ok (.aload_n 0, 1) := by decide +kernel
theorem dX2_putSymbolsIn_15 : decode cX2_putSymbolsIn 15 = .ok (.getfield 69, 3) := by decide +kernel
theorem dX2_putSymbolsIn_18 : decode cX2_putSymbolsIn 18 = .ok (.iload_n 1, 1) := by decide +kernel
theorem dX2_putSymbolsIn_19 : decode cX2_putSymbolsIn 19 = .ok (.iadd, 1) := by decide +kernel
theorem dX2_putSymbolsIn_20 : decode cX2_putSymbolsIn 20 = .ok (.aload_n 0, 1) := by decide +kernel
theorem dX2_putSymbolsIn_21 : decode cX2_putSymbolsIn 21 = .ok (.getfield 12, 3) := by decide +kernel
theorem dX2_putSymbolsIn_24 : decode cX2_putSymbolsIn 24 = .ok (.aload_n 0, 1) := by decide +kernel
theorem dX2_putSymbolsIn_25 : decode cX2_putSymbolsIn 25 = .ok (.getfield 85, 3) := by decide +kernel
theorem dX2_putSymbolsIn_28 : decode cX2_putSymbolsIn 28 = .ok (.iload_n 1, 1) := by decide +kernel
theorem dX2_putSymbolsIn_29 : decode cX2_putSymbolsIn 29 = .ok (.iadd, 1) := by decide +kernel
theorem dX2_putSymbolsIn_30 : decode cX2_putSymbolsIn 30 = .ok (.invokevirtual 88, 3) := by decide +kernel
theorem dX2_putSymbolsIn_33 : decode cX2_putSymbolsIn 33 = .ok (.invokevirtual 122, 3) := by decide +kernel
theorem dX2_putSymbolsIn_36 : decode cX2_putSymbolsIn 36 = .ok (.iinc 1 1, 3) := by decide +kernel
theorem dX2_putSymbolsIn_39 : decode cX2_putSymbolsIn 39 = .ok (.goto (-37), 3) := by decide +kernel
theorem dX2_putSymbolsIn_42 : decode cX2_putSymbolsIn 42 = .ok (.return_, 1) := by decide +kernel
theorem dX2_takeSpanOut_0 : decode cX2_takeSpanOut 0 = .ok (.iconst 0, 1) := by decide +kernel
theorem dX2_takeSpanOut_1 : decode cX2_takeSpanOut 1 = .ok (.istore_n 1, 1) := by decide +kernel
theorem dX2_takeSpanOut_2 : decode cX2_takeSpanOut 2 = .ok (.iload_n 1, 1) := by decide +kernel
theorem dX2_takeSpanOut_3 : decode cX2_takeSpanOut 3 = .ok (.aload_n 0, 1) := by decide +kernel
theorem dX2_takeSpanOut_4 : decode cX2_takeSpanOut 4 = .ok (.getfield 79, 3) := by decide +kernel
theorem dX2_takeSpanOut_7 : decode cX2_takeSpanOut 7 = .ok (.if_icmp .ge 20, 3) := by decide +kernel
theorem dX2_takeSpanOut_10 : decode cX2_takeSpanOut 10 = .ok (.aload_n 0, 1) := by decide +kernel
theorem dX2_takeSpanOut_11 : decode cX2_takeSpanOut 11 = .ok (.getfield 21, 3) := by decide +kernel
theorem dX2_takeSpanOut_14 : decode cX2_takeSpanOut 14 = .ok (.aload_n 0, 1) := by decide +kernel
theorem dX2_takeSpanOut_15 : decode cX2_takeSpanOut 15 = .ok (.getfield 69, 3) := by decide +kernel
theorem dX2_takeSpanOut_18 : decode cX2_takeSpanOut 18 = .ok (.invokevirtual 125, 3) := by decide +kernel
theorem dX2_takeSpanOut_21 : decode cX2_takeSpanOut 21 = .ok (.iinc 1 1, 3) := by decide +kernel
theorem dX2_takeSpanOut_24 : decode cX2_takeSpanOut 24 = .ok (.goto (-22), 3) := by decide +kernel
theorem dX2_takeSpanOut_27 : decode cX2_takeSpanOut 27 = .ok (.return_, 1) := by decide +kernel
theorem dX3_init_0 : decode cX3_init 0 = .ok (.aload_n 0, 1) := by decide +kernel
theorem dX3_init_1 : decode cX3_init 1 = .ok (.invokespecial 3, 3) := by decide +kernel
theorem dX3_init_4 : decode cX3_init 4 = .ok (.aload_n 0, 1) := by decide +kernel
theorem dX3_init_5 : decode cX3_init 5 = .ok (.bipush 60, 2) := by decide +kernel
theorem dX3_init_7 : decode cX3_init 7 = .ok (.newarray .int, 2) := by decide +kernel
theorem dX3_init_9 : decode cX3_init 9 = .ok (.putfield 9, 3) := by decide +kernel
theorem dX3_init_12 : decode cX3_init 12 = .ok (.aload_n 0, 1) := by decide +kernel
theorem dX3_init_13 : decode cX3_init 13 = .ok (.iconst 0, 1) := by decide +kernel
theorem dX3_init_14 : decode cX3_init 14 = .ok (.putfield 15, 3) := by decide +kernel
theorem dX3_init_17 : decode cX3_init 17 = .ok (.return_, 1) := by decide +kernel
theorem dX3_size_0 : decode cX3_size 0 = .ok (.aload_n 0, 1) := by decide +kernel
theorem dX3_size_1 : decode cX3_size 1 = .ok (.getfield 15, 3) := by decide +kernel
theorem dX3_size_4 : decode cX3_size 4 = .ok (.ireturn, 1) := by decide +kernel
theorem dX3_hasPlace_0 : decode cX3_hasPlace 0 = .ok (.iload_n 1, 1) := by decide +kernel
theorem dX3_hasPlace_1 : decode cX3_hasPlace 1 = .ok (.ifCond .lt 15, 3) := by decide +kernel
theorem dX3_hasPlace_4 : decode cX3_hasPlace 4 = .ok (.iload_n 1, 1) := by decide +kernel
theorem dX3_hasPlace_5 : decode cX3_hasPlace 5 = .ok (.aload_n 0, 1) := by decide +kernel
theorem dX3_hasPlace_6 : decode cX3_hasPlace 6 = .ok (.getfield 15, 3) := by decide +kernel
theorem dX3_hasPlace_9 : decode cX3_hasPlace 9 = .ok (.if_icmp .ge 7, 3) := by decide +kernel
theorem dX3_hasPlace_12 : decode cX3_hasPlace 12 = .ok (.iconst 1, 1) := by decide +kernel
theorem dX3_hasPlace_13 : decode cX3_hasPlace 13 = .ok (.goto 4, 3) := by decide +kernel
theorem dX3_hasPlace_16 : decode cX3_hasPlace 16 = .ok (.iconst 0, 1) := by decide +kernel
theorem dX3_hasPlace_17 : decode cX3_hasPlace 17 = .ok (.ireturn, 1) := by decide +kernel
theorem dX3_hasSpan_0 : decode cX3_hasSpan 0 = .ok (.iload_n 1, 1) := by decide +kernel
theorem dX3_hasSpan_1 : decode cX3_hasSpan 1 = .ok (.ifCond .lt 20, 3) := by decide +kernel
theorem dX3_hasSpan_4 : decode cX3_hasSpan 4 = .ok (.iload_n 1, 1) := by decide +kernel
theorem dX3_hasSpan_5 : decode cX3_hasSpan 5 = .ok (.iload_n 2, 1) := by decide +kernel
theorem dX3_hasSpan_6 : decode cX3_hasSpan 6 = .ok (.if_icmp .gt 15, 3) := by decide +kernel
theorem dX3_hasSpan_9 : decode cX3_hasSpan 9 = .ok (.iload_n 2, 1) := by decide +kernel
theorem dX3_hasSpan_10 : decode cX3_hasSpan 10 = .ok (.aload_n 0, 1) := by decide +kernel
theorem dX3_hasSpan_11 : decode cX3_hasSpan 11 = .ok (.getfield 15, 3) := by decide +kernel
theorem dX3_hasSpan_14 : decode cX3_hasSpan 14 = .ok (.if_icmp .gt 7, 3) := by decide +kernel
theorem dX3_hasSpan_17 : decode cX3_hasSpan 17 = .ok (.iconst 1, 1) := by decide +kernel
theorem dX3_hasSpan_18 : decode cX3_hasSpan 18 = .ok (.goto 4, 3) := by decide +kernel
theorem dX3_hasSpan_21 : decode cX3_hasSpan 21 = .ok (.iconst 0, 1) := by decide +kernel
theorem dX3_hasSpan_22 : decode cX3_hasSpan 22 = .ok (.ireturn, 1) := by decide +kernel
theorem dX3_at_0 : decode cX3_at 0 = .ok (.aload_n 0, 1) := by decide +kernel
theorem dX3_at_1 : decode cX3_at 1 = .ok (.iload_n 1, 1) := by decide +kernel
theorem dX3_at_2 : decode cX3_at 2 = .ok (.invokevirtual 19, 3) := by decide +kernel
theorem dX3_at_5 : decode cX3_at 5 = .ok (.ifCond .eq 12, 3) := by decide +kernel
theorem dX3_at_8 : decode cX3_at 8 = .ok (.aload_n 0, 1) := by decide +kernel
theorem dX3_at_9 : decode cX3_at 9 = .ok (.getfield 9, 3) := by decide +kernel
theorem dX3_at_12 : decode cX3_at 12 = .ok (.iload_n 1, 1) := by decide +kernel
theorem dX3_at_13 : decode cX3_at 13 = .ok (.iaload, 1) := by decide +kernel
theorem dX3_at_14 : decode cX3_at 14 = .ok (.goto 4, 3) := by decide +kernel
theorem dX3_at_17 : decode cX3_at 17 = .ok (.iconst (-1), 1) := by decide +kernel
theorem dX3_at_18 : decode cX3_at 18 = .ok (.ireturn, 1) := by decide +kernel
theorem dX3_insert_0 : decode cX3_insert 0 = .ok (.iload_n 1, 1) := by decide +kernel
theorem dX3_insert_1 : decode cX3_insert 1 = .ok (.aload_n 0, 1) := by decide +kernel
theorem dX3_insert_2 : decode cX3_insert 2 = .ok (.getfield 15, 3) := by decide +kernel
theorem dX3_insert_5 : decode cX3_insert 5 = .ok (.invokestatic 23, 3) := by decide +kernel
theorem dX3_insert_8 : decode cX3_insert 8 = .ok (.ifCond .eq 12, 3) := by decide +kernel
theorem dX3_insert_11 : decode cX3_insert 11 = .ok (.aload_n 0, 1) := by decide +kernel
theorem dX3_insert_12 : decode cX3_insert 12 = .ok (.getfield 15, 3) := by decide +kernel
theorem dX3_insert_15 : decode cX3_insert 15 = .ok (.bipush 60, 2) := by decide +kernel
theorem dX3_insert_17 : decode cX3_insert 17 = .ok (.if_icmp .lt 4, 3) := by decide +kernel
theorem dX3_insert_20 : decode cX3_insert 20 = .ok (.return_, 1) := by decide +kernel
theorem dX3_insert_21 : decode cX3_insert 21 = .ok (.aload_n 0, 1) := by decide +kernel
theorem dX3_insert_22 : decode cX3_insert 22 = .ok (.getfield 15, 3) := by decide +kernel
theorem dX3_insert_25 : decode cX3_insert 25 = .ok (.istore_n 3, 1) := by decide +kernel
theorem dX3_insert_26 : decode cX3_insert 26 = .ok (.iload_n 3, 1) := by decide +kernel
theorem dX3_insert_27 : decode cX3_insert 27 = .ok (.iload_n 1, 1) := by decide +kernel
theorem dX3_insert_28 : decode cX3_insert 28 = .ok (.if_icmp .le 23, 3) := by decide +kernel
theorem dX3_insert_31 : decode cX3_insert 31 = .ok (.aload_n 0, 1) := by decide +kernel
theorem dX3_insert_32 : decode cX3_insert 32 = .ok (.getfield 9, 3) := by decide +kernel
theorem dX3_insert_35 : decode cX3_insert 35 = .ok (.iload_n 3, 1) := by decide +kernel
theorem dX3_insert_36 : decode cX3_insert 36 = .ok (.aload_n 0, 1) := by decide +kernel
theorem dX3_insert_37 : decode cX3_insert 37 = .ok (.getfield 9, 3) := by decide +kernel
theorem dX3_insert_40 : decode cX3_insert 40 = .ok (.iload_n 3, 1) := by decide +kernel
theorem dX3_insert_41 : decode cX3_insert 41 = .ok (.iconst 1, 1) := by decide +kernel
theorem dX3_insert_42 : decode cX3_insert 42 = .ok (.isub, 1) := by decide +kernel
theorem dX3_insert_43 : decode cX3_insert 43 = .ok (.iaload, 1) := by decide +kernel
theorem dX3_insert_44 : decode cX3_insert 44 = .ok (.iastore, 1) := by decide +kernel
theorem dX3_insert_45 : decode cX3_insert 45 = .ok (.iinc 3 (-1), 3) := by decide +kernel
theorem dX3_insert_48 : decode cX3_insert 48 = .ok (.goto (-22), 3) := by decide +kernel
theorem dX3_insert_51 : decode cX3_insert 51 = .ok (.aload_n 0, 1) := by decide +kernel
theorem dX3_insert_52 : decode cX3_insert 52 = .ok (.getfield 9, 3) := by decide +kernel
theorem dX3_insert_55 : decode cX3_insert 55 = .ok (.iload_n 1, 1) := by decide +kernel
theorem dX3_insert_56 : decode cX3_insert 56 = .ok (.iload_n 2, 1) := by decide +kernel
theorem dX3_insert_57 : decode cX3_insert 57 = .ok (.iastore, 1) := by decide +kernel
theorem dX3_insert_58 : decode cX3_insert 58 = .ok (.aload_n 0, 1) := by decide +kernel
theorem dX3_insert_59 : decode cX3_insert 59 = .ok (.dup, 1) := by decide +kernel
theorem dX3_insert_60 : decode cX3_insert 60 = .ok (.getfield 15, 3) := by decide +kernel
theorem dX3_insert_63 : decode cX3_insert 63 = .ok (.iconst 1, 1) := by decide +kernel
theorem dX3_insert_64 : decode cX3_insert 64 = .ok (.iadd, 1) := by decide +kernel
theorem dX3_insert_65 : decode cX3_insert 65 = .ok (.putfield 15, 3) := by decide +kernel
theorem dX3_insert_68 : decode cX3_insert 68 = .ok (.return_, 1) := by decide +kernel
theorem dX3_remove_0 : decode cX3_remove 0 = .ok (.aload_n 0, 1) := by decide +kernel
theorem dX3_remove_1 : decode cX3_remove 1 = .ok (.iload_n 1, 1) := by decide +kernel
theorem dX3_remove_2 : decode cX3_remove 2 = .ok (.invokevirtual 19, 3) := by decide +kernel
theorem dX3_remove_5 : decode cX3_remove 5 = .ok (.ifCond .ne 4, 3) := by decide +kernel
theorem dX3_remove_8 : decode cX3_remove 8 = .ok (.return_, 1) := by decide +kernel
theorem dX3_remove_9 : decode cX3_remove 9 = .ok (.iload_n 1, 1) := by decide +kernel
theorem dX3_remove_10 : decode cX3_remove 10 = .ok (.iconst 1, 1) := by decide +kernel
theorem dX3_remove_11 : decode cX3_remove 11 = .ok (.iadd, 1) := by decide +kernel
theorem dX3_remove_12 : decode cX3_remove 12 = .ok (.istore_n 2, 1) := by decide +kernel
theorem dX3_remove_13 : decode cX3_remove 13 = .ok (.iload_n 2, 1) := by decide +kernel
theorem dX3_remove_14 : decode cX3_remove 14 = .ok (.aload_n 0, 1) := by decide +kernel
theorem dX3_remove_15 : decode cX3_remove 15 = .ok (.getfield 15, 3) := by decide +kernel
theorem dX3_remove_18 : decode cX3_remove 18 = .ok (.if_icmp .ge 23, 3) := by decide +kernel
theorem dX3_remove_21 : decode cX3_remove 21 = .ok (.aload_n 0, 1) := by decide +kernel
theorem dX3_remove_22 : decode cX3_remove 22 = .ok (.getfield 9, 3) := by decide +kernel
theorem dX3_remove_25 : decode cX3_remove 25 = .ok (.iload_n 2, 1) := by decide +kernel
theorem dX3_remove_26 : decode cX3_remove 26 = .ok (.iconst 1, 1) := by decide +kernel
theorem dX3_remove_27 : decode cX3_remove 27 = .ok (.isub, 1) := by decide +kernel
theorem dX3_remove_28 : decode cX3_remove 28 = .ok (.aload_n 0, 1) := by decide +kernel
theorem dX3_remove_29 : decode cX3_remove 29 = .ok (.getfield 9, 3) := by decide +kernel
theorem dX3_remove_32 : decode cX3_remove 32 = .ok (.iload_n 2, 1) := by decide +kernel
theorem dX3_remove_33 : decode cX3_remove 33 = .ok (.iaload, 1) := by decide +kernel
theorem dX3_remove_34 : decode cX3_remove 34 = .ok (.iastore, 1) := by decide +kernel
theorem dX3_remove_35 : decode cX3_remove 35 = .ok (.iinc 2 1, 3) := by decide +kernel
theorem dX3_remove_38 : decode cX3_remove 38 = .ok (.goto (-25), 3) := by decide +kernel
theorem dX3_remove_41 : decode cX3_remove 41 = .ok (.aload_n 0, 1) := by decide +kernel
theorem dX3_remove_42 : decode cX3_remove 42 = .ok (.dup, 1) := by decide +kernel
theorem dX3_remove_43 : decode cX3_remove 43 = .ok (.getfield 15, 3) := by decide +kernel
theorem dX3_remove_46 : decode cX3_remove 46 = .ok (.iconst 1, 1) := by decide +kernel
theorem dX3_remove_47 : decode cX3_remove 47 = .ok (.isub, 1) := by decide +kernel
theorem dX3_remove_48 : decode cX3_remove 48 = .ok (.putfield 15, 3) := by decide +kernel
theorem dX3_remove_51 : decode cX3_remove 51 = .ok (.return_, 1) := by decide +kernel
theorem dX3_replace_0 : decode cX3_replace 0 = .ok (.aload_n 0, 1) := by decide +kernel
theorem dX3_replace_1 : decode cX3_replace 1 = .ok (.iload_n 1, 1) := by decide +kernel
theorem dX3_replace_2 : decode cX3_replace 2 = .ok (.invokevirtual 19, 3) := by decide +kernel
theorem dX3_replace_5 : decode cX3_replace 5 = .ok (.ifCond .eq 10, 3) := by decide +kernel
theorem dX3_replace_8 : decode cX3_replace 8 = .ok (.aload_n 0, 1) := by decide +kernel
theorem dX3_replace_9 : decode cX3_replace 9 = .ok (.getfield 9, 3) := by decide +kernel
theorem dX3_replace_12 : decode cX3_replace 12 = .ok (.iload_n 1, 1) := by decide +kernel
theorem dX3_replace_13 : decode cX3_replace 13 = .ok (.iload_n 2, 1) := by decide +kernel
theorem dX3_replace_14 : decode cX3_replace 14 = .ok (.iastore, 1) := by decide +kernel
theorem dX3_replace_15 : decode cX3_replace 15 = .ok (.return_, 1) := by decide +kernel
theorem dX3_exchange_0 : decode cX3_exchange 0 = .ok (.aload_n 0, 1) := by decide +kernel
theorem dX3_exchange_1 : decode cX3_exchange 1 = .ok (.iload_n 1, 1) := by decide +kernel
theorem dX3_exchange_2 : decode cX3_exchange 2 = .ok (.invokevirtual 27, 3) := by decide +kernel
theorem dX3_exchange_5 : decode cX3_exchange 5 = .ok (.istore_n 3, 1) := by decide +kernel
theorem dX3_exchange_6 : decode cX3_exchange 6 = .ok (.aload_n 0, 1) := by decide +kernel
theorem dX3_exchange_7 : decode cX3_exchange 7 = .ok (.iload_n 1, 1) := by decide +kernel
theorem dX3_exchange_8 : decode cX3_exchange 8 = .ok (.invokevirtual 19, 3) := by decide +kernel
theorem dX3_exchange_11 : decode cX3_exchange 11 = .ok (.ifCond .eq 30, 3) := by decide +kernel
theorem dX3_exchange_14 : decode cX3_exchange 14 = .ok (.aload_n 0, 1) := by decide +kernel
theorem dX3_exchange_15 : decode cX3_exchange 15 = .ok (.iload_n 2, 1) := by decide +kernel
theorem dX3_exchange_16 : decode cX3_exchange 16 = .ok (.invokevirtual 19, 3) := by decide +kernel
theorem dX3_exchange_19 : decode cX3_exchange 19 = .ok (.ifCond .eq 22, 3) := by decide +kernel
theorem dX3_exchange_22 : decode cX3_exchange 22 = .ok (.aload_n 0, 1) := by decide +kernel
theorem dX3_exchange_23 : decode cX3_exchange 23 = .ok (.getfield 9, 3) := by decide +kernel
theorem dX3_exchange_26 : decode cX3_exchange 26 = .ok (.iload_n 1, 1) := by decide +kernel
theorem dX3_exchange_27 : decode cX3_exchange 27 = .ok (.aload_n 0, 1) := by decide +kernel
theorem dX3_exchange_28 : decode cX3_exchange 28 = .ok (.getfield 9, 3) := by decide +kernel
theorem dX3_exchange_31 : decode cX3_exchange 31 = .ok (.iload_n 2, 1) := by decide +kernel
theorem dX3_exchange_32 : decode cX3_exchange 32 = .ok (.iaload, 1) := by decide +kernel
theorem dX3_exchange_33 : decode cX3_exchange 33 = .ok (.iastore, 1) := by decide +kernel
theorem dX3_exchange_34 : decode cX3_exchange 34 = .ok (.aload_n 0, 1) := by decide +kernel
theorem dX3_exchange_35 : decode cX3_exchange 35 = .ok (.getfield 9, 3) := by decide +kernel
theorem dX3_exchange_38 : decode cX3_exchange 38 = .ok (.iload_n 2, 1) := by decide +kernel
theorem dX3_exchange_39 : decode cX3_exchange 39 = .ok (.iload_n 3, 1) := by decide +kernel
theorem dX3_exchange_40 : decode cX3_exchange 40 = .ok (.iastore, 1) := by decide +kernel
theorem dX3_exchange_41 : decode cX3_exchange 41 = .ok (.return_, 1) := by decide +kernel
theorem dX3_reverse_0 : decode cX3_reverse 0 = .ok (.iconst 0, 1) := by decide +kernel
theorem dX3_reverse_1 : decode cX3_reverse 1 = .ok (.istore_n 3, 1) := by decide +kernel
theorem dX3_reverse_2 : decode cX3_reverse 2 = .ok (.iload_n 2, 1) := by decide +kernel
theorem dX3_reverse_3 : decode cX3_reverse 3 = .ok (.iconst 1, 1) := by decide +kernel
theorem dX3_reverse_4 : decode cX3_reverse 4 = .ok (.isub, 1) := by decide +kernel
theorem dX3_reverse_5 : decode cX3_reverse 5 = .ok (.istore 4, 2) := by decide +kernel
theorem dX3_reverse_7 : decode cX3_reverse 7 = .ok (.iload_n 1, 1) := by decide +kernel
theorem dX3_reverse_8 : decode cX3_reverse 8 = .ok (.istore 5, 2) := by decide +kernel
theorem dX3_reverse_10 : decode cX3_reverse 10 = .ok (.iload 5, 2) := by decide +kernel
theorem dX3_reverse_12 : decode cX3_reverse 12 = .ok (.iload 4, 2) := by decide +kernel
theorem dX3_reverse_14 : decode cX3_reverse 14 = .ok (.if_icmp .ge 38, 3) := by decide +kernel
theorem dX3_reverse_17 : decode cX3_reverse 17 = .ok (.aload_n 0, 1) := by decide +kernel
theorem dX3_reverse_18 : decode cX3_reverse 18 = .ok (.iload 5, 2) := by decide +kernel
theorem dX3_reverse_20 : decode cX3_reverse 20 = .ok (.invokevirtual 27, 3) := by decide +kernel
theorem dX3_reverse_23 : decode cX3_reverse 23 = .ok (.aload_n 0, 1) := by decide +kernel
theorem dX3_reverse_24 : decode cX3_reverse 24 = .ok (.iload 4, 2) := by decide +kernel
theorem dX3_reverse_26 : decode cX3_reverse 26 = .ok (.invokevirtual 27, 3) := by decide +kernel
theorem dX3_reverse_29 : decode cX3_reverse 29 = .ok (.if_icmp .eq 6, 3) := by decide +kernel
theorem dX3_reverse_32 : decode cX3_reverse 32 = .ok (.iinc 3 2, 3) := by decide +kernel
theorem dX3_reverse_35 : decode cX3_reverse 35 = .ok (.aload_n 0, 1) := by decide +kernel
theorem dX3_reverse_36 : decode cX3_reverse 36 = .ok (.iload 5, 2) := by decide +kernel
theorem dX3_reverse_38 : decode cX3_reverse 38 = .ok (.iload 4, 2) := by decide +kernel
theorem dX3_reverse_40 : decode cX3_reverse 40 = .ok (.invokevirtual 31, 3) := by decide +kernel
theorem dX3_reverse_43 : decode cX3_reverse 43 = .ok (.iinc 4 (-1), 3) := by decide +kernel
theorem dX3_reverse_46 : decode cX3_reverse 46 = .ok (.iinc 5 1, 3) := by decide +kernel
theorem dX3_reverse_49 : decode cX3_reverse 49 = .ok (.goto (-39), 3) := by decide +kernel
theorem dX3_reverse_52 : decode cX3_reverse 52 = .ok (.iload_n 3, 1) := by decide +kernel
theorem dX3_reverse_53 : decode cX3_reverse 53 = .ok (.ireturn, 1) := by decide +kernel
theorem dX3_layOut_0 : decode cX3_layOut 0 = .ok (.iconst 0, 1) := by decide +kernel
theorem dX3_layOut_1 : decode cX3_layOut 1 = .ok (.istore 4, 2) := by decide +kernel
theorem dX3_layOut_3 : decode cX3_layOut 3 = .ok (.iload_n 1, 1) := by decide +kernel
theorem dX3_layOut_4 : decode cX3_layOut 4 = .ok (.istore 5, 2) := by decide +kernel
theorem dX3_layOut_6 : decode cX3_layOut 6 = .ok (.iload 5, 2) := by decide +kernel
theorem dX3_layOut_8 : decode cX3_layOut 8 = .ok (.iload_n 2, 1) := by decide +kernel
theorem dX3_layOut_9 : decode cX3_layOut 9 = .ok (.if_icmp .ge 41, 3) := by decide +kernel
theorem dX3_layOut_12 : decode cX3_layOut 12 = .ok (.aload_n 3, 1) := by decide +kernel
theorem dX3_layOut_13 : decode cX3_layOut 13 = .ok (.iload 5, 2) := by decide +kernel
theorem dX3_layOut_15 : decode cX3_layOut 15 = .ok (.iload_n 1, 1) := by decide +kernel
theorem dX3_layOut_16 : decode cX3_layOut 16 = .ok (.isub, 1) := by decide +kernel
theorem dX3_layOut_17 : decode cX3_layOut 17 = .ok (.invokevirtual 35, 3) := by decide +kernel
theorem dX3_layOut_20 : decode cX3_layOut 20 = .ok (.istore 6, 2) := by decide +kernel
theorem dX3_layOut_22 : decode cX3_layOut 22 = .ok (.iload 6, 2) := by decide +kernel
theorem dX3_layOut_24 : decode cX3_layOut 24 = .ok (.aload_n 0, 1) := by decide +kernel
theorem dX3_layOut_25 : decode cX3_layOut 25 = .ok (.iload 5, 2) := by decide +kernel
theorem dX3_layOut_27 : decode cX3_layOut 27 = .ok (.invokevirtual 27, 3) := by decide +kernel
theorem dX3_layOut_30 : decode cX3_layOut 30 = .ok (.if_icmp .eq 6, 3) := by decide +kernel
theorem dX3_layOut_33 : decode cX3_layOut 33 = .ok (.iinc 4 1, 3) := by decide +kernel
theorem dX3_layOut_36 : decode cX3_layOut 36 = .ok (.aload_n 0, 1) := by decide +kernel
theorem dX3_layOut_37 : decode cX3_layOut 37 = .ok (.iload 5, 2) := by decide +kernel
theorem dX3_layOut_39 : decode cX3_layOut 39 = .ok (.iload 6, 2) := by decide +kernel
theorem dX3_layOut_41 : decode cX3_layOut 41 = .ok (.invokevirtual 40, 3) := by decide +kernel
theorem dX3_layOut_44 : decode cX3_layOut 44 = .ok (.iinc 5 1, 3) := by decide +kernel
theorem dX3_layOut_47 : decode cX3_layOut 47 = .ok (.goto (-41), 3) := by decide +kernel
theorem dX3_layOut_50 : decode cX3_layOut 50 = .ok (.iload 4, 2) := by decide +kernel
theorem dX3_layOut_52 : decode cX3_layOut 52 = .ok (.ireturn, 1) := by decide +kernel
theorem dX3_sum_0 : decode cX3_sum 0 = .ok (.iconst 0, 1) := by decide +kernel
theorem dX3_sum_1 : decode cX3_sum 1 = .ok (.istore_n 3, 1) := by decide +kernel
theorem dX3_sum_2 : decode cX3_sum 2 = .ok (.iload_n 1, 1) := by decide +kernel
theorem dX3_sum_3 : decode cX3_sum 3 = .ok (.istore 4, 2) := by decide +kernel
theorem dX3_sum_5 : decode cX3_sum 5 = .ok (.iload 4, 2) := by decide +kernel
theorem dX3_sum_7 : decode cX3_sum 7 = .ok (.iload_n 2, 1) := by decide +kernel
theorem dX3_sum_8 : decode cX3_sum 8 = .ok (.if_icmp .ge 18, 3) := by decide +kernel
theorem dX3_sum_11 : decode cX3_sum 11 = .ok (.iload_n 3, 1) := by decide +kernel
theorem dX3_sum_12 : decode cX3_sum 12 = .ok (.aload_n 0, 1) := by decide +kernel
theorem dX3_sum_13 : decode cX3_sum 13 = .ok (.iload 4, 2) := by decide +kernel
theorem dX3_sum_15 : decode cX3_sum 15 = .ok (.invokevirtual 27, 3) := by decide +kernel
theorem dX3_sum_18 : decode cX3_sum 18 = .ok (.iadd, 1) := by decide +kernel
theorem dX3_sum_19 : decode cX3_sum 19 = .ok (.istore_n 3, 1) := by decide +kernel
theorem dX3_sum_20 : decode cX3_sum 20 = .ok (.iinc 4 1, 3) := by decide +kernel
theorem dX3_sum_23 : decode cX3_sum 23 = .ok (.goto (-18), 3) := by decide +kernel
theorem dX3_sum_26 : decode cX3_sum 26 = .ok (.iload_n 3, 1) := by decide +kernel
theorem dX3_sum_27 : decode cX3_sum 27 = .ok (.ireturn, 1) := by decide +kernel
theorem dX3_wrongPairs_0 : decode cX3_wrongPairs 0 = .ok (.iconst 0, 1) := by decide +kernel
theorem dX3_wrongPairs_1 : decode cX3_wrongPairs 1 = .ok (.istore_n 3, 1) := by decide +kernel
theorem dX3_wrongPairs_2 : decode cX3_wrongPairs 2 = .ok (.iload_n 1, 1) := by decide +kernel
theorem dX3_wrongPairs_3 : decode cX3_wrongPairs 3 = .ok (.istore 4, 2) := by decide +kernel
theorem dX3_wrongPairs_5 : decode cX3_wrongPairs 5 = .ok (.iload 4, 2) := by decide +kernel
theorem dX3_wrongPairs_7 : decode cX3_wrongPairs 7 = .ok (.iload_n 2, 1) := by decide +kernel
theorem dX3_wrongPairs_8 : decode cX3_wrongPairs 8 = .ok (.if_icmp .ge 45, 3) := by decide +kernel
theorem dX3_wrongPairs_11 : decode cX3_wrongPairs 11 = .ok (.iload 4, 2) := by decide +kernel
theorem dX3_wrongPairs_13 : decode cX3_wrongPairs 13 = .ok (.iconst 1, 1) := by decide +kernel
theorem dX3_wrongPairs_14 : decode cX3_wrongPairs 14 = .ok (.iadd, 1) := by decide +kernel
theorem dX3_wrongPairs_15 : decode cX3_wrongPairs 15 = .ok (.istore 5, 2) := by decide +kernel
theorem dX3_wrongPairs_17 : decode cX3_wrongPairs 17 = .ok (.iload 5, 2) := by decide +kernel
theorem dX3_wrongPairs_19 : decode cX3_wrongPairs 19 = .ok (.iload_n 2, 1) := by decide +kernel
theorem dX3_wrongPairs_20 : decode cX3_wrongPairs 20 = .ok (.if_icmp .ge 27, 3) := by decide +kernel
theorem dX3_wrongPairs_23 : decode cX3_wrongPairs 23 = .ok (.aload_n 0, 1) := by decide +kernel
theorem dX3_wrongPairs_24 : decode cX3_wrongPairs 24 = .ok (.iload 4, 2) := by decide +kernel
theorem dX3_wrongPairs_26 : decode cX3_wrongPairs 26 = .ok (.invokevirtual 27, 3) := by decide +kernel
theorem dX3_wrongPairs_29 : decode cX3_wrongPairs 29 = .ok (.aload_n 0, 1) := by decide +kernel
theorem dX3_wrongPairs_30 : decode cX3_wrongPairs 30 = .ok (.iload 5, 2) := by decide +kernel
theorem dX3_wrongPairs_32 : decode cX3_wrongPairs 32 = .ok (.invokevirtual 27, 3) := by decide +kernel
theorem dX3_wrongPairs_35 : decode cX3_wrongPairs 35 = .ok (.if_icmp .le 6, 3) := by decide +kernel
theorem dX3_wrongPairs_38 : decode cX3_wrongPairs 38 = .ok (.iinc 3 1, 3) := by decide +kernel
theorem dX3_wrongPairs_41 : decode cX3_wrongPairs 41 = .ok (.iinc 5 1, 3) := by decide +kernel
theorem dX3_wrongPairs_44 : decode cX3_wrongPairs 44 = .ok (.goto (-27), 3) := by decide +kernel
theorem dX3_wrongPairs_47 : decode cX3_wrongPairs 47 = .ok (.iinc 4 1, 3) := by decide +kernel
theorem dX3_wrongPairs_50 : decode cX3_wrongPairs 50 = .ok (.goto (-45), 3) := by decide +kernel
theorem dX3_wrongPairs_53 : decode cX3_wrongPairs 53 = .ok (.iload_n 3, 1) := by decide +kernel
theorem dX3_wrongPairs_54 : decode cX3_wrongPairs 54 = .ok (.ireturn, 1) := by decide +kernel
theorem dX3_ones_0 : decode cX3_ones 0 = .ok (.iconst 0, 1) := by decide +kernel
theorem dX3_ones_1 : decode cX3_ones 1 = .ok (.istore_n 1, 1) := by decide +kernel
theorem dX3_ones_2 : decode cX3_ones 2 = .ok (.iconst 0, 1) := by decide +kernel
theorem dX3_ones_3 : decode cX3_ones 3 = .ok (.istore_n 2, 1) := by decide +kernel
theorem dX3_ones_4 : decode cX3_ones 4 = .ok (.iload_n 2, 1) := by decide +kernel
theorem dX3_ones_5 : decode cX3_ones 5 = .ok (.aload_n 0, 1) := by decide +kernel
theorem dX3_ones_6 : decode cX3_ones 6 = .ok (.getfield 15, 3) := by decide +kernel
theorem dX3_ones_9 : decode cX3_ones 9 = .ok (.if_icmp .ge 20, 3) := by decide +kernel
theorem dX3_ones_12 : decode cX3_ones 12 = .ok (.iload_n 1, 1) := by decide +kernel
theorem dX3_ones_13 : decode cX3_ones 13 = .ok (.aload_n 0, 1) := by decide +kernel
theorem dX3_ones_14 : decode cX3_ones 14 = .ok (.iload_n 2, 1) := by decide +kernel
theorem dX3_ones_15 : decode cX3_ones 15 = .ok (.invokevirtual 27, 3) := by decide +kernel
theorem dX3_ones_18 : decode cX3_ones 18 = .ok (.invokestatic 43, 3) := by decide +kernel
theorem dX3_ones_21 : decode cX3_ones 21 = .ok (.iadd, 1) := by decide +kernel
theorem dX3_ones_22 : decode cX3_ones 22 = .ok (.istore_n 1, 1) := by decide +kernel
theorem dX3_ones_23 : decode cX3_ones 23 = .ok (.iinc 2 1, 3) := by decide +kernel
theorem dX3_ones_26 : decode cX3_ones 26 = .ok (.goto (-22), 3) := by decide +kernel
theorem dX3_ones_29 : decode cX3_ones 29 = .ok (.iload_n 1, 1) := by decide +kernel
theorem dX3_ones_30 : decode cX3_ones 30 = .ok (.ireturn, 1) := by decide +kernel
theorem dX3_copyFrom_0 : decode cX3_copyFrom 0 = .ok (.aload_n 0, 1) := by decide +kernel
theorem dX3_copyFrom_1 : decode cX3_copyFrom 1 = .ok (.aload_n 1, 1) := by decide +kernel
theorem dX3_copyFrom_2 : decode cX3_copyFrom 2 = .ok (.getfield 15, 3) := by decide +kernel
theorem dX3_copyFrom_5 : decode cX3_copyFrom 5 = .ok (.putfield 15, 3) := by decide +kernel
theorem dX3_copyFrom_8 : decode cX3_copyFrom 8 = .ok (.iconst 0, 1) := by decide +kernel
theorem dX3_copyFrom_9 : decode cX3_copyFrom 9 = .ok (.istore_n 2, 1) := by decide +kernel
theorem dX3_copyFrom_10 : decode cX3_copyFrom 10 = .ok (.iload_n 2, 1) := by decide +kernel
theorem dX3_copyFrom_11 : decode cX3_copyFrom 11 = .ok (.aload_n 0, 1) := by decide +kernel
theorem dX3_copyFrom_12 : decode cX3_copyFrom 12 = .ok (.getfield 15, 3) := by decide +kernel
theorem dX3_copyFrom_15 : decode cX3_copyFrom 15 = .ok (.if_icmp .ge 21, 3) := by decide +kernel
theorem dX3_copyFrom_18 : decode cX3_copyFrom 18 = .ok (.aload_n 0, 1) := by decide +kernel
theorem dX3_copyFrom_19 : decode cX3_copyFrom 19 = .ok (.getfield 9, 3) := by decide +kernel
theorem dX3_copyFrom_22 : decode cX3_copyFrom 22 = .ok (.iload_n 2, 1) := by decide +kernel
theorem dX3_copyFrom_23 : decode cX3_copyFrom 23 = .ok (.aload_n 1, 1) := by decide +kernel
theorem dX3_copyFrom_24 : decode cX3_copyFrom 24 = .ok (.getfield 9, 3) := by decide +kernel
theorem dX3_copyFrom_27 : decode cX3_copyFrom 27 = .ok (.iload_n 2, 1) := by decide +kernel
theorem dX3_copyFrom_28 : decode cX3_copyFrom 28 = .ok (.iaload, 1) := by decide +kernel
theorem dX3_copyFrom_29 : decode cX3_copyFrom 29 = .ok (.iastore, 1) := by decide +kernel
theorem dX3_copyFrom_30 : decode cX3_copyFrom 30 = .ok (.iinc 2 1, 3) := by decide +kernel
theorem dX3_copyFrom_33 : decode cX3_copyFrom 33 = .ok (.goto (-23), 3) := by decide +kernel
theorem dX3_copyFrom_36 : decode cX3_copyFrom 36 = .ok (.return_, 1) := by decide +kernel
theorem dX4_init_0 : decode cX4_init 0 = .ok (.aload_n 0, 1) := by decide +kernel
theorem dX4_init_1 : decode cX4_init 1 = .ok (.invokespecial 3, 3) := by decide +kernel
theorem dX4_init_4 : decode cX4_init 4 = .ok (.aload_n 0, 1) := by decide +kernel
theorem dX4_init_5 : decode cX4_init 5 = .ok (.bipush 16, 2) := by decide +kernel
theorem dX4_init_7 : decode cX4_init 7 = .ok (.newarray .int, 2) := by decide +kernel
theorem dX4_init_9 : decode cX4_init 9 = .ok (.putfield 9, 3) := by decide +kernel
theorem dX4_init_12 : decode cX4_init 12 = .ok (.return_, 1) := by decide +kernel
theorem dX4_fill_0 : decode cX4_fill 0 = .ok (.iconst 0, 1) := by decide +kernel
theorem dX4_fill_1 : decode cX4_fill 1 = .ok (.istore 4, 2) := by decide +kernel
theorem dX4_fill_3 : decode cX4_fill 3 = .ok (.iload 4, 2) := by decide +kernel
theorem dX4_fill_5 : decode cX4_fill 5 = .ok (.bipush 16, 2) := by decide +kernel
theorem dX4_fill_7 : decode cX4_fill 7 = .ok (.if_icmp .ge 17, 3) := by decide +kernel
theorem dX4_fill_10 : decode cX4_fill 10 = .ok (.aload_n 0, 1) := by decide +kernel
theorem dX4_fill_11 : decode cX4_fill 11 = .ok (.getfield 9, 3) := by decide +kernel
theorem dX4_fill_14 : decode cX4_fill 14 = .ok (.iload 4, 2) := by decide +kernel
theorem dX4_fill_16 : decode cX4_fill 16 = .ok (.iconst 0, 1) := by decide +kernel
theorem dX4_fill_17 : decode cX4_fill 17 = .ok (.iastore, 1) := by decide +kernel
theorem dX4_fill_18 : decode cX4_fill 18 = .ok (.iinc 4 1, 3) := by decide +kernel
theorem dX4_fill_21 : decode cX4_fill 21 = .ok (.goto (-18), 3) := by decide +kernel
theorem dX4_fill_24 : decode cX4_fill 24 = .ok (.iload_n 2, 1) := by decide +kernel
theorem dX4_fill_25 : decode cX4_fill 25 = .ok (.istore 4, 2) := by decide +kernel
theorem dX4_fill_27 : decode cX4_fill 27 = .ok (.iload 4, 2) := by decide +kernel
theorem dX4_fill_29 : decode cX4_fill 29 = .ok (.iload_n 3, 1) := by decide +kernel
theorem dX4_fill_30 : decode cX4_fill 30 = .ok (.if_icmp .ge 36, 3) := by decide +kernel
theorem dX4_fill_33 : decode cX4_fill 33 = .ok (.aload_n 1, 1) := by decide +kernel
theorem dX4_fill_34 : decode cX4_fill 34 = .ok (.iload 4, 2) := by decide +kernel
theorem dX4_fill_36 : decode cX4_fill 36 = .ok (.invokevirtual 15, 3) := by decide +kernel
theorem dX4_fill_39 : decode cX4_fill 39 = .ok (.istore 5, 2) := by decide +kernel
theorem dX4_fill_41 : decode cX4_fill 41 = .ok (.iload 5, 2) := by decide +kernel
theorem dX4_fill_43 : decode cX4_fill 43 = .ok (.invokestatic 21, 3) := by decide +kernel
theorem dX4_fill_46 : decode cX4_fill 46 = .ok (.ifCond .eq 14, 3) := by decide +kernel
theorem dX4_fill_49 : decode cX4_fill 49 = .ok (.aload_n 0, 1) := by decide +kernel
theorem dX4_fill_50 : decode cX4_fill 50 = .ok (.getfield 9, 3) := by decide +kernel
theorem dX4_fill_53 : decode cX4_fill 53 = .ok (.iload 5, 2) := by decide +kernel
theorem dX4_fill_55 : decode cX4_fill 55 = .ok (.dup2, 1) := by decide +kernel
theorem dX4_fill_56 : decode cX4_fill 56 = .ok (.iaload, 1) := by decide +kernel
theorem dX4_fill_57 : decode cX4_fill 57 = .ok (.iconst 1, 1) := by decide +kernel
theorem dX4_fill_58 : decode cX4_fill 58 = .ok (.iadd, 1) := by decide +kernel
theorem dX4_fill_59 : decode cX4_fill 59 = .ok (.iastore, 1) := by decide +kernel
theorem dX4_fill_60 : decode cX4_fill 60 = .ok (.iinc 4 1, 3) := by decide +kernel
theorem dX4_fill_63 : decode cX4_fill 63 = .ok (.goto (-36), 3) := by decide +kernel
theorem dX4_fill_66 : decode cX4_fill 66 = .ok (.return_, 1) := by decide +kernel
theorem dX4_times_0 : decode cX4_times 0 = .ok (.iload_n 1, 1) := by decide +kernel
theorem dX4_times_1 : decode cX4_times 1 = .ok (.invokestatic 21, 3) := by decide +kernel
theorem dX4_times_4 : decode cX4_times 4 = .ok (.ifCond .eq 12, 3) := by decide +kernel
theorem dX4_times_7 : decode cX4_times 7 = .ok (.aload_n 0, 1) := by decide +kernel
theorem dX4_times_8 : decode cX4_times 8 = .ok (.getfield 9, 3) := by decide +kernel
theorem dX4_times_11 : decode cX4_times 11 = .ok (.iload_n 1, 1) := by decide +kernel
theorem dX4_times_12 : decode cX4_times 12 = .ok (.iaload, 1) := by decide +kernel
theorem dX4_times_13 : decode cX4_times 13 = .ok (.goto 4, 3) := by decide +kernel
theorem dX4_times_16 : decode cX4_times 16 = .ok (.iconst 0, 1) := by decide +kernel
theorem dX4_times_17 : decode cX4_times 17 = .ok (.ireturn, 1) := by decide +kernel
theorem dX4_timesBelow_0 : decode cX4_timesBelow 0 = .ok (.iconst 0, 1) := by decide +kernel
theorem dX4_timesBelow_1 : decode cX4_timesBelow 1 = .ok (.istore_n 2, 1) := by decide +kernel
theorem dX4_timesBelow_2 : decode cX4_timesBelow 2 = .ok (.iconst 0, 1) := by decide +kernel
theorem dX4_timesBelow_3 : decode cX4_timesBelow 3 = .ok (.istore_n 3, 1) := by decide +kernel
theorem dX4_timesBelow_4 : decode cX4_timesBelow 4 = .ok (.iload_n 3, 1) := by decide +kernel
theorem dX4_timesBelow_5 : decode cX4_timesBelow 5 = .ok (.iload_n 1, 1) := by decide +kernel
theorem dX4_timesBelow_6 : decode cX4_timesBelow 6 = .ok (.if_icmp .ge 24, 3) := by decide +kernel
theorem dX4_timesBelow_9 : decode cX4_timesBelow 9 = .ok (.iload_n 3, 1) := by decide +kernel
theorem dX4_timesBelow_10 : decode cX4_timesBelow 10 = .ok (.bipush 16, 2) := by decide +kernel
theorem dX4_timesBelow_12 : decode cX4_timesBelow 12 = .ok (.if_icmp .ge 18, 3) := by decide +kernel
theorem dX4_timesBelow_15 : decode cX4_timesBelow 15 = .ok (.iload_n 2, 1) := by decide +kernel
theorem dX4_timesBelow_16 : decode cX4_timesBelow 16 = .ok (.aload_n 0, 1) := by decide +kernel
theorem dX4_timesBelow_17 : decode cX4_timesBelow 17 = .ok (.getfield 9, 3) := by decide +kernel
theorem dX4_timesBelow_20 : decode cX4_timesBelow 20 = .ok (.iload_n 3, 1) := by decide +kernel
theorem dX4_timesBelow_21 : decode cX4_timesBelow 21 = .ok (.iaload, 1) := by decide +kernel
theorem dX4_timesBelow_22 : decode cX4_timesBelow 22 = .ok (.iadd, 1) := by decide +kernel
theorem dX4_timesBelow_23 : decode cX4_timesBelow 23 = .ok (.istore_n 2, 1) := by decide +kernel
theorem dX4_timesBelow_24 : decode cX4_timesBelow 24 = .ok (.iinc 3 1, 3) := by decide +kernel
theorem dX4_timesBelow_27 : decode cX4_timesBelow 27 = .ok (.goto (-23), 3) := by decide +kernel
theorem dX4_timesBelow_30 : decode cX4_timesBelow 30 = .ok (.iload_n 2, 1) := by decide +kernel
theorem dX4_timesBelow_31 : decode cX4_timesBelow 31 = .ok (.ireturn, 1) := by decide +kernel
theorem dX4_unlike_0 : decode cX4_unlike 0 = .ok (.iconst 0, 1) := by decide +kernel
theorem dX4_unlike_1 : decode cX4_unlike 1 = .ok (.istore_n 1, 1) := by decide +kernel
theorem dX4_unlike_2 : decode cX4_unlike 2 = .ok (.iconst 0, 1) := by decide +kernel
theorem dX4_unlike_3 : decode cX4_unlike 3 = .ok (.istore_n 2, 1) := by decide +kernel
theorem dX4_unlike_4 : decode cX4_unlike 4 = .ok (.iload_n 2, 1) := by decide +kernel
theorem dX4_unlike_5 : decode cX4_unlike 5 = .ok (.bipush 16, 2) := by decide +kernel
theorem dX4_unlike_7 : decode cX4_unlike 7 = .ok (.if_icmp .ge 21, 3) := by decide +kernel
theorem dX4_unlike_10 : decode cX4_unlike 10 = .ok (.aload_n 0, 1) := by decide +kernel
theorem dX4_unlike_11 : decode cX4_unlike 11 = .ok (.getfield 9, 3) := by decide +kernel
theorem dX4_unlike_14 : decode cX4_unlike 14 = .ok (.iload_n 2, 1) := by decide +kernel
theorem dX4_unlike_15 : decode cX4_unlike 15 = .ok (.iaload, 1) := by decide +kernel
theorem dX4_unlike_16 : decode cX4_unlike 16 = .ok (.ifCond .le 6, 3) := by decide +kernel
theorem dX4_unlike_19 : decode cX4_unlike 19 = .ok (.iinc 1 1, 3) := by decide +kernel
theorem dX4_unlike_22 : decode cX4_unlike 22 = .ok (.iinc 2 1, 3) := by decide +kernel
theorem dX4_unlike_25 : decode cX4_unlike 25 = .ok (.goto (-21), 3) := by decide +kernel
theorem dX4_unlike_28 : decode cX4_unlike 28 = .ok (.iload_n 1, 1) := by decide +kernel
theorem dX4_unlike_29 : decode cX4_unlike 29 = .ok (.ireturn, 1) := by decide +kernel
theorem dX4_leastFrom_0 : decode cX4_leastFrom 0 = .ok (.iload_n 1, 1) := by decide +kernel
theorem dX4_leastFrom_1 : decode cX4_leastFrom 1 = .ok (.iconst 0, 1) := by decide +kernel
theorem dX4_leastFrom_2 : decode cX4_leastFrom 2 = .ok (.invokestatic 25, 3) := by decide +kernel
theorem dX4_leastFrom_5 : decode cX4_leastFrom 5 = .ok (.istore_n 2, 1) := by decide +kernel
theorem dX4_leastFrom_6 : decode cX4_leastFrom 6 = .ok (.iload_n 2, 1) := by decide +kernel
theorem dX4_leastFrom_7 : decode cX4_leastFrom 7 = .ok (.bipush 16, 2) := by decide +kernel
theorem dX4_leastFrom_9 : decode cX4_leastFrom 9 = .ok (.if_icmp .ge 20, 3) := by decide +kernel
theorem dX4_leastFrom_12 : decode cX4_leastFrom 12 = .ok (.aload_n 0, 1) := by decide +kernel
theorem dX4_leastFrom_13 : decode cX4_leastFrom 13 = .ok (.getfield 9, 3) := by decide +kernel
theorem dX4_leastFrom_16 : decode cX4_leastFrom 16 = .ok (.iload_n 2, 1) := by decide +kernel
theorem dX4_leastFrom_17 : decode cX4_leastFrom 17 = .ok (.iaload, 1) := by decide +kernel
theorem dX4_leastFrom_18 : decode cX4_leastFrom 18 = .ok (.ifCond .le 5, 3) := by decide +kernel
theorem dX4_leastFrom_21 : decode cX4_leastFrom 21 = .ok (.iload_n 2, 1) := by decide +kernel
theorem dX4_leastFrom_22 : decode cX4_leastFrom 22 = .ok (.ireturn, 1) := by decide +kernel
theorem dX4_leastFrom_23 : decode cX4_leastFrom 23 = .ok (.iinc 2 1, 3) := by decide +kernel
theorem dX4_leastFrom_26 : decode cX4_leastFrom 26 = .ok (.goto (-20), 3) := by decide +kernel
theorem dX4_leastFrom_29 : decode cX4_leastFrom 29 = .ok (.iconst (-1), 1) := by decide +kernel
theorem dX4_leastFrom_30 : decode cX4_leastFrom 30 = .ok (.ireturn, 1) := by decide +kernel
theorem dX4_symbolAtSorted_0 : decode cX4_symbolAtSorted 0 = .ok (.iload_n 1, 1) := by decide +kernel
theorem dX4_symbolAtSorted_1 : decode cX4_symbolAtSorted 1 = .ok (.istore_n 2, 1) := by decide +kernel
theorem dX4_symbolAtSorted_2 : decode cX4_symbolAtSorted 2 = .ok (.iconst 0, 1) := by decide +kernel
theorem dX4_symbolAtSorted_3 : decode cX4_symbolAtSorted 3 = .ok (.istore_n 3, 1) := by decide +kernel
theorem dX4_symbolAtSorted_4 : decode cX4_symbolAtSorted 4 = .ok (.iload_n 3, 1) := by decide +kernel
theorem dX4_symbolAtSorted_5 : decode cX4_symbolAtSorted 5 = .ok (.bipush 16, 2) := by decide +kernel
theorem dX4_symbolAtSorted_7 : decode cX4_symbolAtSorted 7 = .ok (.if_icmp .ge 30, 3) := by decide +kernel
theorem dX4_symbolAtSorted_10 : decode cX4_symbolAtSorted 10 = .ok (.iload_n 2, 1) := by decide +kernel
theorem dX4_symbolAtSorted_11 : decode cX4_symbolAtSorted 11 = .ok (.aload_n 0, 1) := by decide +kernel
theorem dX4_symbolAtSorted_12 : decode cX4_symbolAtSorted 12 = .ok (.getfield 9, 3) := by decide +kernel
theorem dX4_symbolAtSorted_15 : decode cX4_symbolAtSorted 15 = .ok (.iload_n 3, 1) := by decide +kernel
theorem dX4_symbolAtSorted_16 : decode cX4_symbolAtSorted 16 = .ok (.iaload, 1) := by decide +kernel
theorem dX4_symbolAtSorted_17 : decode cX4_symbolAtSorted 17 = .ok (.if_icmp .ge 5, 3) := by decide +kernel
theorem dX4_symbolAtSorted_20 : decode cX4_symbolAtSorted 20 = .ok (.iload_n 3, 1) := by decide +kernel
theorem dX4_symbolAtSorted_21 : decode cX4_symbolAtSorted 21 = .ok (.ireturn, 1) := by decide +kernel
theorem dX4_symbolAtSorted_22 : decode cX4_symbolAtSorted 22 = .ok (.iload_n 2, 1) := by decide +kernel
theorem dX4_symbolAtSorted_23 : decode cX4_symbolAtSorted 23 = .ok (.aload_n 0, 1) := by decide +kernel
theorem dX4_symbolAtSorted_24 : decode cX4_symbolAtSorted 24 = .ok (.getfield 9, 3) := by decide +kernel
theorem dX4_symbolAtSorted_27 : decode cX4_symbolAtSorted 27 = .ok (.iload_n 3, 1) := by decide +kernel
theorem dX4_symbolAtSorted_28 : decode cX4_symbolAtSorted 28 = .ok (.iaload, 1) := by decide +kernel
theorem dX4_symbolAtSorted_29 : decode cX4_symbolAtSorted 29 = .ok (.isub, 1) := by decide +kernel
theorem dX4_symbolAtSorted_30 : decode cX4_symbolAtSorted 30 = .ok (.istore_n 2, 1) := by decide +kernel
theorem dX4_symbolAtSorted_31 : decode cX4_symbolAtSorted 31 = .ok (.iinc 3 1, 3) := by decide +kernel
theorem dX4_symbolAtSorted_34 : decode cX4_symbolAtSorted 34 = .ok (.goto (-30), 3) := by decide +kernel
theorem dX4_symbolAtSorted_37 : decode cX4_symbolAtSorted 37 = .ok (.iconst (-1), 1) := by decide +kernel
theorem dX4_symbolAtSorted_38 : decode cX4_symbolAtSorted 38 = .ok (.ireturn, 1) := by decide +kernel
theorem dX4_mostFrequent_0 : decode cX4_mostFrequent 0 = .ok (.iconst (-1), 1) := by decide +kernel
theorem dX4_mostFrequent_1 : decode cX4_mostFrequent 1 = .ok (.istore_n 1, 1) := by decide +kernel
theorem dX4_mostFrequent_2 : decode cX4_mostFrequent 2 = .ok (.iconst 0, 1) := by decide +kernel
theorem dX4_mostFrequent_3 : decode cX4_mostFrequent 3 = .ok (.istore_n 2, 1) := by decide +kernel
theorem dX4_mostFrequent_4 : decode cX4_mostFrequent 4 = .ok (.iload_n 2, 1) := by decide +kernel
theorem dX4_mostFrequent_5 : decode cX4_mostFrequent 5 = .ok (.bipush 16, 2) := by decide +kernel
theorem dX4_mostFrequent_7 : decode cX4_mostFrequent 7 = .ok (.if_icmp .ge 25, 3) := by decide +kernel
theorem dX4_mostFrequent_10 : decode cX4_mostFrequent 10 = .ok (.aload_n 0, 1) := by decide +kernel
theorem dX4_mostFrequent_11 : decode cX4_mostFrequent 11 = .ok (.getfield 9, 3) := by decide +kernel
theorem dX4_mostFrequent_14 : decode cX4_mostFrequent 14 = .ok (.iload_n 2, 1) := by decide +kernel
theorem dX4_mostFrequent_15 : decode cX4_mostFrequent 15 = .ok (.iaload, 1) := by decide +kernel
theorem dX4_mostFrequent_16 : decode cX4_mostFrequent 16 = .ok (.aload_n 0, 1) := by decide +kernel
theorem dX4_mostFrequent_17 : decode cX4_mostFrequent 17 = .ok (.iload_n 1, 1) := by decide +kernel
theorem dX4_mostFrequent_18 : decode cX4_mostFrequent 18 = .ok (.invokevirtual 31, 3) := by decide +kernel
theorem dX4_mostFrequent_21 : decode cX4_mostFrequent 21 = .ok (.if_icmp .le 5, 3) := by decide +kernel
theorem dX4_mostFrequent_24 : decode cX4_mostFrequent 24 = .ok (.iload_n 2, 1) := by decide +kernel
theorem dX4_mostFrequent_25 : decode cX4_mostFrequent 25 = .ok (.istore_n 1, 1) := by decide +kernel
theorem dX4_mostFrequent_26 : decode cX4_mostFrequent 26 = .ok (.iinc 2 1, 3) := by decide +kernel
theorem dX4_mostFrequent_29 : decode cX4_mostFrequent 29 = .ok (.goto (-25), 3) := by decide +kernel
theorem dX4_mostFrequent_32 : decode cX4_mostFrequent 32 = .ok (.iload_n 1, 1) := by decide +kernel
theorem dX4_mostFrequent_33 : decode cX4_mostFrequent 33 = .ok (.ireturn, 1) := by decide +kernel
theorem dX4_isLike_0 : decode cX4_isLike 0 = .ok (.iconst 0, 1) := by decide +kernel
theorem dX4_isLike_1 : decode cX4_isLike 1 = .ok (.istore_n 2, 1) := by decide +kernel
theorem dX4_isLike_2 : decode cX4_isLike 2 = .ok (.iload_n 2, 1) := by decide +kernel
theorem dX4_isLike_3 : decode cX4_isLike 3 = .ok (.bipush 16, 2) := by decide +kernel
theorem dX4_isLike_5 : decode cX4_isLike 5 = .ok (.if_icmp .ge 26, 3) := by decide +kernel
theorem dX4_isLike_8 : decode cX4_isLike 8 = .ok (.aload_n 0, 1) := by decide +kernel
theorem dX4_isLike_9 : decode cX4_isLike 9 = .ok (.getfield 9, 3) := by decide +kernel
theorem dX4_isLike_12 : decode cX4_isLike 12 = .ok (.iload_n 2, 1) := by decide +kernel
theorem dX4_isLike_13 : decode cX4_isLike 13 = .ok (.iaload, 1) := by decide +kernel
theorem dX4_isLike_14 : decode cX4_isLike 14 = .ok (.aload_n 1, 1) := by decide +kernel
theorem dX4_isLike_15 : decode cX4_isLike 15 = .ok (.getfield 9, 3) := by decide +kernel
theorem dX4_isLike_18 : decode cX4_isLike 18 = .ok (.iload_n 2, 1) := by decide +kernel
theorem dX4_isLike_19 : decode cX4_isLike 19 = .ok (.iaload, 1) := by decide +kernel
theorem dX4_isLike_20 : decode cX4_isLike 20 = .ok (.if_icmp .eq 5, 3) := by decide +kernel
theorem dX4_isLike_23 : decode cX4_isLike 23 = .ok (.iconst 0, 1) := by decide +kernel
theorem dX4_isLike_24 : decode cX4_isLike 24 = .ok (.ireturn, 1) := by decide +kernel
theorem dX4_isLike_25 : decode cX4_isLike 25 = .ok (.iinc 2 1, 3) := by decide +kernel
theorem dX4_isLike_28 : decode cX4_isLike 28 = .ok (.goto (-26), 3) := by decide +kernel
theorem dX4_isLike_31 : decode cX4_isLike 31 = .ok (.iconst 1, 1) := by decide +kernel
theorem dX4_isLike_32 : decode cX4_isLike 32 = .ok (.ireturn, 1) := by decide +kernel
theorem dX4_keepCommon_0 : decode cX4_keepCommon 0 = .ok (.iconst 0, 1) := by decide +kernel
theorem dX4_keepCommon_1 : decode cX4_keepCommon 1 = .ok (.istore_n 2, 1) := by decide +kernel
theorem dX4_keepCommon_2 : decode cX4_keepCommon 2 = .ok (.iload_n 2, 1) := by decide +kernel
theorem dX4_keepCommon_3 : decode cX4_keepCommon 3 = .ok (.bipush 16, 2) := by decide +kernel
theorem dX4_keepCommon_5 : decode cX4_keepCommon 5 = .ok (.if_icmp .ge 30, 3) := by decide +kernel
theorem dX4_keepCommon_8 : decode cX4_keepCommon 8 = .ok (.aload_n 0, 1) := by decide +kernel
theorem dX4_keepCommon_9 : decode cX4_keepCommon 9 = .ok (.getfield 9, 3) := by decide +kernel
theorem dX4_keepCommon_12 : decode cX4_keepCommon 12 = .ok (.iload_n 2, 1) := by decide +kernel
theorem dX4_keepCommon_13 : decode cX4_keepCommon 13 = .ok (.aload_n 0, 1) := by decide +kernel
theorem dX4_keepCommon_14 : decode cX4_keepCommon 14 = .ok (.getfield 9, 3) := by decide +kernel
theorem dX4_keepCommon_17 : decode cX4_keepCommon 17 = .ok (.iload_n 2, 1) := by decide +kernel
theorem dX4_keepCommon_18 : decode cX4_keepCommon 18 = .ok (.iaload, 1) := by decide +kernel
theorem dX4_keepCommon_19 : decode cX4_keepCommon 19 = .ok (.aload_n 1, 1) := by decide +kernel
theorem dX4_keepCommon_20 : decode cX4_keepCommon 20 = .ok (.getfield 9, 3) := by decide +kernel
theorem dX4_keepCommon_23 : decode cX4_keepCommon 23 = .ok (.iload_n 2, 1) := by decide +kernel
theorem dX4_keepCommon_24 : decode cX4_keepCommon 24 = .ok (.iaload, 1) := by decide +kernel
theorem dX4_keepCommon_25 : decode cX4_keepCommon 25 = .ok (.invokestatic 33, 3) := by decide +kernel
theorem dX4_keepCommon_28 : decode cX4_keepCommon 28 = .ok (.iastore, 1) := by decide +kernel
theorem dX4_keepCommon_29 : decode cX4_keepCommon 29 = .ok (.iinc 2 1, 3) := by decide +kernel
theorem dX4_keepCommon_32 : decode cX4_keepCommon 32 = .ok (.goto (-30), 3) := by decide +kernel
theorem dX4_keepCommon_35 : decode cX4_keepCommon 35 = .ok (.return_, 1) := by decide +kernel
theorem dX5_init_0 : decode cX5_init 0 = .ok (.aload_n 0, 1) := by decide +kernel
theorem dX5_init_1 : decode cX5_init 1 = .ok (.invokespecial 3, 3) := by decide +kernel
theorem dX5_init_4 : decode cX5_init 4 = .ok (.aload_n 0, 1) := by decide +kernel
theorem dX5_init_5 : decode cX5_init 5 = .ok (.bipush 60, 2) := by decide +kernel
theorem dX5_init_7 : decode cX5_init 7 = .ok (.newarray .char, 2) := by decide +kernel
theorem dX5_init_9 : decode cX5_init 9 = .ok (.putfield 9, 3) := by decide +kernel
theorem dX5_init_12 : decode cX5_init 12 = .ok (.aload_n 0, 1) := by decide +kernel
theorem dX5_init_13 : decode cX5_init 13 = .ok (.iconst 0, 1) := by decide +kernel
theorem dX5_init_14 : decode cX5_init 14 = .ok (.putfield 15, 3) := by decide +kernel
theorem dX5_init_17 : decode cX5_init 17 = .ok (.return_, 1) := by decide +kernel
theorem dX5_length_0 : decode cX5_length 0 = .ok (.aload_n 0, 1) := by decide +kernel
theorem dX5_length_1 : decode cX5_length 1 = .ok (.getfield 15, 3) := by decide +kernel
theorem dX5_length_4 : decode cX5_length 4 = .ok (.ireturn, 1) := by decide +kernel
theorem dX5_at_0 : decode cX5_at 0 = .ok (.iload_n 1, 1) := by decide +kernel
theorem dX5_at_1 : decode cX5_at 1 = .ok (.ifCond .lt 20, 3) := by decide +kernel
theorem dX5_at_4 : decode cX5_at 4 = .ok (.iload_n 1, 1) := by decide +kernel
theorem dX5_at_5 : decode cX5_at 5 = .ok (.aload_n 0, 1) := by decide +kernel
theorem dX5_at_6 : decode cX5_at 6 = .ok (.getfield 15, 3) := by decide +kernel
theorem dX5_at_9 : decode cX5_at 9 = .ok (.if_icmp .ge 12, 3) := by decide +kernel
theorem dX5_at_12 : decode cX5_at 12 = .ok (.aload_n 0, 1) := by decide +kernel
theorem dX5_at_13 : decode cX5_at 13 = .ok (.getfield 9, 3) := by decide +kernel
theorem dX5_at_16 : decode cX5_at 16 = .ok (.iload_n 1, 1) := by decide +kernel
theorem dX5_at_17 : decode cX5_at 17 = .ok (.caload, 1) := by decide +kernel
theorem dX5_at_18 : decode cX5_at 18 = .ok (.goto 4, 3) := by decide +kernel
theorem dX5_at_21 : decode cX5_at 21 = .ok (.iconst (-1), 1) := by decide +kernel
theorem dX5_at_22 : decode cX5_at 22 = .ok (.ireturn, 1) := by decide +kernel
theorem dX5_digitAt_0 : decode cX5_digitAt 0 = .ok (.aload_n 0, 1) := by decide +kernel
theorem dX5_digitAt_1 : decode cX5_digitAt 1 = .ok (.iload_n 1, 1) := by decide +kernel
theorem dX5_digitAt_2 : decode cX5_digitAt 2 = .ok (.invokevirtual 19, 3) := by decide +kernel
theorem dX5_digitAt_5 : decode cX5_digitAt 5 = .ok (.invokestatic 23, 3) := by decide +kernel
theorem dX5_digitAt_8 : decode cX5_digitAt 8 = .ok (.ireturn, 1) := by decide +kernel
theorem dX5_symbolValueAt_0 : decode cX5_symbolValueAt 0 = .ok (.aload_n 0, 1) := by decide +kernel
theorem dX5_symbolValueAt_1 : decode cX5_symbolValueAt 1 = .ok (.iload_n 1, 1) := by decide +kernel
theorem dX5_symbolValueAt_2 : decode cX5_symbolValueAt 2 = .ok (.invokevirtual 19, 3) := by decide +kernel
theorem dX5_symbolValueAt_5 : decode cX5_symbolValueAt 5 = .ok (.istore_n 2, 1) := by decide +kernel
theorem dX5_symbolValueAt_6 : decode cX5_symbolValueAt 6 = .ok (.iload_n 2, 1) := by decide +kernel
theorem dX5_symbolValueAt_7 : decode cX5_symbolValueAt 7 = .ok (.bipush 97, 2) := by decide +kernel
theorem dX5_symbolValueAt_9 : decode cX5_symbolValueAt 9 = .ok (.if_icmp .lt 19, 3) := by decide +kernel
theorem dX5_symbolValueAt_12 : decode cX5_symbolValueAt 12 = .ok (.iload_n 2, 1) := by decide +kernel
theorem dX5_symbolValueAt_13 : decode cX5_symbolValueAt 13 = .ok (.bipush 102, 2) := by decide +kernel
theorem dX5_symbolValueAt_15 : decode cX5_symbolValueAt 15 = .ok (.if_icmp .gt 13, 3) := by decide +kernel
theorem dX5_symbolValueAt_18 : decode cX5_symbolValueAt 18 = .ok (.iload_n 2, 1) := by decide +kernel
theorem dX5_symbolValueAt_19 : decode cX5_symbolValueAt 19 = .ok (.bipush 97, 2) := by decide +kernel
theorem dX5_symbolValueAt_21 : decode cX5_symbolValueAt 21 = .ok (.isub, 1) := by decide +kernel
theorem dX5_symbolValueAt_22 : decode cX5_symbolValueAt 22 = .ok (.bipush 10, 2) := by decide +kernel
theorem dX5_symbolValueAt_24 : decode cX5_symbolValueAt 24 = .ok (.iadd, 1) := by decide +kernel
theorem dX5_symbolValueAt_25 : decode cX5_symbolValueAt 25 = .ok (.goto 7, 3) := by decide +kernel
theorem dX5_symbolValueAt_28 : decode cX5_symbolValueAt 28 = .ok (.iload_n 2, 1) := by decide +kernel
theorem dX5_symbolValueAt_29 : decode cX5_symbolValueAt 29 = .ok (.invokestatic 23, 3) := by decide +kernel
theorem dX5_symbolValueAt_32 : decode cX5_symbolValueAt 32 = .ok (.ireturn, 1) := by decide +kernel
theorem dX5_digitOf_0 : decode cX5_digitOf 0 = .ok (.iload_n 0, 1) := by decide +kernel
theorem dX5_digitOf_1 : decode cX5_digitOf 1 = .ok (.bipush 48, 2) := by decide +kernel
theorem dX5_digitOf_3 : decode cX5_digitOf 3 = .ok (.if_icmp .lt 16, 3) := by decide +kernel
theorem dX5_digitOf_6 : decode cX5_digitOf 6 = .ok (.iload_n 0, 1) := by decide +kernel
theorem dX5_digitOf_7 : decode cX5_digitOf 7 = .ok (.bipush 57, 2) := by decide +kernel
theorem dX5_digitOf_9 : decode cX5_digitOf 9 = .ok (.if_icmp .gt 10, 3) := by decide +kernel
theorem dX5_digitOf_12 : decode cX5_digitOf 12 = .ok (.iload_n 0, 1) := by decide +kernel
theorem dX5_digitOf_13 : decode cX5_digitOf 13 = .ok (.bipush 48, 2) := by decide +kernel
theorem dX5_digitOf_15 : decode cX5_digitOf 15 = .ok (.isub, 1) := by decide +kernel
theorem dX5_digitOf_16 : decode cX5_digitOf 16 = .ok (.goto 4, 3) := by decide +kernel
theorem dX5_digitOf_19 : decode cX5_digitOf 19 = .ok (.iconst (-1), 1) := by decide +kernel
theorem dX5_digitOf_20 : decode cX5_digitOf 20 = .ok (.ireturn, 1) := by decide +kernel
theorem dX5_append_0 : decode cX5_append 0 = .ok (.aload_n 0, 1) := by decide +kernel
theorem dX5_append_1 : decode cX5_append 1 = .ok (.getfield 15, 3) := by decide +kernel
theorem dX5_append_4 : decode cX5_append 4 = .ok (.bipush 60, 2) := by decide +kernel
theorem dX5_append_6 : decode cX5_append 6 = .ok (.if_icmp .ge 23, 3) := by decide +kernel
theorem dX5_append_9 : decode cX5_append 9 = .ok (.aload_n 0, 1) := by decide +kernel
theorem dX5_append_10 : decode cX5_append 10 = .ok (.getfield 9, 3) := by decide +kernel
theorem dX5_append_13 : decode cX5_append 13 = .ok (.aload_n 0, 1) := by decide +kernel
theorem dX5_append_14 : decode cX5_append 14 = .ok (.getfield 15, 3) := by decide +kernel
theorem dX5_append_17 : decode cX5_append 17 = .ok (.iload_n 1, 1) := by decide +kernel
theorem dX5_append_18 : decode cX5_append 18 = .ok (.castore, 1) := by decide +kernel
theorem dX5_append_19 : decode cX5_append 19 = .ok (.aload_n 0, 1) := by decide +kernel
theorem dX5_append_20 : decode cX5_append 20 = .ok (.dup, 1) := by decide +kernel
theorem dX5_append_21 : decode cX5_append 21 = .ok (.getfield 15, 3) := by decide +kernel
theorem dX5_append_24 : decode cX5_append 24 = .ok (.iconst 1, 1) := by decide +kernel
theorem dX5_append_25 : decode cX5_append 25 = .ok (.iadd, 1) := by decide +kernel
theorem dX5_append_26 : decode cX5_append 26 = .ok (.putfield 15, 3) := by decide +kernel
theorem dX5_append_29 : decode cX5_append 29 = .ok (.return_, 1) := by decide +kernel
theorem dX5_empty_0 : decode cX5_empty 0 = .ok (.aload_n 0, 1) := by decide +kernel
theorem dX5_empty_1 : decode cX5_empty 1 = .ok (.iconst 0, 1) := by decide +kernel
theorem dX5_empty_2 : decode cX5_empty 2 = .ok (.putfield 15, 3) := by decide +kernel
theorem dX5_empty_5 : decode cX5_empty 5 = .ok (.return_, 1) := by decide +kernel
theorem dX6_init_0 : decode cX6_init 0 = .ok (.aload_n 0, 1) := by decide +kernel
theorem dX6_init_1 : decode cX6_init 1 = .ok (.invokespecial 1, 3) := by decide +kernel
theorem dX6_init_4 : decode cX6_init 4 = .ok (.aload_n 0, 1) := by decide +kernel
theorem dX6_init_5 : decode cX6_init 5 = .ok (.new 7, 3) := by decide +kernel
theorem dX6_init_8 : decode cX6_init 8 = .ok (.dup, 1) := by decide +kernel
theorem dX6_init_9 : decode cX6_init 9 = .ok (.invokespecial 9, 3) := by decide +kernel
theorem dX6_init_12 : decode cX6_init 12 = .ok (.putfield 10, 3) := by decide +kernel
theorem dX6_init_15 : decode cX6_init 15 = .ok (.aload_n 0, 1) := by decide +kernel
theorem dX6_init_16 : decode cX6_init 16 = .ok (.new 16, 3) := by decide +kernel
theorem dX6_init_19 : decode cX6_init 19 = .ok (.dup, 1) := by decide +kernel
theorem dX6_init_20 : decode cX6_init 20 = .ok (.invokespecial 18, 3) := by decide +kernel
theorem dX6_init_23 : decode cX6_init 23 = .ok (.putfield 19, 3) := by decide +kernel
theorem dX6_init_26 : decode cX6_init 26 = .ok (.aload_n 0, 1) := by decide +kernel
theorem dX6_init_27 : decode cX6_init 27 = .ok (.new 23, 3) := by decide +kernel
theorem dX6_init_30 : decode cX6_init 30 = .ok (.dup, 1) := by decide +kernel
theorem dX6_init_31 : decode cX6_init 31 = .ok (.invokespecial 25, 3) := by decide +kernel
theorem dX6_init_34 : decode cX6_init 34 = .ok (.putfield 26, 3) := by decide +kernel
theorem dX6_init_37 : decode cX6_init 37 = .ok (.aload_n 0, 1) := by decide +kernel
theorem dX6_init_38 : decode cX6_init 38 = .ok (.new 30, 3) := by decide +kernel
theorem dX6_init_41 : decode cX6_init 41 = .ok (.dup, 1) := by decide +kernel
theorem dX6_init_42 : decode cX6_init 42 = .ok (.invokespecial 32, 3) := by decide +kernel
theorem dX6_init_45 : decode cX6_init 45 = .ok (.putfield 33, 3) := by decide +kernel
theorem dX6_init_48 : decode cX6_init 48 = .ok (.aload_n 0, 1) := by decide +kernel
theorem dX6_init_49 : decode cX6_init 49 = .ok (.new 30, 3) := by decide +kernel
theorem dX6_init_52 : decode cX6_init 52 = .ok (.dup, 1) := by decide +kernel
theorem dX6_init_53 : decode cX6_init 53 = .ok (.invokespecial 32, 3) := by decide +kernel
theorem dX6_init_56 : decode cX6_init 56 = .ok (.putfield 37, 3) := by decide +kernel
theorem dX6_init_59 : decode cX6_init 59 = .ok (.aload_n 0, 1) := by decide +kernel
theorem dX6_init_60 : decode cX6_init 60 = .ok (.new 40, 3) := by decide +kernel
theorem dX6_init_63 : decode cX6_init 63 = .ok (.dup, 1) := by decide +kernel
theorem dX6_init_64 : decode cX6_init 64 = .ok (.invokespecial 42, 3) := by decide +kernel
theorem dX6_init_67 : decode cX6_init 67 = .ok (.putfield 43, 3) := by decide +kernel
theorem dX6_init_70 : decode cX6_init 70 = .ok (.aload_n 0, 1) := by decide +kernel
theorem dX6_init_71 : decode cX6_init 71 = .ok (.aload_n 0, 1) := by decide +kernel
theorem dX6_init_72 : decode cX6_init 72 = .ok (.getfield 43, 3) := by decide +kernel
theorem dX6_init_75 : decode cX6_init 75 = .ok (.invokevirtual 47, 3) := by decide +kernel
theorem dX6_init_78 : decode cX6_init 78 = .ok (.putfield 51, 3) := by decide +kernel
theorem dX6_init_81 : decode cX6_init 81 = .ok (.return_, 1) := by decide +kernel
theorem dX6_put_0 : decode cX6_put 0 = .ok (.iload_n 1, 1) := by decide +kernel
theorem dX6_put_1 : decode cX6_put 1 = .ok (.aload_n 0, 1) := by decide +kernel
theorem dX6_put_2 : decode cX6_put 2 = .ok (.getfield 10, 3) := by decide +kernel
theorem dX6_put_5 : decode cX6_put 5 = .ok (.invokevirtual 54, 3) := by decide +kernel
theorem dX6_put_8 : decode cX6_put 8 = .ok (.invokestatic 58, 3) := by decide +kernel
theorem dX6_put_11 : decode cX6_put 11 = .ok (.ifCond .eq 10, 3) := by decide +kernel
theorem dX6_put_14 : decode cX6_put 14 = .ok (.iload_n 2, 1) := by decide +kernel
theorem dX6_put_15 : decode cX6_put 15 = .ok (.invokestatic 62, 3) := by decide +kernel
theorem dX6_put_18 : decode cX6_put 18 = .ok (.ifCond .ne 6, 3) := by decide +kernel
theorem dX6_put_21 : decode cX6_put 21 = .ok (.ldc 66, 2) := by decide +kernel
theorem dX6_put_23 : decode cX6_put 23 = .ok (.ireturn, 1) := by decide +kernel
theorem dX6_put_24 : decode cX6_put 24 = .ok (.aload_n 0, 1) := by decide +kernel
theorem dX6_put_25 : decode cX6_put 25 = .ok (.getfield 10, 3) := by decide +kernel
theorem dX6_put_28 : decode cX6_put 28 = .ok (.invokevirtual 54, 3) := by decide +kernel
theorem dX6_put_31 : decode cX6_put 31 = .ok (.bipush 60, 2) := by decide +kernel
theorem dX6_put_33 : decode cX6_put 33 = .ok (.if_icmp .lt 6, 3) := by decide +kernel
theorem dX6_put_36 : decode cX6_put 36 = .ok (.ldc 67, 2) := by decide +kernel
theorem dX6_put_38 : decode cX6_put 38 = .ok (.ireturn, 1) := by decide +kernel
theorem dX6_put_39 : decode cX6_put 39 = .ok (.aload_n 0, 1) := by decide +kernel
theorem dX6_put_40 : decode cX6_put 40 = .ok (.getfield 19, 3) := by decide +kernel
theorem dX6_put_43 : decode cX6_put 43 = .ok (.aload_n 0, 1) := by decide +kernel
theorem dX6_put_44 : decode cX6_put 44 = .ok (.getfield 10, 3) := by decide +kernel
theorem dX6_put_47 : decode cX6_put 47 = .ok (.invokevirtual 68, 3) := by decide +kernel
theorem dX6_put_50 : decode cX6_put 50 = .ok (.aload_n 0, 1) := by decide +kernel
theorem dX6_put_51 : decode cX6_put 51 = .ok (.getfield 10, 3) := by decide +kernel
theorem dX6_put_54 : decode cX6_put 54 = .ok (.iload_n 1, 1) := by decide +kernel
theorem dX6_put_55 : decode cX6_put 55 = .ok (.iload_n 2, 1) := by decide +kernel
theorem dX6_put_56 : decode cX6_put 56 = .ok (.invokevirtual 72, 3) := by decide +kernel
theorem dX6_put_59 : decode cX6_put 59 = .ok (.aload_n 0, 1) := by decide +kernel
theorem dX6_put_60 : decode cX6_put 60 = .ok (.getfield 10, 3) := by decide +kernel
theorem dX6_put_63 : decode cX6_put 63 = .ok (.invokevirtual 54, 3) := by decide +kernel
theorem dX6_put_66 : decode cX6_put 66 = .ok (.ireturn, 1) := by decide +kernel
theorem dX6_take_0 : decode cX6_take 0 = .ok (.aload_n 0, 1) := by decide +kernel
theorem dX6_take_1 : decode cX6_take 1 = .ok (.getfield 10, 3) := by decide +kernel
theorem dX6_take_4 : decode cX6_take 4 = .ok (.iload_n 1, 1) := by decide +kernel
theorem dX6_take_5 : decode cX6_take 5 = .ok (.invokevirtual 76, 3) := by decide +kernel
theorem dX6_take_8 : decode cX6_take 8 = .ok (.ifCond .ne 6, 3) := by decide +kernel
theorem dX6_take_11 : decode cX6_take 11 = .ok (.ldc 66, 2) := by decide +kernel
theorem dX6_take_13 : decode cX6_take 13 = .ok (.ireturn, 1) := by decide +kernel
theorem dX6_take_14 : decode cX6_take 14 = .ok (.aload_n 0, 1) := by decide +kernel
theorem dX6_take_15 : decode cX6_take 15 = .ok (.getfield 10, 3) := by decide +kernel
theorem dX6_take_18 : decode cX6_take 18 = .ok (.iload_n 1, 1) := by decide +kernel
theorem dX6_take_19 : decode cX6_take 19 = .ok (.invokevirtual 79, 3) := by decide +kernel
theorem dX6_take_22 : decode cX6_take 22 = .ok (.istore_n 2, 1) := by decide +kernel
theorem dX6_take_23 : decode cX6_take 23 = .ok (.aload_n 0, 1) := by decide +kernel
theorem dX6_take_24 : decode cX6_take 24 = .ok (.getfield 19, 3) := by decide +kernel
theorem dX6_take_27 : decode cX6_take 27 = .ok (.aload_n 0, 1) := by decide +kernel
theorem dX6_take_28 : decode cX6_take 28 = .ok (.getfield 10, 3) := by decide +kernel
theorem dX6_take_31 : decode cX6_take 31 = .ok (.invokevirtual 68, 3) := by decide +kernel
theorem dX6_take_34 : decode cX6_take 34 = .ok (.aload_n 0, 1) := by decide +kernel
theorem dX6_take_35 : decode cX6_take 35 = .ok (.getfield 10, 3) := by decide +kernel
theorem dX6_take_38 : decode cX6_take 38 = .ok (.iload_n 1, 1) := by decide +kernel
theorem dX6_take_39 : decode cX6_take 39 = .ok (.invokevirtual 83, 3) := by decide +kernel
theorem dX6_take_42 : decode cX6_take 42 = .ok (.iload_n 2, 1) := by decide +kernel
theorem dX6_take_43 : decode cX6_take 43 = .ok (.ireturn, 1) := by decide +kernel
theorem dX6_change_0 : decode cX6_change 0 = .ok (.aload_n 0, 1) := by decide +kernel
theorem dX6_change_1 : decode cX6_change 1 = .ok (.getfield 10, 3) := by decide +kernel
theorem dX6_change_4 : decode cX6_change 4 = .ok (.iload_n 1, 1) := by decide +kernel
theorem dX6_change_5 : decode cX6_change 5 = .ok (.invokevirtual 76, 3) := by decide +kernel
theorem dX6_change_8 : decode cX6_change 8 = .ok (.ifCond .eq 10, 3) := by decide +kernel
theorem dX6_change_11 : decode cX6_change 11 = .ok (.iload_n 2, 1) := by decide +kernel
theorem dX6_change_12 : decode cX6_change 12 = .ok (.invokestatic 62, 3) := by decide +kernel
theorem dX6_change_15 : decode cX6_change 15 = .ok (.ifCond .ne 6, 3) := by decide +kernel
theorem dX6_change_18 : decode cX6_change 18 = .ok (.ldc 66, 2) := by decide +kernel
theorem dX6_change_20 : decode cX6_change 20 = .ok (.ireturn, 1) := by decide +kernel
theorem dX6_change_21 : decode cX6_change 21 = .ok (.aload_n 0, 1) := by decide +kernel
theorem dX6_change_22 : decode cX6_change 22 = .ok (.getfield 10, 3) := by decide +kernel
theorem dX6_change_25 : decode cX6_change 25 = .ok (.iload_n 1, 1) := by decide +kernel
theorem dX6_change_26 : decode cX6_change 26 = .ok (.invokevirtual 79, 3) := by decide +kernel
theorem dX6_change_29 : decode cX6_change 29 = .ok (.istore_n 3, 1) := by decide +kernel
theorem dX6_change_30 : decode cX6_change 30 = .ok (.aload_n 0, 1) := by decide +kernel
theorem dX6_change_31 : decode cX6_change 31 = .ok (.getfield 19, 3) := by decide +kernel
theorem dX6_change_34 : decode cX6_change 34 = .ok (.aload_n 0, 1) := by decide +kernel
theorem dX6_change_35 : decode cX6_change 35 = .ok (.getfield 10, 3) := by decide +kernel
theorem dX6_change_38 : decode cX6_change 38 = .ok (.invokevirtual 68, 3) := by decide +kernel
theorem dX6_change_41 : decode cX6_change 41 = .ok (.aload_n 0, 1) := by decide +kernel
theorem dX6_change_42 : decode cX6_change 42 = .ok (.getfield 10, 3) := by decide +kernel
theorem dX6_change_45 : decode cX6_change 45 = .ok (.iload_n 1, 1) := by decide +kernel
theorem dX6_change_46 : decode cX6_change 46 = .ok (.iload_n 2, 1) := by decide +kernel
theorem dX6_change_47 : decode cX6_change 47 = .ok (.invokevirtual 87, 3) := by decide +kernel
theorem dX6_change_50 : decode cX6_change 50 = .ok (.iload_n 3, 1) := by decide +kernel
theorem dX6_change_51 : decode cX6_change 51 = .ok (.ireturn, 1) := by decide +kernel
theorem dX6_swap_0 : decode cX6_swap 0 = .ok (.aload_n 0, 1) := by decide +kernel
theorem dX6_swap_1 : decode cX6_swap 1 = .ok (.getfield 10, 3) := by decide +kernel
theorem dX6_swap_4 : decode cX6_swap 4 = .ok (.iload_n 1, 1) := by decide +kernel
theorem dX6_swap_5 : decode cX6_swap 5 = .ok (.invokevirtual 76, 3) := by decide +kernel
theorem dX6_swap_8 : decode cX6_swap 8 = .ok (.ifCond .eq 14, 3) := by decide +kernel
theorem dX6_swap_11 : decode cX6_swap 11 = .ok (.aload_n 0, 1) := by decide +kernel
theorem dX6_swap_12 : decode cX6_swap 12 = .ok (.getfield 10, 3) := by decide +kernel
theorem dX6_swap_15 : decode cX6_swap 15 = .ok (.iload_n 2, 1) := by decide +kernel
theorem dX6_swap_16 : decode cX6_swap 16 = .ok (.invokevirtual 76, 3) := by decide +kernel
theorem dX6_swap_19 : decode cX6_swap 19 = .ok (.ifCond .ne 6, 3) := by decide +kernel
theorem dX6_swap_22 : decode cX6_swap 22 = .ok (.ldc 66, 2) := by decide +kernel
theorem dX6_swap_24 : decode cX6_swap 24 = .ok (.ireturn, 1) := by decide +kernel
theorem dX6_swap_25 : decode cX6_swap 25 = .ok (.aload_n 0, 1) := by decide +kernel
theorem dX6_swap_26 : decode cX6_swap 26 = .ok (.getfield 10, 3) := by decide +kernel
theorem dX6_swap_29 : decode cX6_swap 29 = .ok (.iload_n 1, 1) := by decide +kernel
theorem dX6_swap_30 : decode cX6_swap 30 = .ok (.invokevirtual 79, 3) := by decide +kernel
theorem dX6_swap_33 : decode cX6_swap 33 = .ok (.aload_n 0, 1) := by decide +kernel
theorem dX6_swap_34 : decode cX6_swap 34 = .ok (.getfield 10, 3) := by decide +kernel
theorem dX6_swap_37 : decode cX6_swap 37 = .ok (.iload_n 2, 1) := by decide +kernel
theorem dX6_swap_38 : decode cX6_swap 38 = .ok (.invokevirtual 79, 3) := by decide +kernel
theorem dX6_swap_41 : decode cX6_swap 41 = .ok (.if_icmp .eq 7, 3) := by decide +kernel
theorem dX6_swap_44 : decode cX6_swap 44 = .ok (.iconst 1, 1) := by decide +kernel
theorem dX6_swap_45 : decode cX6_swap 45 = .ok (.goto 4, 3) := by decide +kernel
theorem dX6_swap_48 : decode cX6_swap 48 = .ok (.iconst 0, 1) := by decide +kernel
theorem dX6_swap_49 : decode cX6_swap 49 = .ok (.istore_n 3, 1) := by decide +kernel
theorem dX6_swap_50 : decode cX6_swap 50 = .ok (.aload_n 0, 1) := by decide +kernel
theorem dX6_swap_51 : decode cX6_swap 51 = .ok (.getfield 19, 3) := by decide +kernel
theorem dX6_swap_54 : decode cX6_swap 54 = .ok (.aload_n 0, 1) := by decide +kernel
theorem dX6_swap_55 : decode cX6_swap 55 = .ok (.getfield 10, 3) := by decide +kernel
theorem dX6_swap_58 : decode cX6_swap 58 = .ok (.invokevirtual 68, 3) := by decide +kernel
theorem dX6_swap_61 : decode cX6_swap 61 = .ok (.aload_n 0, 1) := by decide +kernel
theorem dX6_swap_62 : decode cX6_swap 62 = .ok (.getfield 10, 3) := by decide +kernel
theorem dX6_swap_65 : decode cX6_swap 65 = .ok (.iload_n 1, 1) := by decide +kernel
theorem dX6_swap_66 : decode cX6_swap 66 = .ok (.iload_n 2, 1) := by decide +kernel
theorem dX6_swap_67 : decode cX6_swap 67 = .ok (.invokevirtual 90, 3) := by decide +kernel
theorem dX6_swap_70 : decode cX6_swap 70 = .ok (.iload_n 3, 1) := by decide +kernel
theorem dX6_swap_71 : decode cX6_swap 71 = .ok (.ireturn, 1) := by decide +kernel
theorem dX6_turn_0 : decode cX6_turn 0 = .ok (.aload_n 0, 1) := by decide +kernel
theorem dX6_turn_1 : decode cX6_turn 1 = .ok (.getfield 10, 3) := by decide +kernel
theorem dX6_turn_4 : decode cX6_turn 4 = .ok (.iload_n 1, 1) := by decide +kernel
theorem dX6_turn_5 : decode cX6_turn 5 = .ok (.iload_n 2, 1) := by decide +kernel
theorem dX6_turn_6 : decode cX6_turn 6 = .ok (.invokevirtual 93, 3) := by decide +kernel
theorem dX6_turn_9 : decode cX6_turn 9 = .ok (.ifCond .ne 6, 3) := by decide +kernel
theorem dX6_turn_12 : decode cX6_turn 12 = .ok (.ldc 66, 2) := by decide +kernel
theorem dX6_turn_14 : decode cX6_turn 14 = .ok (.ireturn, 1) := by decide +kernel
theorem dX6_turn_15 : decode cX6_turn 15 = .ok (.aload_n 0, 1) := by decide +kernel
theorem dX6_turn_16 : decode cX6_turn 16 = .ok (.getfield 19, 3) := by decide +kernel
theorem dX6_turn_19 : decode cX6_turn 19 = .ok (.aload_n 0, 1) := by decide +kernel
theorem dX6_turn_20 : decode cX6_turn 20 = .ok (.getfield 10, 3) := by decide +kernel
theorem dX6_turn_23 : decode cX6_turn 23 = .ok (.invokevirtual 68, 3) := by decide +kernel
theorem dX6_turn_26 : decode cX6_turn 26 = .ok (.aload_n 0, 1) := by decide +kernel
theorem dX6_turn_27 : decode cX6_turn 27 = .ok (.getfield 10, 3) := by decide +kernel
theorem dX6_turn_30 : decode cX6_turn 30 = .ok (.iload_n 1, 1) := by decide +kernel
theorem dX6_turn_31 : decode cX6_turn 31 = .ok (.iload_n 2, 1) := by decide +kernel
theorem dX6_turn_32 : decode cX6_turn 32 = .ok (.invokevirtual 96, 3) := by decide +kernel
theorem dX6_turn_35 : decode cX6_turn 35 = .ok (.ireturn, 1) := by decide +kernel
theorem dX6_sort_0 : decode cX6_sort 0 = .ok (.aload_n 0, 1) := by decide +kernel
theorem dX6_sort_1 : decode cX6_sort 1 = .ok (.getfield 10, 3) := by decide +kernel
theorem dX6_sort_4 : decode cX6_sort 4 = .ok (.iload_n 1, 1) := by decide +kernel
theorem dX6_sort_5 : decode cX6_sort 5 = .ok (.iload_n 2, 1) := by decide +kernel
theorem dX6_sort_6 : decode cX6_sort 6 = .ok (.invokevirtual 93, 3) := by decide +kernel
theorem dX6_sort_9 : decode cX6_sort 9 = .ok (.ifCond .ne 6, 3) := by decide +kernel
theorem dX6_sort_12 : decode cX6_sort 12 = .ok (.ldc 66, 2) := by decide +kernel
theorem dX6_sort_14 : decode cX6_sort 14 = .ok (.ireturn, 1) := by decide +kernel
theorem dX6_sort_15 : decode cX6_sort 15 = .ok (.aload_n 0, 1) := by decide +kernel
theorem dX6_sort_16 : decode cX6_sort 16 = .ok (.getfield 19, 3) := by decide +kernel
theorem dX6_sort_19 : decode cX6_sort 19 = .ok (.aload_n 0, 1) := by decide +kernel
theorem dX6_sort_20 : decode cX6_sort 20 = .ok (.getfield 10, 3) := by decide +kernel
theorem dX6_sort_23 : decode cX6_sort 23 = .ok (.invokevirtual 68, 3) := by decide +kernel
theorem dX6_sort_26 : decode cX6_sort 26 = .ok (.aload_n 0, 1) := by decide +kernel
theorem dX6_sort_27 : decode cX6_sort 27 = .ok (.getfield 33, 3) := by decide +kernel
theorem dX6_sort_30 : decode cX6_sort 30 = .ok (.aload_n 0, 1) := by decide +kernel
theorem dX6_sort_31 : decode cX6_sort 31 = .ok (.getfield 10, 3) := by decide +kernel
theorem dX6_sort_34 : decode cX6_sort 34 = .ok (.iload_n 1, 1) := by decide +kernel
theorem dX6_sort_35 : decode cX6_sort 35 = .ok (.iload_n 2, 1) := by decide +kernel
theorem dX6_sort_36 : decode cX6_sort 36 = .ok (.invokevirtual 100, 3) := by decide +kernel
theorem dX6_sort_39 : decode cX6_sort 39 = .ok (.aload_n 0, 1) := by decide +kernel
theorem dX6_sort_40 : decode cX6_sort 40 = .ok (.getfield 10, 3) := by decide +kernel
theorem dX6_sort_43 : decode cX6_sort 43 = .ok (.iload_n 1, 1) := by decide +kernel
theorem dX6_sort_44 : decode cX6_sort 44 = .ok (.iload_n 2, 1) := by decide +kernel
theorem dX6_sort_45 : decode cX6_sort 45 = .ok (.aload_n 0, 1) := by decide +kernel
theorem dX6_sort_46 : decode cX6_sort 46 = .ok (.getfield 33, 3) := by decide +kernel
theorem dX6_sort_49 : decode cX6_sort 49 = .ok (.invokevirtual 104, 3) := by decide +kernel
theorem dX6_sort_52 : decode cX6_sort 52 = .ok (.ireturn, 1) := by decide +kernel
theorem dX6_levelOf_0 : decode cX6_levelOf 0 = .ok (.iload_n 1, 1) := by decide +kernel
theorem dX6_levelOf_1 : decode cX6_levelOf 1 = .ok (.iconst 4, 1) := by decide +kernel
theorem dX6_levelOf_2 : decode cX6_levelOf 2 = .ok (.invokestatic 58, 3) := by decide +kernel
theorem dX6_levelOf_5 : decode cX6_levelOf 5 = .ok (.ifCond .eq 22, 3) := by decide +kernel
theorem dX6_levelOf_8 : decode cX6_levelOf 8 = .ok (.aload_n 0, 1) := by decide +kernel
theorem dX6_levelOf_9 : decode cX6_levelOf 9 = .ok (.getfield 10, 3) := by decide +kernel
theorem dX6_levelOf_12 : decode cX6_levelOf 12 = .ok (.iload_n 2, 1) := by decide +kernel
theorem dX6_levelOf_13 : decode cX6_levelOf 13 = .ok (.invokevirtual 76, 3) := by decide +kernel
theorem dX6_levelOf_16 : decode cX6_levelOf 16 = .ok (.ifCond .eq 11, 3) := by decide +kernel
theorem dX6_levelOf_19 : decode cX6_levelOf 19 = .ok (.iload_n 3, 1) := by decide +kernel
theorem dX6_levelOf_20 : decode cX6_levelOf 20 = .ok (.iconst 3, 1) := by decide +kernel
theorem dX6_levelOf_21 : decode cX6_levelOf 21 = .ok (.invokestatic 58, 3) := by decide +kernel
theorem dX6_levelOf_24 : decode cX6_levelOf 24 = .ok (.ifCond .ne 6, 3) := by decide +kernel
theorem dX6_levelOf_27 : decode cX6_levelOf 27 = .ok (.ldc 66, 2) := by decide +kernel
theorem dX6_levelOf_29 : decode cX6_levelOf 29 = .ok (.ireturn, 1) := by decide +kernel
theorem dX6_levelOf_30 : decode cX6_levelOf 30 = .ok (.iload_n 1, 1) := by decide +kernel
theorem dX6_levelOf_31 : decode cX6_levelOf 31 = .ok (.iconst 4, 1) := by decide +kernel
theorem dX6_levelOf_32 : decode cX6_levelOf 32 = .ok (.if_icmp .ne 16, 3) := by decide +kernel
theorem dX6_levelOf_35 : decode cX6_levelOf 35 = .ok (.iload_n 3, 1) := by decide +kernel
theorem dX6_levelOf_36 : decode cX6_levelOf 36 = .ok (.iconst 1, 1) := by decide +kernel
theorem dX6_levelOf_37 : decode cX6_levelOf 37 = .ok (.if_icmp .eq 8, 3) := by decide +kernel
theorem dX6_levelOf_40 : decode cX6_levelOf 40 = .ok (.iload_n 3, 1) := by decide +kernel
theorem dX6_levelOf_41 : decode cX6_levelOf 41 = .ok (.iconst 2, 1) := by decide +kernel
theorem dX6_levelOf_42 : decode cX6_levelOf 42 = .ok (.if_icmp .ne 6, 3) := by decide +kernel
theorem dX6_levelOf_45 : decode cX6_levelOf 45 = .ok (.ldc 108, 2) := by decide +kernel
theorem dX6_levelOf_47 : decode cX6_levelOf 47 = .ok (.ireturn, 1) := by decide +kernel
theorem dX6_levelOf_48 : decode cX6_levelOf 48 = .ok (.aload_n 0, 1) := by decide +kernel
theorem dX6_levelOf_49 : decode cX6_levelOf 49 = .ok (.getfield 26, 3) := by decide +kernel
theorem dX6_levelOf_52 : decode cX6_levelOf 52 = .ok (.aload_n 0, 1) := by decide +kernel
theorem dX6_levelOf_53 : decode cX6_levelOf 53 = .ok (.getfield 10, 3) := by decide +kernel
theorem dX6_levelOf_56 : decode cX6_levelOf 56 = .ok (.invokevirtual 109, 3) := by decide +kernel
theorem dX6_levelOf_59 : decode cX6_levelOf 59 = .ok (.iload_n 3, 1) := by decide +kernel
theorem dX6_levelOf_60 : decode cX6_levelOf 60 = .ok (.ifCond .ne 13, 3) := by decide +kernel
theorem dX6_levelOf_63 : decode cX6_levelOf 63 = .ok (.aload_n 0, 1) := by decide +kernel
theorem dX6_levelOf_64 : decode cX6_levelOf 64 = .ok (.getfield 26, 3) := by decide +kernel
theorem dX6_levelOf_67 : decode cX6_levelOf 67 = .ok (.iload_n 1, 1) := by decide +kernel
theorem dX6_levelOf_68 : decode cX6_levelOf 68 = .ok (.iload_n 2, 1) := by decide +kernel
theorem dX6_levelOf_69 : decode cX6_levelOf 69 = .ok (.invokevirtual 112, 3) := by decide +kernel
theorem dX6_levelOf_72 : decode cX6_levelOf 72 = .ok (.ireturn, 1) := by decide +kernel
theorem dX6_levelOf_73 : decode cX6_levelOf 73 = .ok (.iload_n 3, 1) := by decide +kernel
theorem dX6_levelOf_74 : decode cX6_levelOf 74 = .ok (.iconst 1, 1) := by decide +kernel
theorem dX6_levelOf_75 : decode cX6_levelOf 75 = .ok (.if_icmp .ne 13, 3) := by decide +kernel
theorem dX6_levelOf_78 : decode cX6_levelOf 78 = .ok (.aload_n 0, 1) := by decide +kernel
theorem dX6_levelOf_79 : decode cX6_levelOf 79 = .ok (.getfield 26, 3) := by decide +kernel
theorem dX6_levelOf_82 : decode cX6_levelOf 82 = .ok (.iload_n 1, 1) := by decide +kernel
theorem dX6_levelOf_83 : decode cX6_levelOf 83 = .ok (.iload_n 2, 1) := by decide +kernel
theorem dX6_levelOf_84 : decode cX6_levelOf 84 = .ok (.invokevirtual 115, 3) := by decide +kernel
theorem dX6_levelOf_87 : decode cX6_levelOf 87 = .ok (.ireturn, 1) := by decide +kernel
theorem dX6_levelOf_88 : decode cX6_levelOf 88 = .ok (.iload_n 3, 1) := by decide +kernel
theorem dX6_levelOf_89 : decode cX6_levelOf 89 = .ok (.iconst 2, 1) := by decide +kernel
theorem dX6_levelOf_90 : decode cX6_levelOf 90 = .ok (.if_icmp .ne 15, 3) := by decide +kernel
theorem dX6_levelOf_93 : decode cX6_levelOf 93 = .ok (.aload_n 0, 1) := by decide +kernel
theorem dX6_levelOf_94 : decode cX6_levelOf 94 = .ok (.getfield 26, 3) := by decide +kernel
theorem dX6_levelOf_97 : decode cX6_levelOf 97 = .ok (.iload_n 1, 1) := by decide +kernel
theorem dX6_levelOf_98 : decode cX6_levelOf 98 = .ok (.iload_n 2, 1) := by decide +kernel
theorem dX6_levelOf_99 : decode cX6_levelOf 99 = .ok (.invokevirtual 118, 3) := by decide +kernel
theorem dX6_levelOf_102 : decode cX6_levelOf 102 = .ok (.goto 12, 3) := by decide +kernel
theorem dX6_levelOf_105 : decode cX6_levelOf 105 = .ok (.aload_n 0, 1) := by decide +kernel
theorem dX6_levelOf_106 : decode cX6_levelOf 106 = .ok (.getfield 26, 3) := by decide +kernel
theorem dX6_levelOf_109 : decode cX6_levelOf 109 = .ok (.iload_n 1, 1) := by decide +kernel
theorem dX6_levelOf_110 : decode cX6_levelOf 110 = .ok (.iload_n 2, 1) := by decide +kernel
theorem dX6_levelOf_111 : decode cX6_levelOf 111 = .ok (.invokevirtual 121, 3) := by decide +kernel
theorem dX6_levelOf_114 : decode cX6_levelOf 114 = .ok (.ireturn, 1) := by decide +kernel
theorem dX6_blockOf_0 : decode cX6_blockOf 0 = .ok (.iload_n 1, 1) := by decide +kernel
theorem dX6_blockOf_1 : decode cX6_blockOf 1 = .ok (.invokestatic 124, 3) := by decide +kernel
theorem dX6_blockOf_4 : decode cX6_blockOf 4 = .ok (.ifCond .eq 15, 3) := by decide +kernel
theorem dX6_blockOf_7 : decode cX6_blockOf 7 = .ok (.iload_n 2, 1) := by decide +kernel
theorem dX6_blockOf_8 : decode cX6_blockOf 8 = .ok (.ifCond .lt 11, 3) := by decide +kernel
theorem dX6_blockOf_11 : decode cX6_blockOf 11 = .ok (.iload_n 3, 1) := by decide +kernel
theorem dX6_blockOf_12 : decode cX6_blockOf 12 = .ok (.iconst 2, 1) := by decide +kernel
theorem dX6_blockOf_13 : decode cX6_blockOf 13 = .ok (.invokestatic 58, 3) := by decide +kernel
theorem dX6_blockOf_16 : decode cX6_blockOf 16 = .ok (.ifCond .ne 6, 3) := by decide +kernel
theorem dX6_blockOf_19 : decode cX6_blockOf 19 = .ok (.ldc 66, 2) := by decide +kernel
theorem dX6_blockOf_21 : decode cX6_blockOf 21 = .ok (.ireturn, 1) := by decide +kernel
theorem dX6_blockOf_22 : decode cX6_blockOf 22 = .ok (.iload_n 2, 1) := by decide +kernel
theorem dX6_blockOf_23 : decode cX6_blockOf 23 = .ok (.aload_n 0, 1) := by decide +kernel
theorem dX6_blockOf_24 : decode cX6_blockOf 24 = .ok (.invokevirtual 127, 3) := by decide +kernel
theorem dX6_blockOf_27 : decode cX6_blockOf 27 = .ok (.if_icmp .lt 6, 3) := by decide +kernel
theorem dX6_blockOf_30 : decode cX6_blockOf 30 = .ok (.ldc 108, 2) := by decide +kernel
theorem dX6_blockOf_32 : decode cX6_blockOf 32 = .ok (.ireturn, 1) := by decide +kernel
theorem dX6_blockOf_33 : decode cX6_blockOf 33 = .ok (.aload_n 0, 1) := by decide +kernel
theorem dX6_blockOf_34 : decode cX6_blockOf 34 = .ok (.getfield 26, 3) := by decide +kernel
theorem dX6_blockOf_37 : decode cX6_blockOf 37 = .ok (.aload_n 0, 1) := by decide +kernel
theorem dX6_blockOf_38 : decode cX6_blockOf 38 = .ok (.getfield 10, 3) := by decide +kernel
theorem dX6_blockOf_41 : decode cX6_blockOf 41 = .ok (.invokevirtual 109, 3) := by decide +kernel
theorem dX6_blockOf_44 : decode cX6_blockOf 44 = .ok (.iload_n 2, 1) := by decide +kernel
theorem dX6_blockOf_45 : decode cX6_blockOf 45 = .ok (.bipush 8, 2) := by decide +kernel
theorem dX6_blockOf_47 : decode cX6_blockOf 47 = .ok (.imul, 1) := by decide +kernel
theorem dX6_blockOf_48 : decode cX6_blockOf 48 = .ok (.istore 4, 2) := by decide +kernel
theorem dX6_blockOf_50 : decode cX6_blockOf 50 = .ok (.iload 4, 2) := by decide +kernel
theorem dX6_blockOf_52 : decode cX6_blockOf 52 = .ok (.bipush 8, 2) := by decide +kernel
theorem dX6_blockOf_54 : decode cX6_blockOf 54 = .ok (.iadd, 1) := by decide +kernel
theorem dX6_blockOf_55 : decode cX6_blockOf 55 = .ok (.aload_n 0, 1) := by decide +kernel
theorem dX6_blockOf_56 : decode cX6_blockOf 56 = .ok (.getfield 10, 3) := by decide +kernel
theorem dX6_blockOf_59 : decode cX6_blockOf 59 = .ok (.invokevirtual 54, 3) := by decide +kernel
theorem dX6_blockOf_62 : decode cX6_blockOf 62 = .ok (.invokestatic 130, 3) := by decide +kernel
theorem dX6_blockOf_65 : decode cX6_blockOf 65 = .ok (.istore 5, 2) := by decide +kernel
theorem dX6_blockOf_67 : decode cX6_blockOf 67 = .ok (.iload_n 3, 1) := by decide +kernel
theorem dX6_blockOf_68 : decode cX6_blockOf 68 = .ok (.ifCond .ne 17, 3) := by decide +kernel
theorem dX6_blockOf_71 : decode cX6_blockOf 71 = .ok (.aload_n 0, 1) := by decide +kernel
theorem dX6_blockOf_72 : decode cX6_blockOf 72 = .ok (.getfield 26, 3) := by decide +kernel
theorem dX6_blockOf_75 : decode cX6_blockOf 75 = .ok (.iload_n 1, 1) := by decide +kernel
theorem dX6_blockOf_76 : decode cX6_blockOf 76 = .ok (.iload 4, 2) := by decide +kernel
theorem dX6_blockOf_78 : decode cX6_blockOf 78 = .ok (.iload 5, 2) := by decide +kernel
theorem dX6_blockOf_80 : decode cX6_blockOf 80 = .ok (.invokevirtual 135, 3) := by decide +kernel
theorem dX6_blockOf_83 : decode cX6_blockOf 83 = .ok (.l2i, 1) := by decide +kernel
theorem dX6_blockOf_84 : decode cX6_blockOf 84 = .ok (.ireturn, 1) := by decide +kernel
theorem dX6_blockOf_85 : decode cX6_blockOf 85 = .ok (.iload_n 3, 1) := by decide +kernel
theorem dX6_blockOf_86 : decode cX6_blockOf 86 = .ok (.iconst 1, 1) := by decide +kernel
theorem dX6_blockOf_87 : decode cX6_blockOf 87 = .ok (.if_icmp .ne 18, 3) := by decide +kernel
theorem dX6_blockOf_90 : decode cX6_blockOf 90 = .ok (.aload_n 0, 1) := by decide +kernel
theorem dX6_blockOf_91 : decode cX6_blockOf 91 = .ok (.getfield 26, 3) := by decide +kernel
theorem dX6_blockOf_94 : decode cX6_blockOf 94 = .ok (.iload_n 1, 1) := by decide +kernel
theorem dX6_blockOf_95 : decode cX6_blockOf 95 = .ok (.iload 4, 2) := by decide +kernel
theorem dX6_blockOf_97 : decode cX6_blockOf 97 = .ok (.iload 5, 2) := by decide +kernel
theorem dX6_blockOf_99 : decode cX6_blockOf 99 = .ok (.invokevirtual 139, 3) := by decide +kernel
theorem dX6_blockOf_102 : decode cX6_blockOf 102 = .ok (.goto 14, 3) := by decide +kernel
theorem dX6_blockOf_105 : decode cX6_blockOf 105 = .ok (.aload_n 0, 1) := by decide +kernel
theorem dX6_blockOf_106 : decode cX6_blockOf 106 = .ok (.getfield 26, 3) := by decide +kernel
theorem dX6_blockOf_109 : decode cX6_blockOf 109 = .ok (.iload_n 1, 1) := by decide +kernel
theorem dX6_blockOf_110 : decode cX6_blockOf 110 = .ok (.iconst 0, 1) := by decide +kernel
theorem dX6_blockOf_111 : decode cX6_blockOf 111 = .ok (.iload 4, 2) := by decide +kernel
theorem dX6_blockOf_113 : decode cX6_blockOf 113 = .ok (.invokevirtual 139, 3) := by decide +kernel
theorem dX6_blockOf_116 : decode cX6_blockOf 116 = .ok (.ireturn, 1) := by decide +kernel
theorem dX6_bits_0 : decode cX6_bits 0 = .ok (.iload_n 1, 1) := by decide +kernel
theorem dX6_bits_1 : decode cX6_bits 1 = .ok (.invokestatic 124, 3) := by decide +kernel
theorem dX6_bits_4 : decode cX6_bits 4 = .ok (.ifCond .ne 7, 3) := by decide +kernel
theorem dX6_bits_7 : decode cX6_bits 7 = .ok (.ldc2_w 143, 3) := by decide +kernel
theorem dX6_bits_10 : decode cX6_bits 10 = .ok (.lreturn, 1) := by decide +kernel
theorem dX6_bits_11 : decode cX6_bits 11 = .ok (.aload_n 0, 1) := by decide +kernel
theorem dX6_bits_12 : decode cX6_bits 12 = .ok (.getfield 26, 3) := by decide +kernel
theorem dX6_bits_15 : decode cX6_bits 15 = .ok (.aload_n 0, 1) := by decide +kernel
theorem dX6_bits_16 : decode cX6_bits 16 = .ok (.getfield 10, 3) := by decide +kernel
theorem dX6_bits_19 : decode cX6_bits 19 = .ok (.invokevirtual 109, 3) := by decide +kernel
theorem dX6_bits_22 : decode cX6_bits 22 = .ok (.aload_n 0, 1) := by decide +kernel
theorem dX6_bits_23 : decode cX6_bits 23 = .ok (.getfield 26, 3) := by decide +kernel
theorem dX6_bits_26 : decode cX6_bits 26 = .ok (.iload_n 1, 1) := by decide +kernel
theorem dX6_bits_27 : decode cX6_bits 27 = .ok (.iconst 0, 1) := by decide +kernel
theorem dX6_bits_28 : decode cX6_bits 28 = .ok (.aload_n 0, 1) := by decide +kernel
theorem dX6_bits_29 : decode cX6_bits 29 = .ok (.getfield 10, 3) := by decide +kernel
theorem dX6_bits_32 : decode cX6_bits 32 = .ok (.invokevirtual 54, 3) := by decide +kernel
theorem dX6_bits_35 : decode cX6_bits 35 = .ok (.invokevirtual 135, 3) := by decide +kernel
theorem dX6_bits_38 : decode cX6_bits 38 = .ok (.lreturn, 1) := by decide +kernel
theorem dX6_symbolAt_0 : decode cX6_symbolAt 0 = .ok (.iload_n 1, 1) := by decide +kernel
theorem dX6_symbolAt_1 : decode cX6_symbolAt 1 = .ok (.ifCond .ge 6, 3) := by decide +kernel
theorem dX6_symbolAt_4 : decode cX6_symbolAt 4 = .ok (.ldc 66, 2) := by decide +kernel
theorem dX6_symbolAt_6 : decode cX6_symbolAt 6 = .ok (.ireturn, 1) := by decide +kernel
theorem dX6_symbolAt_7 : decode cX6_symbolAt 7 = .ok (.aload_n 0, 1) := by decide +kernel
theorem dX6_symbolAt_8 : decode cX6_symbolAt 8 = .ok (.getfield 10, 3) := by decide +kernel
theorem dX6_symbolAt_11 : decode cX6_symbolAt 11 = .ok (.iload_n 1, 1) := by decide +kernel
theorem dX6_symbolAt_12 : decode cX6_symbolAt 12 = .ok (.invokevirtual 76, 3) := by decide +kernel
theorem dX6_symbolAt_15 : decode cX6_symbolAt 15 = .ok (.ifCond .eq 14, 3) := by decide +kernel
theorem dX6_symbolAt_18 : decode cX6_symbolAt 18 = .ok (.aload_n 0, 1) := by decide +kernel
theorem dX6_symbolAt_19 : decode cX6_symbolAt 19 = .ok (.getfield 10, 3) := by decide +kernel
theorem dX6_symbolAt_22 : decode cX6_symbolAt 22 = .ok (.iload_n 1, 1) := by decide +kernel
theorem dX6_symbolAt_23 : decode cX6_symbolAt 23 = .ok (.invokevirtual 79, 3) := by decide +kernel
theorem dX6_symbolAt_26 : decode cX6_symbolAt 26 = .ok (.goto 5, 3) := by decide +kernel
theorem dX6_symbolAt_29 : decode cX6_symbolAt 29 = .ok (.ldc 108, 2) := by decide +kernel
theorem dX6_symbolAt_31 : decode cX6_symbolAt 31 = .ok (.ireturn, 1) := by decide +kernel
theorem dX6_rank_0 : decode cX6_rank 0 = .ok (.iload_n 1, 1) := by decide +kernel
theorem dX6_rank_1 : decode cX6_rank 1 = .ok (.invokestatic 62, 3) := by decide +kernel
theorem dX6_rank_4 : decode cX6_rank 4 = .ok (.ifCond .eq 17, 3) := by decide +kernel
theorem dX6_rank_7 : decode cX6_rank 7 = .ok (.iload_n 2, 1) := by decide +kernel
theorem dX6_rank_8 : decode cX6_rank 8 = .ok (.aload_n 0, 1) := by decide +kernel
theorem dX6_rank_9 : decode cX6_rank 9 = .ok (.getfield 10, 3) := by decide +kernel
theorem dX6_rank_12 : decode cX6_rank 12 = .ok (.invokevirtual 54, 3) := by decide +kernel
theorem dX6_rank_15 : decode cX6_rank 15 = .ok (.invokestatic 58, 3) := by decide +kernel
theorem dX6_rank_18 : decode cX6_rank 18 = .ok (.ifCond .ne 6, 3) := by decide +kernel
theorem dX6_rank_21 : decode cX6_rank 21 = .ok (.ldc 66, 2) := by decide +kernel
theorem dX6_rank_23 : decode cX6_rank 23 = .ok (.ireturn, 1) := by decide +kernel
theorem dX6_rank_24 : decode cX6_rank 24 = .ok (.aload_n 0, 1) := by decide +kernel
theorem dX6_rank_25 : decode cX6_rank 25 = .ok (.getfield 33, 3) := by decide +kernel
theorem dX6_rank_28 : decode cX6_rank 28 = .ok (.aload_n 0, 1) := by decide +kernel
theorem dX6_rank_29 : decode cX6_rank 29 = .ok (.getfield 10, 3) := by decide +kernel
theorem dX6_rank_32 : decode cX6_rank 32 = .ok (.iconst 0, 1) := by decide +kernel
theorem dX6_rank_33 : decode cX6_rank 33 = .ok (.iload_n 2, 1) := by decide +kernel
theorem dX6_rank_34 : decode cX6_rank 34 = .ok (.invokevirtual 100, 3) := by decide +kernel
theorem dX6_rank_37 : decode cX6_rank 37 = .ok (.aload_n 0, 1) := by decide +kernel
theorem dX6_rank_38 : decode cX6_rank 38 = .ok (.getfield 33, 3) := by decide +kernel
theorem dX6_rank_41 : decode cX6_rank 41 = .ok (.iload_n 1, 1) := by decide +kernel
theorem dX6_rank_42 : decode cX6_rank 42 = .ok (.invokevirtual 145, 3) := by decide +kernel
theorem dX6_rank_45 : decode cX6_rank 45 = .ok (.ireturn, 1) := by decide +kernel
theorem dX6_select_0 : decode cX6_select 0 = .ok (.iload_n 1, 1) := by decide +kernel
theorem dX6_select_1 : decode cX6_select 1 = .ok (.invokestatic 62, 3) := by decide +kernel
theorem dX6_select_4 : decode cX6_select 4 = .ok (.ifCond .eq 7, 3) := by decide +kernel
theorem dX6_select_7 : decode cX6_select 7 = .ok (.iload_n 2, 1) := by decide +kernel
theorem dX6_select_8 : decode cX6_select 8 = .ok (.ifCond .ge 6, 3) := by decide +kernel
theorem dX6_select_11 : decode cX6_select 11 = .ok (.ldc 66, 2) := by decide +kernel
theorem dX6_select_13 : decode cX6_select 13 = .ok (.ireturn, 1) := by decide +kernel
theorem dX6_select_14 : decode cX6_select 14 = .ok (.iconst 0, 1) := by decide +kernel
theorem dX6_select_15 : decode cX6_select 15 = .ok (.istore_n 3, 1) := by decide +kernel
theorem dX6_select_16 : decode cX6_select 16 = .ok (.iconst 0, 1) := by decide +kernel
theorem dX6_select_17 : decode cX6_select 17 = .ok (.istore 4, 2) := by decide +kernel
theorem dX6_select_19 : decode cX6_select 19 = .ok (.iload 4, 2) := by decide +kernel
theorem dX6_select_21 : decode cX6_select 21 = .ok (.aload_n 0, 1) := by decide +kernel
theorem dX6_select_22 : decode cX6_select 22 = .ok (.getfield 10, 3) := by decide +kernel
theorem dX6_select_25 : decode cX6_select 25 = .ok (.invokevirtual 54, 3) := by decide +kernel
theorem dX6_select_28 : decode cX6_select 28 = .ok (.if_icmp .ge 33, 3) := by decide +kernel
theorem dX6_select_31 : decode cX6_select 31 = .ok (.aload_n 0, 1) := by decide +kernel
theorem dX6_select_32 : decode cX6_select 32 = .ok (.getfield 10, 3) := by decide +kernel
theorem dX6_select_35 : decode cX6_select 35 = .ok (.iload 4, 2) := by decide +kernel
theorem dX6_select_37 : decode cX6_select 37 = .ok (.invokevirtual 79, 3) := by decide +kernel
theorem dX6_select_40 : decode cX6_select 40 = .ok (.iload_n 1, 1) := by decide +kernel
theorem dX6_select_41 : decode cX6_select 41 = .ok (.if_icmp .ne 14, 3) := by decide +kernel
theorem dX6_select_44 : decode cX6_select 44 = .ok (.iload_n 3, 1) := by decide +kernel
theorem dX6_select_45 : decode cX6_select 45 = .ok (.iload_n 2, 1) := by decide +kernel
theorem dX6_select_46 : decode cX6_select 46 = .ok (.if_icmp .ne 6, 3) := by decide +kernel
theorem dX6_select_49 : decode cX6_select 49 = .ok (.iload 4, 2) := by decide +kernel
theorem dX6_select_51 : decode cX6_select 51 = .ok (.ireturn, 1) := by decide +kernel
theorem dX6_select_52 : decode cX6_select 52 = .ok (.iinc 3 1, 3) := by decide +kernel
theorem dX6_select_55 : decode cX6_select 55 = .ok (.iinc 4 1, 3) := by decide +kernel
theorem dX6_select_58 : decode cX6_select 58 = .ok (.goto (-39), 3) := by decide +kernel
theorem dX6_select_61 : decode cX6_select 61 = .ok (.ldc 108, 2) := by decide +kernel
theorem dX6_select_63 : decode cX6_select 63 = .ok (.ireturn, 1) := by decide +kernel
theorem dX6_smallest_0 : decode cX6_smallest 0 = .ok (.aload_n 0, 1) := by decide +kernel
theorem dX6_smallest_1 : decode cX6_smallest 1 = .ok (.getfield 10, 3) := by decide +kernel
theorem dX6_smallest_4 : decode cX6_smallest 4 = .ok (.iload_n 1, 1) := by decide +kernel
theorem dX6_smallest_5 : decode cX6_smallest 5 = .ok (.iload_n 2, 1) := by decide +kernel
theorem dX6_smallest_6 : decode cX6_smallest 6 = .ok (.invokevirtual 93, 3) := by decide +kernel
theorem dX6_smallest_9 : decode cX6_smallest 9 = .ok (.ifCond .eq 7, 3) := by decide +kernel
theorem dX6_smallest_12 : decode cX6_smallest 12 = .ok (.iload_n 3, 1) := by decide +kernel
theorem dX6_smallest_13 : decode cX6_smallest 13 = .ok (.ifCond .ge 6, 3) := by decide +kernel
theorem dX6_smallest_16 : decode cX6_smallest 16 = .ok (.ldc 66, 2) := by decide +kernel
theorem dX6_smallest_18 : decode cX6_smallest 18 = .ok (.ireturn, 1) := by decide +kernel
theorem dX6_smallest_19 : decode cX6_smallest 19 = .ok (.aload_n 0, 1) := by decide +kernel
theorem dX6_smallest_20 : decode cX6_smallest 20 = .ok (.getfield 33, 3) := by decide +kernel
theorem dX6_smallest_23 : decode cX6_smallest 23 = .ok (.aload_n 0, 1) := by decide +kernel
theorem dX6_smallest_24 : decode cX6_smallest 24 = .ok (.getfield 10, 3) := by decide +kernel
theorem dX6_smallest_27 : decode cX6_smallest 27 = .ok (.iload_n 1, 1) := by decide +kernel
theorem dX6_smallest_28 : decode cX6_smallest 28 = .ok (.iload_n 2, 1) := by decide +kernel
theorem dX6_smallest_29 : decode cX6_smallest 29 = .ok (.invokevirtual 100, 3) := by decide +kernel
theorem dX6_smallest_32 : decode cX6_smallest 32 = .ok (.aload_n 0, 1) := by decide +kernel
theorem dX6_smallest_33 : decode cX6_smallest 33 = .ok (.getfield 33, 3) := by decide +kernel
theorem dX6_smallest_36 : decode cX6_smallest 36 = .ok (.iload_n 3, 1) := by decide +kernel
theorem dX6_smallest_37 : decode cX6_smallest 37 = .ok (.invokevirtual 148, 3) := by decide +kernel
theorem dX6_smallest_40 : decode cX6_smallest 40 = .ok (.invokestatic 151, 3) := by decide +kernel
theorem dX6_smallest_43 : decode cX6_smallest 43 = .ok (.ireturn, 1) := by decide +kernel
theorem dX6_below_0 : decode cX6_below 0 = .ok (.aload_n 0, 1) := by decide +kernel
theorem dX6_below_1 : decode cX6_below 1 = .ok (.getfield 10, 3) := by decide +kernel
theorem dX6_below_4 : decode cX6_below 4 = .ok (.iload_n 1, 1) := by decide +kernel
theorem dX6_below_5 : decode cX6_below 5 = .ok (.iload_n 2, 1) := by decide +kernel
theorem dX6_below_6 : decode cX6_below 6 = .ok (.invokevirtual 93, 3) := by decide +kernel
theorem dX6_below_9 : decode cX6_below 9 = .ok (.ifCond .eq 12, 3) := by decide +kernel
theorem dX6_below_12 : decode cX6_below 12 = .ok (.iload_n 3, 1) := by decide +kernel
theorem dX6_below_13 : decode cX6_below 13 = .ok (.bipush 16, 2) := by decide +kernel
theorem dX6_below_15 : decode cX6_below 15 = .ok (.invokestatic 58, 3) := by decide +kernel
theorem dX6_below_18 : decode cX6_below 18 = .ok (.ifCond .ne 6, 3) := by decide +kernel
theorem dX6_below_21 : decode cX6_below 21 = .ok (.ldc 66, 2) := by decide +kernel
theorem dX6_below_23 : decode cX6_below 23 = .ok (.ireturn, 1) := by decide +kernel
theorem dX6_below_24 : decode cX6_below 24 = .ok (.aload_n 0, 1) := by decide +kernel
theorem dX6_below_25 : decode cX6_below 25 = .ok (.getfield 33, 3) := by decide +kernel
theorem dX6_below_28 : decode cX6_below 28 = .ok (.aload_n 0, 1) := by decide +kernel
theorem dX6_below_29 : decode cX6_below 29 = .ok (.getfield 10, 3) := by decide +kernel
theorem dX6_below_32 : decode cX6_below 32 = .ok (.iload_n 1, 1) := by decide +kernel
theorem dX6_below_33 : decode cX6_below 33 = .ok (.iload_n 2, 1) := by decide +kernel
theorem dX6_below_34 : decode cX6_below 34 = .ok (.invokevirtual 100, 3) := by decide +kernel
theorem dX6_below_37 : decode cX6_below 37 = .ok (.aload_n 0, 1) := by decide +kernel
theorem dX6_below_38 : decode cX6_below 38 = .ok (.getfield 33, 3) := by decide +kernel
theorem dX6_below_41 : decode cX6_below 41 = .ok (.iload_n 3, 1) := by decide +kernel
theorem dX6_below_42 : decode cX6_below 42 = .ok (.invokevirtual 154, 3) := by decide +kernel
theorem dX6_below_45 : decode cX6_below 45 = .ok (.ireturn, 1) := by decide +kernel
theorem dX6_notBelow_0 : decode cX6_notBelow 0 = .ok (.aload_n 0, 1) := by decide +kernel
theorem dX6_notBelow_1 : decode cX6_notBelow 1 = .ok (.getfield 10, 3) := by decide +kernel
theorem dX6_notBelow_4 : decode cX6_notBelow 4 = .ok (.iload_n 1, 1) := by decide +kernel
theorem dX6_notBelow_5 : decode cX6_notBelow 5 = .ok (.iload_n 2, 1) := by decide +kernel
theorem dX6_notBelow_6 : decode cX6_notBelow 6 = .ok (.invokevirtual 93, 3) := by decide +kernel
theorem dX6_notBelow_9 : decode cX6_notBelow 9 = .ok (.ifCond .eq 10, 3) := by decide +kernel
theorem dX6_notBelow_12 : decode cX6_notBelow 12 = .ok (.iload_n 3, 1) := by decide +kernel
theorem dX6_notBelow_13 : decode cX6_notBelow 13 = .ok (.invokestatic 62, 3) := by decide +kernel
theorem dX6_notBelow_16 : decode cX6_notBelow 16 = .ok (.ifCond .ne 6, 3) := by decide +kernel
theorem dX6_notBelow_19 : decode cX6_notBelow 19 = .ok (.ldc 66, 2) := by decide +kernel
theorem dX6_notBelow_21 : decode cX6_notBelow 21 = .ok (.ireturn, 1) := by decide +kernel
theorem dX6_notBelow_22 : decode cX6_notBelow 22 = .ok (.aload_n 0, 1) := by decide +kernel
theorem dX6_notBelow_23 : decode cX6_notBelow 23 = .ok (.getfield 33, 3) := by decide +kernel
theorem dX6_notBelow_26 : decode cX6_notBelow 26 = .ok (.aload_n 0, 1) := by decide +kernel
theorem dX6_notBelow_27 : decode cX6_notBelow 27 = .ok (.getfield 10, 3) := by decide +kernel
theorem dX6_notBelow_30 : decode cX6_notBelow 30 = .ok (.iload_n 1, 1) := by decide +kernel
theorem dX6_notBelow_31 : decode cX6_notBelow 31 = .ok (.iload_n 2, 1) := by decide +kernel
theorem dX6_notBelow_32 : decode cX6_notBelow 32 = .ok (.invokevirtual 100, 3) := by decide +kernel
theorem dX6_notBelow_35 : decode cX6_notBelow 35 = .ok (.aload_n 0, 1) := by decide +kernel
theorem dX6_notBelow_36 : decode cX6_notBelow 36 = .ok (.getfield 33, 3) := by decide +kernel
theorem dX6_notBelow_39 : decode cX6_notBelow 39 = .ok (.iload_n 3, 1) := by decide +kernel
theorem dX6_notBelow_40 : decode cX6_notBelow 40 = .ok (.invokevirtual 157, 3) := by decide +kernel
theorem dX6_notBelow_43 : decode cX6_notBelow 43 = .ok (.invokestatic 151, 3) := by decide +kernel
theorem dX6_notBelow_46 : decode cX6_notBelow 46 = .ok (.ireturn, 1) := by decide +kernel
theorem dX6_spanOf_0 : decode cX6_spanOf 0 = .ok (.aload_n 0, 1) := by decide +kernel
theorem dX6_spanOf_1 : decode cX6_spanOf 1 = .ok (.getfield 10, 3) := by decide +kernel
theorem dX6_spanOf_4 : decode cX6_spanOf 4 = .ok (.iload_n 1, 1) := by decide +kernel
theorem dX6_spanOf_5 : decode cX6_spanOf 5 = .ok (.iload_n 2, 1) := by decide +kernel
theorem dX6_spanOf_6 : decode cX6_spanOf 6 = .ok (.invokevirtual 93, 3) := by decide +kernel
theorem dX6_spanOf_9 : decode cX6_spanOf 9 = .ok (.ifCond .eq 11, 3) := by decide +kernel
theorem dX6_spanOf_12 : decode cX6_spanOf 12 = .ok (.iload_n 3, 1) := by decide +kernel
theorem dX6_spanOf_13 : decode cX6_spanOf 13 = .ok (.iconst 5, 1) := by decide +kernel
theorem dX6_spanOf_14 : decode cX6_spanOf 14 = .ok (.invokestatic 58, 3) := by decide +kernel
theorem dX6_spanOf_17 : decode cX6_spanOf 17 = .ok (.ifCond .ne 6, 3) := by decide +kernel
theorem dX6_spanOf_20 : decode cX6_spanOf 20 = .ok (.ldc 66, 2) := by decide +kernel
theorem dX6_spanOf_22 : decode cX6_spanOf 22 = .ok (.ireturn, 1) := by decide +kernel
theorem dX6_spanOf_23 : decode cX6_spanOf 23 = .ok (.iload_n 3, 1) := by decide +kernel
theorem dX6_spanOf_24 : decode cX6_spanOf 24 = .ok (.iconst 3, 1) := by decide +kernel
theorem dX6_spanOf_25 : decode cX6_spanOf 25 = .ok (.if_icmp .ne 13, 3) := by decide +kernel
theorem dX6_spanOf_28 : decode cX6_spanOf 28 = .ok (.aload_n 0, 1) := by decide +kernel
theorem dX6_spanOf_29 : decode cX6_spanOf 29 = .ok (.getfield 10, 3) := by decide +kernel
theorem dX6_spanOf_32 : decode cX6_spanOf 32 = .ok (.iload_n 1, 1) := by decide +kernel
theorem dX6_spanOf_33 : decode cX6_spanOf 33 = .ok (.iload_n 2, 1) := by decide +kernel
theorem dX6_spanOf_34 : decode cX6_spanOf 34 = .ok (.invokevirtual 160, 3) := by decide +kernel
theorem dX6_spanOf_37 : decode cX6_spanOf 37 = .ok (.ireturn, 1) := by decide +kernel
theorem dX6_spanOf_38 : decode cX6_spanOf 38 = .ok (.iload_n 3, 1) := by decide +kernel
theorem dX6_spanOf_39 : decode cX6_spanOf 39 = .ok (.iconst 4, 1) := by decide +kernel
theorem dX6_spanOf_40 : decode cX6_spanOf 40 = .ok (.if_icmp .ne 21, 3) := by decide +kernel
theorem dX6_spanOf_43 : decode cX6_spanOf 43 = .ok (.aload_n 0, 1) := by decide +kernel
theorem dX6_spanOf_44 : decode cX6_spanOf 44 = .ok (.getfield 10, 3) := by decide +kernel
theorem dX6_spanOf_47 : decode cX6_spanOf 47 = .ok (.iload_n 1, 1) := by decide +kernel
theorem dX6_spanOf_48 : decode cX6_spanOf 48 = .ok (.iload_n 2, 1) := by decide +kernel
theorem dX6_spanOf_49 : decode cX6_spanOf 49 = .ok (.invokevirtual 163, 3) := by decide +kernel
theorem dX6_spanOf_52 : decode cX6_spanOf 52 = .ok (.ifCond .ne 7, 3) := by decide +kernel
theorem dX6_spanOf_55 : decode cX6_spanOf 55 = .ok (.iconst 1, 1) := by decide +kernel
theorem dX6_spanOf_56 : decode cX6_spanOf 56 = .ok (.goto 4, 3) := by decide +kernel
theorem dX6_spanOf_59 : decode cX6_spanOf 59 = .ok (.iconst 0, 1) := by decide +kernel
theorem dX6_spanOf_60 : decode cX6_spanOf 60 = .ok (.ireturn, 1) := by decide +kernel
theorem dX6_spanOf_61 : decode cX6_spanOf 61 = .ok (.iload_n 3, 1) := by decide +kernel
theorem dX6_spanOf_62 : decode cX6_spanOf 62 = .ok (.iconst 5, 1) := by decide +kernel
theorem dX6_spanOf_63 : decode cX6_spanOf 63 = .ok (.if_icmp .ne 13, 3) := by decide +kernel
theorem dX6_spanOf_66 : decode cX6_spanOf 66 = .ok (.aload_n 0, 1) := by decide +kernel
theorem dX6_spanOf_67 : decode cX6_spanOf 67 = .ok (.getfield 10, 3) := by decide +kernel
theorem dX6_spanOf_70 : decode cX6_spanOf 70 = .ok (.iload_n 1, 1) := by decide +kernel
theorem dX6_spanOf_71 : decode cX6_spanOf 71 = .ok (.iload_n 2, 1) := by decide +kernel
theorem dX6_spanOf_72 : decode cX6_spanOf 72 = .ok (.invokevirtual 163, 3) := by decide +kernel
theorem dX6_spanOf_75 : decode cX6_spanOf 75 = .ok (.ireturn, 1) := by decide +kernel
theorem dX6_spanOf_76 : decode cX6_spanOf 76 = .ok (.aload_n 0, 1) := by decide +kernel
theorem dX6_spanOf_77 : decode cX6_spanOf 77 = .ok (.getfield 33, 3) := by decide +kernel
theorem dX6_spanOf_80 : decode cX6_spanOf 80 = .ok (.aload_n 0, 1) := by decide +kernel
theorem dX6_spanOf_81 : decode cX6_spanOf 81 = .ok (.getfield 10, 3) := by decide +kernel
theorem dX6_spanOf_84 : decode cX6_spanOf 84 = .ok (.iload_n 1, 1) := by decide +kernel
theorem dX6_spanOf_85 : decode cX6_spanOf 85 = .ok (.iload_n 2, 1) := by decide +kernel
theorem dX6_spanOf_86 : decode cX6_spanOf 86 = .ok (.invokevirtual 100, 3) := by decide +kernel
theorem dX6_spanOf_89 : decode cX6_spanOf 89 = .ok (.iload_n 3, 1) := by decide +kernel
theorem dX6_spanOf_90 : decode cX6_spanOf 90 = .ok (.ifCond .ne 11, 3) := by decide +kernel
theorem dX6_spanOf_93 : decode cX6_spanOf 93 = .ok (.aload_n 0, 1) := by decide +kernel
theorem dX6_spanOf_94 : decode cX6_spanOf 94 = .ok (.getfield 33, 3) := by decide +kernel
theorem dX6_spanOf_97 : decode cX6_spanOf 97 = .ok (.invokevirtual 166, 3) := by decide +kernel
theorem dX6_spanOf_100 : decode cX6_spanOf 100 = .ok (.ireturn, 1) := by decide +kernel
theorem dX6_spanOf_101 : decode cX6_spanOf 101 = .ok (.aload_n 0, 1) := by decide +kernel
theorem dX6_spanOf_102 : decode cX6_spanOf 102 = .ok (.getfield 33, 3) := by decide +kernel
theorem dX6_spanOf_105 : decode cX6_spanOf 105 = .ok (.invokevirtual 169, 3) := by decide +kernel
theorem dX6_spanOf_108 : decode cX6_spanOf 108 = .ok (.istore 4, 2) := by decide +kernel
theorem dX6_spanOf_110 : decode cX6_spanOf 110 = .ok (.iload 4, 2) := by decide +kernel
theorem dX6_spanOf_112 : decode cX6_spanOf 112 = .ok (.iconst (-1), 1) := by decide +kernel
theorem dX6_spanOf_113 : decode cX6_spanOf 113 = .ok (.if_icmp .ne 6, 3) := by decide +kernel
theorem dX6_spanOf_116 : decode cX6_spanOf 116 = .ok (.ldc 108, 2) := by decide +kernel
theorem dX6_spanOf_118 : decode cX6_spanOf 118 = .ok (.ireturn, 1) := by decide +kernel
theorem dX6_spanOf_119 : decode cX6_spanOf 119 = .ok (.iload_n 3, 1) := by decide +kernel
theorem dX6_spanOf_120 : decode cX6_spanOf 120 = .ok (.iconst 1, 1) := by decide +kernel
theorem dX6_spanOf_121 : decode cX6_spanOf 121 = .ok (.if_icmp .ne 8, 3) := by decide +kernel
theorem dX6_spanOf_124 : decode cX6_spanOf 124 = .ok (.iload 4, 2) := by decide +kernel
theorem dX6_spanOf_126 : decode cX6_spanOf 126 = .ok (.goto 12, 3) := by decide +kernel
theorem dX6_spanOf_129 : decode cX6_spanOf 129 = .ok (.aload_n 0, 1) := by decide +kernel
theorem dX6_spanOf_130 : decode cX6_spanOf 130 = .ok (.getfield 33, 3) := by decide +kernel
theorem dX6_spanOf_133 : decode cX6_spanOf 133 = .ok (.iload 4, 2) := by decide +kernel
theorem dX6_spanOf_135 : decode cX6_spanOf 135 = .ok (.invokevirtual 145, 3) := by decide +kernel
theorem dX6_spanOf_138 : decode cX6_spanOf 138 = .ok (.ireturn, 1) := by decide +kernel
theorem dX6_product_0 : decode cX6_product 0 = .ok (.aload_n 0, 1) := by decide +kernel
theorem dX6_product_1 : decode cX6_product 1 = .ok (.getfield 10, 3) := by decide +kernel
theorem dX6_product_4 : decode cX6_product 4 = .ok (.iload_n 1, 1) := by decide +kernel
theorem dX6_product_5 : decode cX6_product 5 = .ok (.iload_n 2, 1) := by decide +kernel
theorem dX6_product_6 : decode cX6_product 6 = .ok (.invokevirtual 93, 3) := by decide +kernel
theorem dX6_product_9 : decode cX6_product 9 = .ok (.ifCond .ne 7, 3) := by decide +kernel
theorem dX6_product_12 : decode cX6_product 12 = .ok (.ldc2_w 143, 3) := by decide +kernel
theorem dX6_product_15 : decode cX6_product 15 = .ok (.lreturn, 1) := by decide +kernel
theorem dX6_product_16 : decode cX6_product 16 = .ok (.lconst 1, 1) := by decide +kernel
theorem dX6_product_17 : decode cX6_product 17 = .ok (.lstore_n 3, 1) := by decide +kernel
theorem dX6_product_18 : decode cX6_product 18 = .ok (.iload_n 1, 1) := by decide +kernel
theorem dX6_product_19 : decode cX6_product 19 = .ok (.istore 5, 2) := by decide +kernel
theorem dX6_product_21 : decode cX6_product 21 = .ok (.iload 5, 2) := by decide +kernel
theorem dX6_product_23 : decode cX6_product 23 = .ok (.iload_n 2, 1) := by decide +kernel
theorem dX6_product_24 : decode cX6_product 24 = .ok (.if_icmp .ge 49, 3) := by decide +kernel
theorem dX6_product_27 : decode cX6_product 27 = .ok (.aload_n 0, 1) := by decide +kernel
theorem dX6_product_28 : decode cX6_product 28 = .ok (.getfield 10, 3) := by decide +kernel
theorem dX6_product_31 : decode cX6_product 31 = .ok (.iload 5, 2) := by decide +kernel
theorem dX6_product_33 : decode cX6_product 33 = .ok (.invokevirtual 79, 3) := by decide +kernel
theorem dX6_product_36 : decode cX6_product 36 = .ok (.iconst 1, 1) := by decide +kernel
theorem dX6_product_37 : decode cX6_product 37 = .ok (.iadd, 1) := by decide +kernel
theorem dX6_product_38 : decode cX6_product 38 = .ok (.istore 6, 2) := by decide +kernel
theorem dX6_product_40 : decode cX6_product 40 = .ok (.iload 6, 2) := by decide +kernel
theorem dX6_product_42 : decode cX6_product 42 = .ok (.ifCond .le 19, 3) := by decide +kernel
theorem dX6_product_45 : decode cX6_product 45 = .ok (.lload_n 3, 1) := by decide +kernel
theorem dX6_product_46 : decode cX6_product 46 = .ok (.ldc2_w 172, 3) := by decide +kernel
theorem dX6_product_49 : decode cX6_product 49 = .ok (.iload 6, 2) := by decide +kernel
theorem dX6_product_51 : decode cX6_product 51 = .ok (.i2l, 1) := by decide +kernel
theorem dX6_product_52 : decode cX6_product 52 = .ok (.ldiv, 1) := by decide +kernel
theorem dX6_product_53 : decode cX6_product 53 = .ok (.lcmp, 1) := by decide +kernel
theorem dX6_product_54 : decode cX6_product 54 = .ok (.ifCond .le 7, 3) := by decide +kernel
theorem dX6_product_57 : decode cX6_product 57 = .ok (.ldc2_w 174, 3) := by decide +kernel
theorem dX6_product_60 : decode cX6_product 60 = .ok (.lreturn, 1) := by decide +kernel
theorem dX6_product_61 : decode cX6_product 61 = .ok (.lload_n 3, 1) := by decide +kernel
theorem dX6_product_62 : decode cX6_product 62 = .ok (.iload 6, 2) := by decide +kernel
theorem dX6_product_64 : decode cX6_product 64 = .ok (.i2l, 1) := by decide +kernel
theorem dX6_product_65 : decode cX6_product 65 = .ok (.lmul, 1) := by decide +kernel
theorem dX6_product_66 : decode cX6_product 66 = .ok (.lstore_n 3, 1) := by decide +kernel
theorem dX6_product_67 : decode cX6_product 67 = .ok (.iinc 5 1, 3) := by decide +kernel
theorem dX6_product_70 : decode cX6_product 70 = .ok (.goto (-49), 3) := by decide +kernel
theorem dX6_product_73 : decode cX6_product 73 = .ok (.lload_n 3, 1) := by decide +kernel
theorem dX6_product_74 : decode cX6_product 74 = .ok (.lreturn, 1) := by decide +kernel
theorem dX6_common_0 : decode cX6_common 0 = .ok (.aload_n 0, 1) := by decide +kernel
theorem dX6_common_1 : decode cX6_common 1 = .ok (.getfield 10, 3) := by decide +kernel
theorem dX6_common_4 : decode cX6_common 4 = .ok (.iload_n 1, 1) := by decide +kernel
theorem dX6_common_5 : decode cX6_common 5 = .ok (.iload_n 2, 1) := by decide +kernel
theorem dX6_common_6 : decode cX6_common 6 = .ok (.invokevirtual 93, 3) := by decide +kernel
theorem dX6_common_9 : decode cX6_common 9 = .ok (.ifCond .eq 25, 3) := by decide +kernel
theorem dX6_common_12 : decode cX6_common 12 = .ok (.aload_n 0, 1) := by decide +kernel
theorem dX6_common_13 : decode cX6_common 13 = .ok (.getfield 10, 3) := by decide +kernel
theorem dX6_common_16 : decode cX6_common 16 = .ok (.iload_n 3, 1) := by decide +kernel
theorem dX6_common_17 : decode cX6_common 17 = .ok (.iload 4, 2) := by decide +kernel
theorem dX6_common_19 : decode cX6_common 19 = .ok (.invokevirtual 93, 3) := by decide +kernel
theorem dX6_common_22 : decode cX6_common 22 = .ok (.ifCond .eq 12, 3) := by decide +kernel
theorem dX6_common_25 : decode cX6_common 25 = .ok (.iload 5, 2) := by decide +kernel
theorem dX6_common_27 : decode cX6_common 27 = .ok (.iconst 3, 1) := by decide +kernel
theorem dX6_common_28 : decode cX6_common 28 = .ok (.invokestatic 58, 3) := by decide +kernel
theorem dX6_common_31 : decode cX6_common 31 = .ok (.ifCond .ne 6, 3) := by decide +kernel
theorem dX6_common_34 : decode cX6_common 34 = .ok (.ldc 66, 2) := by decide +kernel
theorem dX6_common_36 : decode cX6_common 36 = .ok (.ireturn, 1) := by decide +kernel
theorem dX6_common_37 : decode cX6_common 37 = .ok (.aload_n 0, 1) := by decide +kernel
theorem dX6_common_38 : decode cX6_common 38 = .ok (.getfield 33, 3) := by decide +kernel
theorem dX6_common_41 : decode cX6_common 41 = .ok (.aload_n 0, 1) := by decide +kernel
theorem dX6_common_42 : decode cX6_common 42 = .ok (.getfield 10, 3) := by decide +kernel
theorem dX6_common_45 : decode cX6_common 45 = .ok (.iload_n 1, 1) := by decide +kernel
theorem dX6_common_46 : decode cX6_common 46 = .ok (.iload_n 2, 1) := by decide +kernel
theorem dX6_common_47 : decode cX6_common 47 = .ok (.invokevirtual 100, 3) := by decide +kernel
theorem dX6_common_50 : decode cX6_common 50 = .ok (.aload_n 0, 1) := by decide +kernel
theorem dX6_common_51 : decode cX6_common 51 = .ok (.getfield 37, 3) := by decide +kernel
theorem dX6_common_54 : decode cX6_common 54 = .ok (.aload_n 0, 1) := by decide +kernel
theorem dX6_common_55 : decode cX6_common 55 = .ok (.getfield 10, 3) := by decide +kernel
theorem dX6_common_58 : decode cX6_common 58 = .ok (.iload_n 3, 1) := by decide +kernel
theorem dX6_common_59 : decode cX6_common 59 = .ok (.iload 4, 2) := by decide +kernel
theorem dX6_common_61 : decode cX6_common 61 = .ok (.invokevirtual 100, 3) := by decide +kernel
theorem dX6_common_64 : decode cX6_common 64 = .ok (.iload 5, 2) := by decide +kernel
theorem dX6_common_66 : decode cX6_common 66 = .ok (.iconst 3, 1) := by decide +kernel
theorem dX6_common_67 : decode cX6_common 67 = .ok (.if_icmp .ne 23, 3) := by decide +kernel
theorem dX6_common_70 : decode cX6_common 70 = .ok (.aload_n 0, 1) := by decide +kernel
theorem dX6_common_71 : decode cX6_common 71 = .ok (.getfield 33, 3) := by decide +kernel
theorem dX6_common_74 : decode cX6_common 74 = .ok (.aload_n 0, 1) := by decide +kernel
theorem dX6_common_75 : decode cX6_common 75 = .ok (.getfield 37, 3) := by decide +kernel
theorem dX6_common_78 : decode cX6_common 78 = .ok (.invokevirtual 176, 3) := by decide +kernel
theorem dX6_common_81 : decode cX6_common 81 = .ok (.ifCond .eq 7, 3) := by decide +kernel
theorem dX6_common_84 : decode cX6_common 84 = .ok (.iconst 1, 1) := by decide +kernel
theorem dX6_common_85 : decode cX6_common 85 = .ok (.goto 4, 3) := by decide +kernel
theorem dX6_common_88 : decode cX6_common 88 = .ok (.iconst 0, 1) := by decide +kernel
theorem dX6_common_89 : decode cX6_common 89 = .ok (.ireturn, 1) := by decide +kernel
theorem dX6_common_90 : decode cX6_common 90 = .ok (.aload_n 0, 1) := by decide +kernel
theorem dX6_common_91 : decode cX6_common 91 = .ok (.getfield 33, 3) := by decide +kernel
theorem dX6_common_94 : decode cX6_common 94 = .ok (.aload_n 0, 1) := by decide +kernel
theorem dX6_common_95 : decode cX6_common 95 = .ok (.getfield 37, 3) := by decide +kernel
theorem dX6_common_98 : decode cX6_common 98 = .ok (.invokevirtual 180, 3) := by decide +kernel
theorem dX6_common_101 : decode cX6_common 101 = .ok (.iload 5, 2) := by decide +kernel
theorem dX6_common_103 : decode cX6_common 103 = .ok (.ifCond .ne 11, 3) := by decide +kernel
theorem dX6_common_106 : decode cX6_common 106 = .ok (.aload_n 0, 1) := by decide +kernel
theorem dX6_common_107 : decode cX6_common 107 = .ok (.getfield 33, 3) := by decide +kernel
theorem dX6_common_110 : decode cX6_common 110 = .ok (.invokevirtual 166, 3) := by decide +kernel
theorem dX6_common_113 : decode cX6_common 113 = .ok (.ireturn, 1) := by decide +kernel
theorem dX6_common_114 : decode cX6_common 114 = .ok (.iload 5, 2) := by decide +kernel
theorem dX6_common_116 : decode cX6_common 116 = .ok (.iconst 1, 1) := by decide +kernel
theorem dX6_common_117 : decode cX6_common 117 = .ok (.if_icmp .ne 15, 3) := by decide +kernel
theorem dX6_common_120 : decode cX6_common 120 = .ok (.aload_n 0, 1) := by decide +kernel
theorem dX6_common_121 : decode cX6_common 121 = .ok (.getfield 33, 3) := by decide +kernel
theorem dX6_common_124 : decode cX6_common 124 = .ok (.bipush 16, 2) := by decide +kernel
theorem dX6_common_126 : decode cX6_common 126 = .ok (.invokevirtual 154, 3) := by decide +kernel
theorem dX6_common_129 : decode cX6_common 129 = .ok (.goto 14, 3) := by decide +kernel
theorem dX6_common_132 : decode cX6_common 132 = .ok (.aload_n 0, 1) := by decide +kernel
theorem dX6_common_133 : decode cX6_common 133 = .ok (.getfield 33, 3) := by decide +kernel
theorem dX6_common_136 : decode cX6_common 136 = .ok (.iconst 0, 1) := by decide +kernel
theorem dX6_common_137 : decode cX6_common 137 = .ok (.invokevirtual 157, 3) := by decide +kernel
theorem dX6_common_140 : decode cX6_common 140 = .ok (.invokestatic 151, 3) := by decide +kernel
theorem dX6_common_143 : decode cX6_common 143 = .ok (.ireturn, 1) := by decide +kernel
theorem dX6_heaviest_0 : decode cX6_heaviest 0 = .ok (.iload_n 1, 1) := by decide +kernel
theorem dX6_heaviest_1 : decode cX6_heaviest 1 = .ok (.iconst 1, 1) := by decide +kernel
theorem dX6_heaviest_2 : decode cX6_heaviest 2 = .ok (.if_icmp .lt 17, 3) := by decide +kernel
theorem dX6_heaviest_5 : decode cX6_heaviest 5 = .ok (.iload_n 1, 1) := by decide +kernel
theorem dX6_heaviest_6 : decode cX6_heaviest 6 = .ok (.bipush 60, 2) := by decide +kernel
theorem dX6_heaviest_8 : decode cX6_heaviest 8 = .ok (.if_icmp .gt 11, 3) := by decide +kernel
theorem dX6_heaviest_11 : decode cX6_heaviest 11 = .ok (.iload_n 2, 1) := by decide +kernel
theorem dX6_heaviest_12 : decode cX6_heaviest 12 = .ok (.iconst 1, 1) := by decide +kernel
theorem dX6_heaviest_13 : decode cX6_heaviest 13 = .ok (.invokestatic 58, 3) := by decide +kernel
theorem dX6_heaviest_16 : decode cX6_heaviest 16 = .ok (.ifCond .ne 6, 3) := by decide +kernel
theorem dX6_heaviest_19 : decode cX6_heaviest 19 = .ok (.ldc 66, 2) := by decide +kernel
theorem dX6_heaviest_21 : decode cX6_heaviest 21 = .ok (.ireturn, 1) := by decide +kernel
theorem dX6_heaviest_22 : decode cX6_heaviest 22 = .ok (.iload_n 1, 1) := by decide +kernel
theorem dX6_heaviest_23 : decode cX6_heaviest 23 = .ok (.aload_n 0, 1) := by decide +kernel
theorem dX6_heaviest_24 : decode cX6_heaviest 24 = .ok (.getfield 10, 3) := by decide +kernel
theorem dX6_heaviest_27 : decode cX6_heaviest 27 = .ok (.invokevirtual 54, 3) := by decide +kernel
theorem dX6_heaviest_30 : decode cX6_heaviest 30 = .ok (.if_icmp .le 6, 3) := by decide +kernel
theorem dX6_heaviest_33 : decode cX6_heaviest 33 = .ok (.ldc 108, 2) := by decide +kernel
theorem dX6_heaviest_35 : decode cX6_heaviest 35 = .ok (.ireturn, 1) := by decide +kernel
theorem dX6_heaviest_36 : decode cX6_heaviest 36 = .ok (.iconst 0, 1) := by decide +kernel
theorem dX6_heaviest_37 : decode cX6_heaviest 37 = .ok (.istore_n 3, 1) := by decide +kernel
theorem dX6_heaviest_38 : decode cX6_heaviest 38 = .ok (.aload_n 0, 1) := by decide +kernel
theorem dX6_heaviest_39 : decode cX6_heaviest 39 = .ok (.getfield 10, 3) := by decide +kernel
theorem dX6_heaviest_42 : decode cX6_heaviest 42 = .ok (.iconst 0, 1) := by decide +kernel
theorem dX6_heaviest_43 : decode cX6_heaviest 43 = .ok (.iload_n 1, 1) := by decide +kernel
theorem dX6_heaviest_44 : decode cX6_heaviest 44 = .ok (.invokevirtual 160, 3) := by decide +kernel
theorem dX6_heaviest_47 : decode cX6_heaviest 47 = .ok (.istore 4, 2) := by decide +kernel
theorem dX6_heaviest_49 : decode cX6_heaviest 49 = .ok (.iconst 1, 1) := by decide +kernel
theorem dX6_heaviest_50 : decode cX6_heaviest 50 = .ok (.istore 5, 2) := by decide +kernel
theorem dX6_heaviest_52 : decode cX6_heaviest 52 = .ok (.iload 5, 2) := by decide +kernel
theorem dX6_heaviest_54 : decode cX6_heaviest 54 = .ok (.iload_n 1, 1) := by decide +kernel
theorem dX6_heaviest_55 : decode cX6_heaviest 55 = .ok (.iadd, 1) := by decide +kernel
theorem dX6_heaviest_56 : decode cX6_heaviest 56 = .ok (.aload_n 0, 1) := by decide +kernel
theorem dX6_heaviest_57 : decode cX6_heaviest 57 = .ok (.getfield 10, 3) := by decide +kernel
theorem dX6_heaviest_60 : decode cX6_heaviest 60 = .ok (.invokevirtual 54, 3) := by decide +kernel
theorem dX6_heaviest_63 : decode cX6_heaviest 63 = .ok (.if_icmp .gt 38, 3) := by decide +kernel
theorem dX6_heaviest_66 : decode cX6_heaviest 66 = .ok (.aload_n 0, 1) := by decide +kernel
theorem dX6_heaviest_67 : decode cX6_heaviest 67 = .ok (.getfield 10, 3) := by decide +kernel
theorem dX6_heaviest_70 : decode cX6_heaviest 70 = .ok (.iload 5, 2) := by decide +kernel
theorem dX6_heaviest_72 : decode cX6_heaviest 72 = .ok (.iload 5, 2) := by decide +kernel
theorem dX6_heaviest_74 : decode cX6_heaviest 74 = .ok (.iload_n 1, 1) := by decide +kernel
theorem dX6_heaviest_75 : decode cX6_heaviest 75 = .ok (.iadd, 1) := by decide +kernel
theorem dX6_heaviest_76 : decode cX6_heaviest 76 = .ok (.invokevirtual 160, 3) := by decide +kernel
theorem dX6_heaviest_79 : decode cX6_heaviest 79 = .ok (.istore 6, 2) := by decide +kernel
theorem dX6_heaviest_81 : decode cX6_heaviest 81 = .ok (.iload 6, 2) := by decide +kernel
theorem dX6_heaviest_83 : decode cX6_heaviest 83 = .ok (.iload 4, 2) := by decide +kernel
theorem dX6_heaviest_85 : decode cX6_heaviest 85 = .ok (.if_icmp .le 10, 3) := by decide +kernel
theorem dX6_heaviest_88 : decode cX6_heaviest 88 = .ok (.iload 5, 2) := by decide +kernel
theorem dX6_heaviest_90 : decode cX6_heaviest 90 = .ok (.istore_n 3, 1) := by decide +kernel
theorem dX6_heaviest_91 : decode cX6_heaviest 91 = .ok (.iload 6, 2) := by decide +kernel
theorem dX6_heaviest_93 : decode cX6_heaviest 93 = .ok (.istore 4, 2) := by decide +kernel
theorem dX6_heaviest_95 : decode cX6_heaviest 95 = .ok (.iinc 5 1, 3) := by decide +kernel
theorem dX6_heaviest_98 : decode cX6_heaviest 98 = .ok (.goto (-46), 3) := by decide +kernel
theorem dX6_heaviest_101 : decode cX6_heaviest 101 = .ok (.iload_n 2, 1) := by decide +kernel
theorem dX6_heaviest_102 : decode cX6_heaviest 102 = .ok (.ifCond .ne 7, 3) := by decide +kernel
theorem dX6_heaviest_105 : decode cX6_heaviest 105 = .ok (.iload_n 3, 1) := by decide +kernel
theorem dX6_heaviest_106 : decode cX6_heaviest 106 = .ok (.goto 5, 3) := by decide +kernel
theorem dX6_heaviest_109 : decode cX6_heaviest 109 = .ok (.iload 4, 2) := by decide +kernel
theorem dX6_heaviest_111 : decode cX6_heaviest 111 = .ok (.ireturn, 1) := by decide +kernel
theorem dX6_count_0 : decode cX6_count 0 = .ok (.iload_n 1, 1) := by decide +kernel
theorem dX6_count_1 : decode cX6_count 1 = .ok (.tableswitch 103 0 5 #[39, 47, 74, 82, 87, 95], 39) := by decide +kernel
theorem dX6_count_40 : decode cX6_count 40 = .ok (.aload_n 0, 1) := by decide +kernel
theorem dX6_count_41 : decode cX6_count 41 = .ok (.getfield 10, 3) := by decide +kernel
theorem dX6_count_44 : decode cX6_count 44 = .ok (.invokevirtual 54, 3) := by decide +kernel
theorem dX6_count_47 : decode cX6_count 47 = .ok (.ireturn, 1) := by decide +kernel
theorem dX6_count_48 : decode cX6_count 48 = .ok (.aload_n 0, 1) := by decide +kernel
theorem dX6_count_49 : decode cX6_count 49 = .ok (.getfield 33, 3) := by decide +kernel
theorem dX6_count_52 : decode cX6_count 52 = .ok (.aload_n 0, 1) := by decide +kernel
theorem dX6_count_53 : decode cX6_count 53 = .ok (.getfield 10, 3) := by decide +kernel
theorem dX6_count_56 : decode cX6_count 56 = .ok (.iconst 0, 1) := by decide +kernel
theorem dX6_count_57 : decode cX6_count 57 = .ok (.aload_n 0, 1) := by decide +kernel
theorem dX6_count_58 : decode cX6_count 58 = .ok (.getfield 10, 3) := by decide +kernel
theorem dX6_count_61 : decode cX6_count 61 = .ok (.invokevirtual 54, 3) := by decide +kernel
theorem dX6_count_64 : decode cX6_count 64 = .ok (.invokevirtual 100, 3) := by decide +kernel
theorem dX6_count_67 : decode cX6_count 67 = .ok (.aload_n 0, 1) := by decide +kernel
theorem dX6_count_68 : decode cX6_count 68 = .ok (.getfield 33, 3) := by decide +kernel
theorem dX6_count_71 : decode cX6_count 71 = .ok (.invokevirtual 166, 3) := by decide +kernel
theorem dX6_count_74 : decode cX6_count 74 = .ok (.ireturn, 1) := by decide +kernel
theorem dX6_count_75 : decode cX6_count 75 = .ok (.aload_n 0, 1) := by decide +kernel
theorem dX6_count_76 : decode cX6_count 76 = .ok (.getfield 10, 3) := by decide +kernel
theorem dX6_count_79 : decode cX6_count 79 = .ok (.invokevirtual 184, 3) := by decide +kernel
theorem dX6_count_82 : decode cX6_count 82 = .ok (.ireturn, 1) := by decide +kernel
theorem dX6_count_83 : decode cX6_count 83 = .ok (.aload_n 0, 1) := by decide +kernel
theorem dX6_count_84 : decode cX6_count 84 = .ok (.invokevirtual 127, 3) := by decide +kernel
theorem dX6_count_87 : decode cX6_count 87 = .ok (.ireturn, 1) := by decide +kernel
theorem dX6_count_88 : decode cX6_count 88 = .ok (.aload_n 0, 1) := by decide +kernel
theorem dX6_count_89 : decode cX6_count 89 = .ok (.getfield 19, 3) := by decide +kernel
theorem dX6_count_92 : decode cX6_count 92 = .ok (.invokevirtual 186, 3) := by decide +kernel
theorem dX6_count_95 : decode cX6_count 95 = .ok (.ireturn, 1) := by decide +kernel
theorem dX6_count_96 : decode cX6_count 96 = .ok (.aload_n 0, 1) := by decide +kernel
theorem dX6_count_97 : decode cX6_count 97 = .ok (.getfield 51, 3) := by decide +kernel
theorem dX6_count_100 : decode cX6_count 100 = .ok (.invokevirtual 187, 3) := by decide +kernel
theorem dX6_count_103 : decode cX6_count 103 = .ok (.ireturn, 1) := by decide +kernel
theorem dX6_count_104 : decode cX6_count 104 = .ok (.ldc 66, 2) := by decide +kernel
theorem dX6_count_106 : decode cX6_count 106 = .ok (.ireturn, 1) := by decide +kernel
theorem dX6_undo_0 : decode cX6_undo 0 = .ok (.aload_n 0, 1) := by decide +kernel
theorem dX6_undo_1 : decode cX6_undo 1 = .ok (.getfield 19, 3) := by decide +kernel
theorem dX6_undo_4 : decode cX6_undo 4 = .ok (.invokevirtual 186, 3) := by decide +kernel
theorem dX6_undo_7 : decode cX6_undo 7 = .ok (.ifCond .ne 6, 3) := by decide +kernel
theorem dX6_undo_10 : decode cX6_undo 10 = .ok (.ldc 192, 2) := by decide +kernel
theorem dX6_undo_12 : decode cX6_undo 12 = .ok (.ireturn, 1) := by decide +kernel
theorem dX6_undo_13 : decode cX6_undo 13 = .ok (.aload_n 0, 1) := by decide +kernel
theorem dX6_undo_14 : decode cX6_undo 14 = .ok (.getfield 19, 3) := by decide +kernel
theorem dX6_undo_17 : decode cX6_undo 17 = .ok (.aload_n 0, 1) := by decide +kernel
theorem dX6_undo_18 : decode cX6_undo 18 = .ok (.getfield 10, 3) := by decide +kernel
theorem dX6_undo_21 : decode cX6_undo 21 = .ok (.invokevirtual 193, 3) := by decide +kernel
theorem dX6_undo_24 : decode cX6_undo 24 = .ok (.aload_n 0, 1) := by decide +kernel
theorem dX6_undo_25 : decode cX6_undo 25 = .ok (.getfield 19, 3) := by decide +kernel
theorem dX6_undo_28 : decode cX6_undo 28 = .ok (.invokevirtual 186, 3) := by decide +kernel
theorem dX6_undo_31 : decode cX6_undo 31 = .ok (.ireturn, 1) := by decide +kernel
theorem dX6_type_0 : decode cX6_type 0 = .ok (.iload_n 1, 1) := by decide +kernel
theorem dX6_type_1 : decode cX6_type 1 = .ok (.bipush 32, 2) := by decide +kernel
theorem dX6_type_3 : decode cX6_type 3 = .ok (.if_icmp .lt 9, 3) := by decide +kernel
theorem dX6_type_6 : decode cX6_type 6 = .ok (.iload_n 1, 1) := by decide +kernel
theorem dX6_type_7 : decode cX6_type 7 = .ok (.bipush 126, 2) := by decide +kernel
theorem dX6_type_9 : decode cX6_type 9 = .ok (.if_icmp .le 6, 3) := by decide +kernel
theorem dX6_type_12 : decode cX6_type 12 = .ok (.ldc 66, 2) := by decide +kernel
theorem dX6_type_14 : decode cX6_type 14 = .ok (.ireturn, 1) := by decide +kernel
theorem dX6_type_15 : decode cX6_type 15 = .ok (.aload_n 0, 1) := by decide +kernel
theorem dX6_type_16 : decode cX6_type 16 = .ok (.getfield 51, 3) := by decide +kernel
theorem dX6_type_19 : decode cX6_type 19 = .ok (.invokevirtual 187, 3) := by decide +kernel
theorem dX6_type_22 : decode cX6_type 22 = .ok (.bipush 60, 2) := by decide +kernel
theorem dX6_type_24 : decode cX6_type 24 = .ok (.if_icmp .lt 6, 3) := by decide +kernel
theorem dX6_type_27 : decode cX6_type 27 = .ok (.ldc 67, 2) := by decide +kernel
theorem dX6_type_29 : decode cX6_type 29 = .ok (.ireturn, 1) := by decide +kernel
theorem dX6_type_30 : decode cX6_type 30 = .ok (.aload_n 0, 1) := by decide +kernel
theorem dX6_type_31 : decode cX6_type 31 = .ok (.getfield 51, 3) := by decide +kernel
theorem dX6_type_34 : decode cX6_type 34 = .ok (.iload_n 1, 1) := by decide +kernel
theorem dX6_type_35 : decode cX6_type 35 = .ok (.i2c, 1) := by decide +kernel
theorem dX6_type_36 : decode cX6_type 36 = .ok (.invokevirtual 196, 3) := by decide +kernel
theorem dX6_type_39 : decode cX6_type 39 = .ok (.aload_n 0, 1) := by decide +kernel
theorem dX6_type_40 : decode cX6_type 40 = .ok (.getfield 51, 3) := by decide +kernel
theorem dX6_type_43 : decode cX6_type 43 = .ok (.invokevirtual 187, 3) := by decide +kernel
theorem dX6_type_46 : decode cX6_type 46 = .ok (.ireturn, 1) := by decide +kernel
theorem dX6_clearText_0 : decode cX6_clearText 0 = .ok (.aload_n 0, 1) := by decide +kernel
theorem dX6_clearText_1 : decode cX6_clearText 1 = .ok (.getfield 51, 3) := by decide +kernel
theorem dX6_clearText_4 : decode cX6_clearText 4 = .ok (.invokevirtual 187, 3) := by decide +kernel
theorem dX6_clearText_7 : decode cX6_clearText 7 = .ok (.istore_n 1, 1) := by decide +kernel
theorem dX6_clearText_8 : decode cX6_clearText 8 = .ok (.aload_n 0, 1) := by decide +kernel
theorem dX6_clearText_9 : decode cX6_clearText 9 = .ok (.getfield 51, 3) := by decide +kernel
theorem dX6_clearText_12 : decode cX6_clearText 12 = .ok (.invokevirtual 200, 3) := by decide +kernel
theorem dX6_clearText_15 : decode cX6_clearText 15 = .ok (.iload_n 1, 1) := by decide +kernel
theorem dX6_clearText_16 : decode cX6_clearText 16 = .ok (.ireturn, 1) := by decide +kernel
theorem dX6_fault_0 : decode cX6_fault 0 = .ok (.iload_n 1, 1) := by decide +kernel
theorem dX6_fault_1 : decode cX6_fault 1 = .ok (.iconst 2, 1) := by decide +kernel
theorem dX6_fault_2 : decode cX6_fault 2 = .ok (.invokestatic 58, 3) := by decide +kernel
theorem dX6_fault_5 : decode cX6_fault 5 = .ok (.ifCond .ne 6, 3) := by decide +kernel
theorem dX6_fault_8 : decode cX6_fault 8 = .ok (.ldc 66, 2) := by decide +kernel
theorem dX6_fault_10 : decode cX6_fault 10 = .ok (.ireturn, 1) := by decide +kernel
theorem dX6_fault_11 : decode cX6_fault 11 = .ok (.aload_n 0, 1) := by decide +kernel
theorem dX6_fault_12 : decode cX6_fault 12 = .ok (.getfield 43, 3) := by decide +kernel
theorem dX6_fault_15 : decode cX6_fault 15 = .ok (.aload_n 0, 1) := by decide +kernel
theorem dX6_fault_16 : decode cX6_fault 16 = .ok (.getfield 10, 3) := by decide +kernel
theorem dX6_fault_19 : decode cX6_fault 19 = .ok (.invokevirtual 203, 3) := by decide +kernel
theorem dX6_fault_22 : decode cX6_fault 22 = .ok (.aload_n 0, 1) := by decide +kernel
theorem dX6_fault_23 : decode cX6_fault 23 = .ok (.getfield 43, 3) := by decide +kernel
theorem dX6_fault_26 : decode cX6_fault 26 = .ok (.invokevirtual 206, 3) := by decide +kernel
theorem dX6_fault_29 : decode cX6_fault 29 = .ok (.ifCond .ne 6, 3) := by decide +kernel
theorem dX6_fault_32 : decode cX6_fault 32 = .ok (.ldc 108, 2) := by decide +kernel
theorem dX6_fault_34 : decode cX6_fault 34 = .ok (.ireturn, 1) := by decide +kernel
theorem dX6_fault_35 : decode cX6_fault 35 = .ok (.iload_n 1, 1) := by decide +kernel
theorem dX6_fault_36 : decode cX6_fault 36 = .ok (.ifCond .ne 11, 3) := by decide +kernel
theorem dX6_fault_39 : decode cX6_fault 39 = .ok (.aload_n 0, 1) := by decide +kernel
theorem dX6_fault_40 : decode cX6_fault 40 = .ok (.getfield 43, 3) := by decide +kernel
theorem dX6_fault_43 : decode cX6_fault 43 = .ok (.invokevirtual 209, 3) := by decide +kernel
theorem dX6_fault_46 : decode cX6_fault 46 = .ok (.ireturn, 1) := by decide +kernel
theorem dX6_fault_47 : decode cX6_fault 47 = .ok (.iload_n 1, 1) := by decide +kernel
theorem dX6_fault_48 : decode cX6_fault 48 = .ok (.iconst 1, 1) := by decide +kernel
theorem dX6_fault_49 : decode cX6_fault 49 = .ok (.if_icmp .ne 11, 3) := by decide +kernel
theorem dX6_fault_52 : decode cX6_fault 52 = .ok (.aload_n 0, 1) := by decide +kernel
theorem dX6_fault_53 : decode cX6_fault 53 = .ok (.getfield 43, 3) := by decide +kernel
theorem dX6_fault_56 : decode cX6_fault 56 = .ok (.invokevirtual 206, 3) := by decide +kernel
theorem dX6_fault_59 : decode cX6_fault 59 = .ok (.ireturn, 1) := by decide +kernel
theorem dX6_fault_60 : decode cX6_fault 60 = .ok (.aload_n 0, 1) := by decide +kernel
theorem dX6_fault_61 : decode cX6_fault 61 = .ok (.getfield 43, 3) := by decide +kernel
theorem dX6_fault_64 : decode cX6_fault 64 = .ok (.invokevirtual 206, 3) := by decide +kernel
theorem dX6_fault_67 : decode cX6_fault 67 = .ok (.iconst 1, 1) := by decide +kernel
theorem dX6_fault_68 : decode cX6_fault 68 = .ok (.if_icmp .ne 13, 3) := by decide +kernel
theorem dX6_fault_71 : decode cX6_fault 71 = .ok (.aload_n 0, 1) := by decide +kernel
theorem dX6_fault_72 : decode cX6_fault 72 = .ok (.getfield 43, 3) := by decide +kernel
theorem dX6_fault_75 : decode cX6_fault 75 = .ok (.invokevirtual 212, 3) := by decide +kernel
theorem dX6_fault_78 : decode cX6_fault 78 = .ok (.goto 5, 3) := by decide +kernel
theorem dX6_fault_81 : decode cX6_fault 81 = .ok (.ldc 108, 2) := by decide +kernel
theorem dX6_fault_83 : decode cX6_fault 83 = .ok (.ireturn, 1) := by decide +kernel
theorem dX6_play_0 : decode cX6_play 0 = .ok (.aload_n 0, 1) := by decide +kernel
theorem dX6_play_1 : decode cX6_play 1 = .ok (.getfield 43, 3) := by decide +kernel
theorem dX6_play_4 : decode cX6_play 4 = .ok (.aload_n 0, 1) := by decide +kernel
theorem dX6_play_5 : decode cX6_play 5 = .ok (.getfield 10, 3) := by decide +kernel
theorem dX6_play_8 : decode cX6_play 8 = .ok (.invokevirtual 203, 3) := by decide +kernel
theorem dX6_play_11 : decode cX6_play 11 = .ok (.aload_n 0, 1) := by decide +kernel
theorem dX6_play_12 : decode cX6_play 12 = .ok (.getfield 43, 3) := by decide +kernel
theorem dX6_play_15 : decode cX6_play 15 = .ok (.invokevirtual 206, 3) := by decide +kernel
theorem dX6_play_18 : decode cX6_play 18 = .ok (.ifCond .eq 6, 3) := by decide +kernel
theorem dX6_play_21 : decode cX6_play 21 = .ok (.ldc 192, 2) := by decide +kernel
theorem dX6_play_23 : decode cX6_play 23 = .ok (.ireturn, 1) := by decide +kernel
theorem dX6_play_24 : decode cX6_play 24 = .ok (.aload_n 0, 1) := by decide +kernel
theorem dX6_play_25 : decode cX6_play 25 = .ok (.getfield 19, 3) := by decide +kernel
theorem dX6_play_28 : decode cX6_play 28 = .ok (.aload_n 0, 1) := by decide +kernel
theorem dX6_play_29 : decode cX6_play 29 = .ok (.getfield 10, 3) := by decide +kernel
theorem dX6_play_32 : decode cX6_play 32 = .ok (.invokevirtual 68, 3) := by decide +kernel
theorem dX6_play_35 : decode cX6_play 35 = .ok (.aload_n 0, 1) := by decide +kernel
theorem dX6_play_36 : decode cX6_play 36 = .ok (.getfield 10, 3) := by decide +kernel
theorem dX6_play_39 : decode cX6_play 39 = .ok (.aload_n 0, 1) := by decide +kernel
theorem dX6_play_40 : decode cX6_play 40 = .ok (.getfield 43, 3) := by decide +kernel
theorem dX6_play_43 : decode cX6_play 43 = .ok (.invokevirtual 215, 3) := by decide +kernel
theorem dX6_play_46 : decode cX6_play 46 = .ok (.invokevirtual 219, 3) := by decide +kernel
theorem dX6_play_49 : decode cX6_play 49 = .ok (.aload_n 0, 1) := by decide +kernel
theorem dX6_play_50 : decode cX6_play 50 = .ok (.getfield 10, 3) := by decide +kernel
theorem dX6_play_53 : decode cX6_play 53 = .ok (.invokevirtual 54, 3) := by decide +kernel
theorem dX6_play_56 : decode cX6_play 56 = .ok (.ireturn, 1) := by decide +kernel
theorem dX6_isAtMost_0 : decode cX6_isAtMost 0 = .ok (.iload_n 0, 1) := by decide +kernel
theorem dX6_isAtMost_1 : decode cX6_isAtMost 1 = .ok (.ifCond .lt 12, 3) := by decide +kernel
theorem dX6_isAtMost_4 : decode cX6_isAtMost 4 = .ok (.iload_n 0, 1) := by decide +kernel
theorem dX6_isAtMost_5 : decode cX6_isAtMost 5 = .ok (.iload_n 1, 1) := by decide +kernel
theorem dX6_isAtMost_6 : decode cX6_isAtMost 6 = .ok (.if_icmp .gt 7, 3) := by decide +kernel
theorem dX6_isAtMost_9 : decode cX6_isAtMost 9 = .ok (.iconst 1, 1) := by decide +kernel
theorem dX6_isAtMost_10 : decode cX6_isAtMost 10 = .ok (.goto 4, 3) := by decide +kernel
theorem dX6_isAtMost_13 : decode cX6_isAtMost 13 = .ok (.iconst 0, 1) := by decide +kernel
theorem dX6_isAtMost_14 : decode cX6_isAtMost 14 = .ok (.ireturn, 1) := by decide +kernel
theorem dX6_isSymbol_0 : decode cX6_isSymbol 0 = .ok (.iload_n 0, 1) := by decide +kernel
theorem dX6_isSymbol_1 : decode cX6_isSymbol 1 = .ok (.ifCond .lt 13, 3) := by decide +kernel
theorem dX6_isSymbol_4 : decode cX6_isSymbol 4 = .ok (.iload_n 0, 1) := by decide +kernel
theorem dX6_isSymbol_5 : decode cX6_isSymbol 5 = .ok (.bipush 16, 2) := by decide +kernel
theorem dX6_isSymbol_7 : decode cX6_isSymbol 7 = .ok (.if_icmp .ge 7, 3) := by decide +kernel
theorem dX6_isSymbol_10 : decode cX6_isSymbol 10 = .ok (.iconst 1, 1) := by decide +kernel
theorem dX6_isSymbol_11 : decode cX6_isSymbol 11 = .ok (.goto 4, 3) := by decide +kernel
theorem dX6_isSymbol_14 : decode cX6_isSymbol 14 = .ok (.iconst 0, 1) := by decide +kernel
theorem dX6_isSymbol_15 : decode cX6_isSymbol 15 = .ok (.ireturn, 1) := by decide +kernel
theorem dX6_hasBits_0 : decode cX6_hasBits 0 = .ok (.iload_n 0, 1) := by decide +kernel
theorem dX6_hasBits_1 : decode cX6_hasBits 1 = .ok (.ifCond .lt 12, 3) := by decide +kernel
theorem dX6_hasBits_4 : decode cX6_hasBits 4 = .ok (.iload_n 0, 1) := by decide +kernel
theorem dX6_hasBits_5 : decode cX6_hasBits 5 = .ok (.iconst 4, 1) := by decide +kernel
theorem dX6_hasBits_6 : decode cX6_hasBits 6 = .ok (.if_icmp .ge 7, 3) := by decide +kernel
theorem dX6_hasBits_9 : decode cX6_hasBits 9 = .ok (.iconst 1, 1) := by decide +kernel
theorem dX6_hasBits_10 : decode cX6_hasBits 10 = .ok (.goto 4, 3) := by decide +kernel
theorem dX6_hasBits_13 : decode cX6_hasBits 13 = .ok (.iconst 0, 1) := by decide +kernel
theorem dX6_hasBits_14 : decode cX6_hasBits 14 = .ok (.ireturn, 1) := by decide +kernel
theorem dX6_symbolOrNotFound_0 : decode cX6_symbolOrNotFound 0 = .ok (.iload_n 0, 1) := by decide +kernel
theorem dX6_symbolOrNotFound_1 : decode cX6_symbolOrNotFound 1 = .ok (.iconst (-1), 1) := by decide +kernel
theorem dX6_symbolOrNotFound_2 : decode cX6_symbolOrNotFound 2 = .ok (.if_icmp .ne 8, 3) := by decide +kernel
theorem dX6_symbolOrNotFound_5 : decode cX6_symbolOrNotFound 5 = .ok (.ldc 108, 2) := by decide +kernel
theorem dX6_symbolOrNotFound_7 : decode cX6_symbolOrNotFound 7 = .ok (.goto 4, 3) := by decide +kernel
theorem dX6_symbolOrNotFound_10 : decode cX6_symbolOrNotFound 10 = .ok (.iload_n 0, 1) := by decide +kernel
theorem dX6_symbolOrNotFound_11 : decode cX6_symbolOrNotFound 11 = .ok (.ireturn, 1) := by decide +kernel
theorem dX6_blocks_0 : decode cX6_blocks 0 = .ok (.aload_n 0, 1) := by decide +kernel
theorem dX6_blocks_1 : decode cX6_blocks 1 = .ok (.getfield 10, 3) := by decide +kernel
theorem dX6_blocks_4 : decode cX6_blocks 4 = .ok (.invokevirtual 54, 3) := by decide +kernel
theorem dX6_blocks_7 : decode cX6_blocks 7 = .ok (.bipush 8, 2) := by decide +kernel
theorem dX6_blocks_9 : decode cX6_blocks 9 = .ok (.iadd, 1) := by decide +kernel
theorem dX6_blocks_10 : decode cX6_blocks 10 = .ok (.iconst 1, 1) := by decide +kernel
theorem dX6_blocks_11 : decode cX6_blocks 11 = .ok (.isub, 1) := by decide +kernel
theorem dX6_blocks_12 : decode cX6_blocks 12 = .ok (.bipush 8, 2) := by decide +kernel
theorem dX6_blocks_14 : decode cX6_blocks 14 = .ok (.idiv, 1) := by decide +kernel
theorem dX6_blocks_15 : decode cX6_blocks 15 = .ok (.ireturn, 1) := by decide +kernel
