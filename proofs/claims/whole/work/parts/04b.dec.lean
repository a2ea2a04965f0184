theorem dX7_init_0 : decode cX7_init 0 = .ok (.aload_n 0, 1) := by decide +kernel
theorem dX7_init_1 : decode cX7_init 1 = .ok (.invokespecial 1, 3) := by decide +kernel
theorem dX7_init_4 : decode cX7_init 4 = .ok (.aload_n 0, 1) := by decide +kernel
theorem dX7_init_5 : decode cX7_init 5 = .ok (.bipush 61, 2) := by decide +kernel
theorem dX7_init_7 : decode cX7_init 7 = .ok (.newarray .int, 2) := by decide +kernel
theorem dX7_init_9 : decode cX7_init 9 = .ok (.putfield 7, 3) := by decide +kernel
theorem dX7_init_12 : decode cX7_init 12 = .ok (.aload_n 0, 1) := by decide +kernel
theorem dX7_init_13 : decode cX7_init 13 = .ok (.sipush 244, 3) := by decide +kernel
theorem dX7_init_16 : decode cX7_init 16 = .ok (.newarray .int, 2) := by decide +kernel
theorem dX7_init_18 : decode cX7_init 18 = .ok (.putfield 13, 3) := by decide +kernel
theorem dX7_init_21 : decode cX7_init 21 = .ok (.aload_n 0, 1) := by decide +kernel
theorem dX7_init_22 : decode cX7_init 22 = .ok (.bipush 61, 2) := by decide +kernel
theorem dX7_init_24 : decode cX7_init 24 = .ok (.newarray .int, 2) := by decide +kernel
theorem dX7_init_26 : decode cX7_init 26 = .ok (.putfield 16, 3) := by decide +kernel
theorem dX7_init_29 : decode cX7_init 29 = .ok (.aload_n 0, 1) := by decide +kernel
theorem dX7_init_30 : decode cX7_init 30 = .ok (.bipush 61, 2) := by decide +kernel
theorem dX7_init_32 : decode cX7_init 32 = .ok (.newarray .int, 2) := by decide +kernel
theorem dX7_init_34 : decode cX7_init 34 = .ok (.putfield 19, 3) := by decide +kernel
theorem dX7_init_37 : decode cX7_init 37 = .ok (.aload_n 0, 1) := by decide +kernel
theorem dX7_init_38 : decode cX7_init 38 = .ok (.bipush 60, 2) := by decide +kernel
theorem dX7_init_40 : decode cX7_init 40 = .ok (.newarray .char, 2) := by decide +kernel
theorem dX7_init_42 : decode cX7_init 42 = .ok (.putfield 22, 3) := by decide +kernel
theorem dX7_init_45 : decode cX7_init 45 = .ok (.aload_n 0, 1) := by decide +kernel
theorem dX7_init_46 : decode cX7_init 46 = .ok (.sipush 300, 3) := by decide +kernel
theorem dX7_init_49 : decode cX7_init 49 = .ok (.newarray .int, 2) := by decide +kernel
theorem dX7_init_51 : decode cX7_init 51 = .ok (.putfield 26, 3) := by decide +kernel
theorem dX7_init_54 : decode cX7_init 54 = .ok (.aload_n 0, 1) := by decide +kernel
theorem dX7_init_55 : decode cX7_init 55 = .ok (.sipush 300, 3) := by decide +kernel
theorem dX7_init_58 : decode cX7_init 58 = .ok (.newarray .int, 2) := by decide +kernel
theorem dX7_init_60 : decode cX7_init 60 = .ok (.putfield 29, 3) := by decide +kernel
theorem dX7_init_63 : decode cX7_init 63 = .ok (.aload_n 0, 1) := by decide +kernel
theorem dX7_init_64 : decode cX7_init 64 = .ok (.bipush 16, 2) := by decide +kernel
theorem dX7_init_66 : decode cX7_init 66 = .ok (.newarray .int, 2) := by decide +kernel
theorem dX7_init_68 : decode cX7_init 68 = .ok (.putfield 32, 3) := by decide +kernel
theorem dX7_init_71 : decode cX7_init 71 = .ok (.aload_n 0, 1) := by decide +kernel
theorem dX7_init_72 : decode cX7_init 72 = .ok (.bipush 16, 2) := by decide +kernel
theorem dX7_init_74 : decode cX7_init 74 = .ok (.newarray .int, 2) := by decide +kernel
theorem dX7_init_76 : decode cX7_init 76 = .ok (.putfield 35, 3) := by decide +kernel
theorem dX7_init_79 : decode cX7_init 79 = .ok (.return_, 1) := by decide +kernel
theorem dX7_in_0 : decode cX7_in 0 = .ok (.iload_n 0, 1) := by decide +kernel
theorem dX7_in_1 : decode cX7_in 1 = .ok (.iload_n 1, 1) := by decide +kernel
theorem dX7_in_2 : decode cX7_in 2 = .ok (.if_icmp .lt 12, 3) := by decide +kernel
theorem dX7_in_5 : decode cX7_in 5 = .ok (.iload_n 0, 1) := by decide +kernel
theorem dX7_in_6 : decode cX7_in 6 = .ok (.iload_n 2, 1) := by decide +kernel
theorem dX7_in_7 : decode cX7_in 7 = .ok (.if_icmp .gt 7, 3) := by decide +kernel
theorem dX7_in_10 : decode cX7_in 10 = .ok (.iconst 1, 1) := by decide +kernel
theorem dX7_in_11 : decode cX7_in 11 = .ok (.goto 4, 3) := by decide +kernel
theorem dX7_in_14 : decode cX7_in 14 = .ok (.iconst 0, 1) := by decide +kernel
theorem dX7_in_15 : decode cX7_in 15 = .ok (.ireturn, 1) := by decide +kernel
theorem dX7_isPlace_0 : decode cX7_isPlace 0 = .ok (.iload_n 1, 1) := by decide +kernel
theorem dX7_isPlace_1 : decode cX7_isPlace 1 = .ok (.iconst 0, 1) := by decide +kernel
theorem dX7_isPlace_2 : decode cX7_isPlace 2 = .ok (.aload_n 0, 1) := by decide +kernel
theorem dX7_isPlace_3 : decode cX7_isPlace 3 = .ok (.getfield 7, 3) := by decide +kernel
theorem dX7_isPlace_6 : decode cX7_isPlace 6 = .ok (.iconst 0, 1) := by decide +kernel
theorem dX7_isPlace_7 : decode cX7_isPlace 7 = .ok (.iaload, 1) := by decide +kernel
theorem dX7_isPlace_8 : decode cX7_isPlace 8 = .ok (.iconst 1, 1) := by decide +kernel
theorem dX7_isPlace_9 : decode cX7_isPlace 9 = .ok (.isub, 1) := by decide +kernel
theorem dX7_isPlace_10 : decode cX7_isPlace 10 = .ok (.invokestatic 38, 3) := by decide +kernel
theorem dX7_isPlace_13 : decode cX7_isPlace 13 = .ok (.ireturn, 1) := by decide +kernel
theorem dX7_isSpan_0 : decode cX7_isSpan 0 = .ok (.iload_n 1, 1) := by decide +kernel
theorem dX7_isSpan_1 : decode cX7_isSpan 1 = .ok (.ifCond .lt 22, 3) := by decide +kernel
theorem dX7_isSpan_4 : decode cX7_isSpan 4 = .ok (.iload_n 1, 1) := by decide +kernel
theorem dX7_isSpan_5 : decode cX7_isSpan 5 = .ok (.iload_n 2, 1) := by decide +kernel
theorem dX7_isSpan_6 : decode cX7_isSpan 6 = .ok (.if_icmp .gt 17, 3) := by decide +kernel
theorem dX7_isSpan_9 : decode cX7_isSpan 9 = .ok (.iload_n 2, 1) := by decide +kernel
theorem dX7_isSpan_10 : decode cX7_isSpan 10 = .ok (.aload_n 0, 1) := by decide +kernel
theorem dX7_isSpan_11 : decode cX7_isSpan 11 = .ok (.getfield 7, 3) := by decide +kernel
theorem dX7_isSpan_14 : decode cX7_isSpan 14 = .ok (.iconst 0, 1) := by decide +kernel
theorem dX7_isSpan_15 : decode cX7_isSpan 15 = .ok (.iaload, 1) := by decide +kernel
theorem dX7_isSpan_16 : decode cX7_isSpan 16 = .ok (.if_icmp .gt 7, 3) := by decide +kernel
theorem dX7_isSpan_19 : decode cX7_isSpan 19 = .ok (.iconst 1, 1) := by decide +kernel
theorem dX7_isSpan_20 : decode cX7_isSpan 20 = .ok (.goto 4, 3) := by decide +kernel
theorem dX7_isSpan_23 : decode cX7_isSpan 23 = .ok (.iconst 0, 1) := by decide +kernel
theorem dX7_isSpan_24 : decode cX7_isSpan 24 = .ok (.ireturn, 1) := by decide +kernel
theorem dX7_keeps_0 : decode cX7_keeps 0 = .ok (.iconst 0, 1) := by decide +kernel
theorem dX7_keeps_1 : decode cX7_keeps 1 = .ok (.istore_n 1, 1) := by decide +kernel
theorem dX7_keeps_2 : decode cX7_keeps 2 = .ok (.iload_n 1, 1) := by decide +kernel
theorem dX7_keeps_3 : decode cX7_keeps 3 = .ok (.bipush 61, 2) := by decide +kernel
theorem dX7_keeps_5 : decode cX7_keeps 5 = .ok (.if_icmp .ge 21, 3) := by decide +kernel
theorem dX7_keeps_8 : decode cX7_keeps 8 = .ok (.aload_n 0, 1) := by decide +kernel
theorem dX7_keeps_9 : decode cX7_keeps 9 = .ok (.getfield 16, 3) := by decide +kernel
theorem dX7_keeps_12 : decode cX7_keeps 12 = .ok (.iload_n 1, 1) := by decide +kernel
theorem dX7_keeps_13 : decode cX7_keeps 13 = .ok (.aload_n 0, 1) := by decide +kernel
theorem dX7_keeps_14 : decode cX7_keeps 14 = .ok (.getfield 7, 3) := by decide +kernel
theorem dX7_keeps_17 : decode cX7_keeps 17 = .ok (.iload_n 1, 1) := by decide +kernel
theorem dX7_keeps_18 : decode cX7_keeps 18 = .ok (.iaload, 1) := by decide +kernel
theorem dX7_keeps_19 : decode cX7_keeps 19 = .ok (.iastore, 1) := by decide +kernel
theorem dX7_keeps_20 : decode cX7_keeps 20 = .ok (.iinc 1 1, 3) := by decide +kernel
theorem dX7_keeps_23 : decode cX7_keeps 23 = .ok (.goto (-21), 3) := by decide +kernel
theorem dX7_keeps_26 : decode cX7_keeps 26 = .ok (.return_, 1) := by decide +kernel
theorem dX7_acted_0 : decode cX7_acted 0 = .ok (.iload_n 1, 1) := by decide +kernel
theorem dX7_acted_1 : decode cX7_acted 1 = .ok (.ldc 42, 2) := by decide +kernel
theorem dX7_acted_3 : decode cX7_acted 3 = .ok (.if_icmp .le 95, 3) := by decide +kernel
theorem dX7_acted_6 : decode cX7_acted 6 = .ok (.aload_n 0, 1) := by decide +kernel
theorem dX7_acted_7 : decode cX7_acted 7 = .ok (.getfield 43, 3) := by decide +kernel
theorem dX7_acted_10 : decode cX7_acted 10 = .ok (.iconst 4, 1) := by decide +kernel
theorem dX7_acted_11 : decode cX7_acted 11 = .ok (.if_icmp .ne 43, 3) := by decide +kernel
theorem dX7_acted_14 : decode cX7_acted 14 = .ok (.iconst 0, 1) := by decide +kernel
theorem dX7_acted_15 : decode cX7_acted 15 = .ok (.istore_n 2, 1) := by decide +kernel
theorem dX7_acted_16 : decode cX7_acted 16 = .ok (.iload_n 2, 1) := by decide +kernel
theorem dX7_acted_17 : decode cX7_acted 17 = .ok (.sipush 183, 3) := by decide +kernel
theorem dX7_acted_20 : decode cX7_acted 20 = .ok (.if_icmp .ge 24, 3) := by decide +kernel
theorem dX7_acted_23 : decode cX7_acted 23 = .ok (.aload_n 0, 1) := by decide +kernel
theorem dX7_acted_24 : decode cX7_acted 24 = .ok (.getfield 13, 3) := by decide +kernel
theorem dX7_acted_27 : decode cX7_acted 27 = .ok (.iload_n 2, 1) := by decide +kernel
theorem dX7_acted_28 : decode cX7_acted 28 = .ok (.aload_n 0, 1) := by decide +kernel
theorem dX7_acted_29 : decode cX7_acted 29 = .ok (.getfield 13, 3) := by decide +kernel
theorem dX7_acted_32 : decode cX7_acted 32 = .ok (.iload_n 2, 1) := by decide +kernel
theorem dX7_acted_33 : decode cX7_acted 33 = .ok (.bipush 61, 2) := by decide +kernel
theorem dX7_acted_35 : decode cX7_acted 35 = .ok (.iadd, 1) := by decide +kernel
theorem dX7_acted_36 : decode cX7_acted 36 = .ok (.iaload, 1) := by decide +kernel
theorem dX7_acted_37 : decode cX7_acted 37 = .ok (.iastore, 1) := by decide +kernel
theorem dX7_acted_38 : decode cX7_acted 38 = .ok (.iinc 2 1, 3) := by decide +kernel
theorem dX7_acted_41 : decode cX7_acted 41 = .ok (.goto (-25), 3) := by decide +kernel
theorem dX7_acted_44 : decode cX7_acted 44 = .ok (.aload_n 0, 1) := by decide +kernel
theorem dX7_acted_45 : decode cX7_acted 45 = .ok (.dup, 1) := by decide +kernel
theorem dX7_acted_46 : decode cX7_acted 46 = .ok (.getfield 43, 3) := by decide +kernel
theorem dX7_acted_49 : decode cX7_acted 49 = .ok (.iconst 1, 1) := by decide +kernel
theorem dX7_acted_50 : decode cX7_acted 50 = .ok (.isub, 1) := by decide +kernel
theorem dX7_acted_51 : decode cX7_acted 51 = .ok (.putfield 43, 3) := by decide +kernel
theorem dX7_acted_54 : decode cX7_acted 54 = .ok (.iconst 0, 1) := by decide +kernel
theorem dX7_acted_55 : decode cX7_acted 55 = .ok (.istore_n 2, 1) := by decide +kernel
theorem dX7_acted_56 : decode cX7_acted 56 = .ok (.iload_n 2, 1) := by decide +kernel
theorem dX7_acted_57 : decode cX7_acted 57 = .ok (.bipush 61, 2) := by decide +kernel
theorem dX7_acted_59 : decode cX7_acted 59 = .ok (.if_icmp .ge 29, 3) := by decide +kernel
theorem dX7_acted_62 : decode cX7_acted 62 = .ok (.aload_n 0, 1) := by decide +kernel
theorem dX7_acted_63 : decode cX7_acted 63 = .ok (.getfield 13, 3) := by decide +kernel
theorem dX7_acted_66 : decode cX7_acted 66 = .ok (.bipush 61, 2) := by decide +kernel
theorem dX7_acted_68 : decode cX7_acted 68 = .ok (.aload_n 0, 1) := by decide +kernel
theorem dX7_acted_69 : decode cX7_acted 69 = .ok (.getfield 43, 3) := by decide +kernel
theorem dX7_acted_72 : decode cX7_acted 72 = .ok (.imul, 1) := by decide +kernel
theorem dX7_acted_73 : decode cX7_acted 73 = .ok (.iload_n 2, 1) := by decide +kernel
theorem dX7_acted_74 : decode cX7_acted 74 = .ok (.iadd, 1) := by decide +kernel
theorem dX7_acted_75 : decode cX7_acted 75 = .ok (.aload_n 0, 1) := by decide +kernel
theorem dX7_acted_76 : decode cX7_acted 76 = .ok (.getfield 16, 3) := by decide +kernel
theorem dX7_acted_79 : decode cX7_acted 79 = .ok (.iload_n 2, 1) := by decide +kernel
theorem dX7_acted_80 : decode cX7_acted 80 = .ok (.iaload, 1) := by decide +kernel
theorem dX7_acted_81 : decode cX7_acted 81 = .ok (.iastore, 1) := by decide +kernel
theorem dX7_acted_82 : decode cX7_acted 82 = .ok (.iinc 2 1, 3) := by decide +kernel
theorem dX7_acted_85 : decode cX7_acted 85 = .ok (.goto (-29), 3) := by decide +kernel
theorem dX7_acted_88 : decode cX7_acted 88 = .ok (.aload_n 0, 1) := by decide +kernel
theorem dX7_acted_89 : decode cX7_acted 89 = .ok (.dup, 1) := by decide +kernel
theorem dX7_acted_90 : decode cX7_acted 90 = .ok (.getfield 43, 3) := by decide +kernel
theorem dX7_acted_93 : decode cX7_acted 93 = .ok (.iconst 1, 1) := by decide +kernel
theorem dX7_acted_94 : decode cX7_acted 94 = .ok (.iadd, 1) := by decide +kernel
theorem dX7_acted_95 : decode cX7_acted 95 = .ok (.putfield 43, 3) := by decide +kernel
theorem dX7_acted_98 : decode cX7_acted 98 = .ok (.iload_n 1, 1) := by decide +kernel
theorem dX7_acted_99 : decode cX7_acted 99 = .ok (.ireturn, 1) := by decide +kernel
theorem dX7_puts_0 : decode cX7_puts 0 = .ok (.iload_n 1, 1) := by decide +kernel
theorem dX7_puts_1 : decode cX7_puts 1 = .ok (.iconst 0, 1) := by decide +kernel
theorem dX7_puts_2 : decode cX7_puts 2 = .ok (.aload_n 0, 1) := by decide +kernel
theorem dX7_puts_3 : decode cX7_puts 3 = .ok (.getfield 7, 3) := by decide +kernel
theorem dX7_puts_6 : decode cX7_puts 6 = .ok (.iconst 0, 1) := by decide +kernel
theorem dX7_puts_7 : decode cX7_puts 7 = .ok (.iaload, 1) := by decide +kernel
theorem dX7_puts_8 : decode cX7_puts 8 = .ok (.invokestatic 38, 3) := by decide +kernel
theorem dX7_puts_11 : decode cX7_puts 11 = .ok (.ifCond .eq 13, 3) := by decide +kernel
theorem dX7_puts_14 : decode cX7_puts 14 = .ok (.iload_n 2, 1) := by decide +kernel
theorem dX7_puts_15 : decode cX7_puts 15 = .ok (.iconst 0, 1) := by decide +kernel
theorem dX7_puts_16 : decode cX7_puts 16 = .ok (.bipush 15, 2) := by decide +kernel
theorem dX7_puts_18 : decode cX7_puts 18 = .ok (.invokestatic 38, 3) := by decide +kernel
theorem dX7_puts_21 : decode cX7_puts 21 = .ok (.ifCond .ne 6, 3) := by decide +kernel
theorem dX7_puts_24 : decode cX7_puts 24 = .ok (.ldc 42, 2) := by decide +kernel
theorem dX7_puts_26 : decode cX7_puts 26 = .ok (.ireturn, 1) := by decide +kernel
theorem dX7_puts_27 : decode cX7_puts 27 = .ok (.aload_n 0, 1) := by decide +kernel
theorem dX7_puts_28 : decode cX7_puts 28 = .ok (.getfield 7, 3) := by decide +kernel
theorem dX7_puts_31 : decode cX7_puts 31 = .ok (.iconst 0, 1) := by decide +kernel
theorem dX7_puts_32 : decode cX7_puts 32 = .ok (.iaload, 1) := by decide +kernel
theorem dX7_puts_33 : decode cX7_puts 33 = .ok (.bipush 60, 2) := by decide +kernel
theorem dX7_puts_35 : decode cX7_puts 35 = .ok (.if_icmp .ne 6, 3) := by decide +kernel
theorem dX7_puts_38 : decode cX7_puts 38 = .ok (.ldc 47, 2) := by decide +kernel
theorem dX7_puts_40 : decode cX7_puts 40 = .ok (.ireturn, 1) := by decide +kernel
theorem dX7_puts_41 : decode cX7_puts 41 = .ok (.aload_n 0, 1) := by decide +kernel
theorem dX7_puts_42 : decode cX7_puts 42 = .ok (.getfield 7, 3) := by decide +kernel
theorem dX7_puts_45 : decode cX7_puts 45 = .ok (.iconst 0, 1) := by decide +kernel
theorem dX7_puts_46 : decode cX7_puts 46 = .ok (.iaload, 1) := by decide +kernel
theorem dX7_puts_47 : decode cX7_puts 47 = .ok (.istore_n 3, 1) := by decide +kernel
theorem dX7_puts_48 : decode cX7_puts 48 = .ok (.iload_n 3, 1) := by decide +kernel
theorem dX7_puts_49 : decode cX7_puts 49 = .ok (.iload_n 1, 1) := by decide +kernel
theorem dX7_puts_50 : decode cX7_puts 50 = .ok (.if_icmp .le 27, 3) := by decide +kernel
theorem dX7_puts_53 : decode cX7_puts 53 = .ok (.aload_n 0, 1) := by decide +kernel
theorem dX7_puts_54 : decode cX7_puts 54 = .ok (.getfield 7, 3) := by decide +kernel
theorem dX7_puts_57 : decode cX7_puts 57 = .ok (.iconst 1, 1) := by decide +kernel
theorem dX7_puts_58 : decode cX7_puts 58 = .ok (.iload_n 3, 1) := by decide +kernel
theorem dX7_puts_59 : decode cX7_puts 59 = .ok (.iadd, 1) := by decide +kernel
theorem dX7_puts_60 : decode cX7_puts 60 = .ok (.aload_n 0, 1) := by decide +kernel
theorem dX7_puts_61 : decode cX7_puts 61 = .ok (.getfield 7, 3) := by decide +kernel
theorem dX7_puts_64 : decode cX7_puts 64 = .ok (.iconst 1, 1) := by decide +kernel
theorem dX7_puts_65 : decode cX7_puts 65 = .ok (.iload_n 3, 1) := by decide +kernel
theorem dX7_puts_66 : decode cX7_puts 66 = .ok (.iadd, 1) := by decide +kernel
theorem dX7_puts_67 : decode cX7_puts 67 = .ok (.iconst 1, 1) := by decide +kernel
theorem dX7_puts_68 : decode cX7_puts 68 = .ok (.isub, 1) := by decide +kernel
theorem dX7_puts_69 : decode cX7_puts 69 = .ok (.iaload, 1) := by decide +kernel
theorem dX7_puts_70 : decode cX7_puts 70 = .ok (.iastore, 1) := by decide +kernel
theorem dX7_puts_71 : decode cX7_puts 71 = .ok (.iinc 3 (-1), 3) := by decide +kernel
theorem dX7_puts_74 : decode cX7_puts 74 = .ok (.goto (-26), 3) := by decide +kernel
theorem dX7_puts_77 : decode cX7_puts 77 = .ok (.aload_n 0, 1) := by decide +kernel
theorem dX7_puts_78 : decode cX7_puts 78 = .ok (.getfield 7, 3) := by decide +kernel
theorem dX7_puts_81 : decode cX7_puts 81 = .ok (.iconst 1, 1) := by decide +kernel
theorem dX7_puts_82 : decode cX7_puts 82 = .ok (.iload_n 1, 1) := by decide +kernel
theorem dX7_puts_83 : decode cX7_puts 83 = .ok (.iadd, 1) := by decide +kernel
theorem dX7_puts_84 : decode cX7_puts 84 = .ok (.iload_n 2, 1) := by decide +kernel
theorem dX7_puts_85 : decode cX7_puts 85 = .ok (.iastore, 1) := by decide +kernel
theorem dX7_puts_86 : decode cX7_puts 86 = .ok (.aload_n 0, 1) := by decide +kernel
theorem dX7_puts_87 : decode cX7_puts 87 = .ok (.getfield 7, 3) := by decide +kernel
theorem dX7_puts_90 : decode cX7_puts 90 = .ok (.iconst 0, 1) := by decide +kernel
theorem dX7_puts_91 : decode cX7_puts 91 = .ok (.dup2, 1) := by decide +kernel
theorem dX7_puts_92 : decode cX7_puts 92 = .ok (.iaload, 1) := by decide +kernel
theorem dX7_puts_93 : decode cX7_puts 93 = .ok (.iconst 1, 1) := by decide +kernel
theorem dX7_puts_94 : decode cX7_puts 94 = .ok (.iadd, 1) := by decide +kernel
theorem dX7_puts_95 : decode cX7_puts 95 = .ok (.iastore, 1) := by decide +kernel
theorem dX7_puts_96 : decode cX7_puts 96 = .ok (.aload_n 0, 1) := by decide +kernel
theorem dX7_puts_97 : decode cX7_puts 97 = .ok (.getfield 7, 3) := by decide +kernel
theorem dX7_puts_100 : decode cX7_puts 100 = .ok (.iconst 0, 1) := by decide +kernel
theorem dX7_puts_101 : decode cX7_puts 101 = .ok (.iaload, 1) := by decide +kernel
theorem dX7_puts_102 : decode cX7_puts 102 = .ok (.ireturn, 1) := by decide +kernel
theorem dX7_put_0 : decode cX7_put 0 = .ok (.aload_n 0, 1) := by decide +kernel
theorem dX7_put_1 : decode cX7_put 1 = .ok (.invokevirtual 48, 3) := by decide +kernel
theorem dX7_put_4 : decode cX7_put 4 = .ok (.aload_n 0, 1) := by decide +kernel
theorem dX7_put_5 : decode cX7_put 5 = .ok (.aload_n 0, 1) := by decide +kernel
theorem dX7_put_6 : decode cX7_put 6 = .ok (.iload_n 1, 1) := by decide +kernel
theorem dX7_put_7 : decode cX7_put 7 = .ok (.iload_n 2, 1) := by decide +kernel
theorem dX7_put_8 : decode cX7_put 8 = .ok (.invokevirtual 51, 3) := by decide +kernel
theorem dX7_put_11 : decode cX7_put 11 = .ok (.invokevirtual 55, 3) := by decide +kernel
theorem dX7_put_14 : decode cX7_put 14 = .ok (.ireturn, 1) := by decide +kernel
theorem dX7_takes_0 : decode cX7_takes 0 = .ok (.aload_n 0, 1) := by decide +kernel
theorem dX7_takes_1 : decode cX7_takes 1 = .ok (.iload_n 1, 1) := by decide +kernel
theorem dX7_takes_2 : decode cX7_takes 2 = .ok (.invokevirtual 59, 3) := by decide +kernel
theorem dX7_takes_5 : decode cX7_takes 5 = .ok (.ifCond .ne 6, 3) := by decide +kernel
theorem dX7_takes_8 : decode cX7_takes 8 = .ok (.ldc 42, 2) := by decide +kernel
theorem dX7_takes_10 : decode cX7_takes 10 = .ok (.ireturn, 1) := by decide +kernel
theorem dX7_takes_11 : decode cX7_takes 11 = .ok (.aload_n 0, 1) := by decide +kernel
theorem dX7_takes_12 : decode cX7_takes 12 = .ok (.getfield 7, 3) := by decide +kernel
theorem dX7_takes_15 : decode cX7_takes 15 = .ok (.iconst 1, 1) := by decide +kernel
theorem dX7_takes_16 : decode cX7_takes 16 = .ok (.iload_n 1, 1) := by decide +kernel
theorem dX7_takes_17 : decode cX7_takes 17 = .ok (.iadd, 1) := by decide +kernel
theorem dX7_takes_18 : decode cX7_takes 18 = .ok (.iaload, 1) := by decide +kernel
theorem dX7_takes_19 : decode cX7_takes 19 = .ok (.istore_n 2, 1) := by decide +kernel
theorem dX7_takes_20 : decode cX7_takes 20 = .ok (.aload_n 0, 1) := by decide +kernel
theorem dX7_takes_21 : decode cX7_takes 21 = .ok (.getfield 7, 3) := by decide +kernel
theorem dX7_takes_24 : decode cX7_takes 24 = .ok (.iconst 0, 1) := by decide +kernel
theorem dX7_takes_25 : decode cX7_takes 25 = .ok (.dup2, 1) := by decide +kernel
theorem dX7_takes_26 : decode cX7_takes 26 = .ok (.iaload, 1) := by decide +kernel
theorem dX7_takes_27 : decode cX7_takes 27 = .ok (.iconst 1, 1) := by decide +kernel
theorem dX7_takes_28 : decode cX7_takes 28 = .ok (.isub, 1) := by decide +kernel
theorem dX7_takes_29 : decode cX7_takes 29 = .ok (.iastore, 1) := by decide +kernel
theorem dX7_takes_30 : decode cX7_takes 30 = .ok (.iload_n 1, 1) := by decide +kernel
theorem dX7_takes_31 : decode cX7_takes 31 = .ok (.istore_n 3, 1) := by decide +kernel
theorem dX7_takes_32 : decode cX7_takes 32 = .ok (.iload_n 3, 1) := by decide +kernel
theorem dX7_takes_33 : decode cX7_takes 33 = .ok (.aload_n 0, 1) := by decide +kernel
theorem dX7_takes_34 : decode cX7_takes 34 = .ok (.getfield 7, 3) := by decide +kernel
theorem dX7_takes_37 : decode cX7_takes 37 = .ok (.iconst 0, 1) := by decide +kernel
theorem dX7_takes_38 : decode cX7_takes 38 = .ok (.iaload, 1) := by decide +kernel
theorem dX7_takes_39 : decode cX7_takes 39 = .ok (.if_icmp .ge 27, 3) := by decide +kernel
theorem dX7_takes_42 : decode cX7_takes 42 = .ok (.aload_n 0, 1) := by decide +kernel
theorem dX7_takes_43 : decode cX7_takes 43 = .ok (.getfield 7, 3) := by decide +kernel
theorem dX7_takes_46 : decode cX7_takes 46 = .ok (.iconst 1, 1) := by decide +kernel
theorem dX7_takes_47 : decode cX7_takes 47 = .ok (.iload_n 3, 1) := by decide +kernel
theorem dX7_takes_48 : decode cX7_takes 48 = .ok (.iadd, 1) := by decide +kernel
theorem dX7_takes_49 : decode cX7_takes 49 = .ok (.aload_n 0, 1) := by decide +kernel
theorem dX7_takes_50 : decode cX7_takes 50 = .ok (.getfield 7, 3) := by decide +kernel
theorem dX7_takes_53 : decode cX7_takes 53 = .ok (.iconst 1, 1) := by decide +kernel
theorem dX7_takes_54 : decode cX7_takes 54 = .ok (.iload_n 3, 1) := by decide +kernel
theorem dX7_takes_55 : decode cX7_takes 55 = .ok (.iadd, 1) := by decide +kernel
theorem dX7_takes_56 : decode cX7_takes 56 = .ok (.iconst 1, 1) := by decide +kernel
theorem dX7_takes_57 : decode cX7_takes 57 = .ok (.iadd, 1) := by decide +kernel
theorem dX7_takes_58 : decode cX7_takes 58 = .ok (.iaload, 1) := by decide +kernel
theorem dX7_takes_59 : decode cX7_takes 59 = .ok (.iastore, 1) := by decide +kernel
theorem dX7_takes_60 : decode cX7_takes 60 = .ok (.iinc 3 1, 3) := by decide +kernel
theorem dX7_takes_63 : decode cX7_takes 63 = .ok (.goto (-31), 3) := by decide +kernel
theorem dX7_takes_66 : decode cX7_takes 66 = .ok (.iload_n 2, 1) := by decide +kernel
theorem dX7_takes_67 : decode cX7_takes 67 = .ok (.ireturn, 1) := by decide +kernel
theorem dX7_take_0 : decode cX7_take 0 = .ok (.aload_n 0, 1) := by decide +kernel
theorem dX7_take_1 : decode cX7_take 1 = .ok (.invokevirtual 48, 3) := by decide +kernel
theorem dX7_take_4 : decode cX7_take 4 = .ok (.aload_n 0, 1) := by decide +kernel
theorem dX7_take_5 : decode cX7_take 5 = .ok (.aload_n 0, 1) := by decide +kernel
theorem dX7_take_6 : decode cX7_take 6 = .ok (.iload_n 1, 1) := by decide +kernel
theorem dX7_take_7 : decode cX7_take 7 = .ok (.invokevirtual 63, 3) := by decide +kernel
theorem dX7_take_10 : decode cX7_take 10 = .ok (.invokevirtual 55, 3) := by decide +kernel
theorem dX7_take_13 : decode cX7_take 13 = .ok (.ireturn, 1) := by decide +kernel
theorem dX7_change_0 : decode cX7_change 0 = .ok (.aload_n 0, 1) := by decide +kernel
theorem dX7_change_1 : decode cX7_change 1 = .ok (.iload_n 1, 1) := by decide +kernel
theorem dX7_change_2 : decode cX7_change 2 = .ok (.invokevirtual 59, 3) := by decide +kernel
theorem dX7_change_5 : decode cX7_change 5 = .ok (.ifCond .eq 13, 3) := by decide +kernel
theorem dX7_change_8 : decode cX7_change 8 = .ok (.iload_n 2, 1) := by decide +kernel
theorem dX7_change_9 : decode cX7_change 9 = .ok (.iconst 0, 1) := by decide +kernel
theorem dX7_change_10 : decode cX7_change 10 = .ok (.bipush 15, 2) := by decide +kernel
theorem dX7_change_12 : decode cX7_change 12 = .ok (.invokestatic 38, 3) := by decide +kernel
theorem dX7_change_15 : decode cX7_change 15 = .ok (.ifCond .ne 6, 3) := by decide +kernel
theorem dX7_change_18 : decode cX7_change 18 = .ok (.ldc 42, 2) := by decide +kernel
theorem dX7_change_20 : decode cX7_change 20 = .ok (.ireturn, 1) := by decide +kernel
theorem dX7_change_21 : decode cX7_change 21 = .ok (.aload_n 0, 1) := by decide +kernel
theorem dX7_change_22 : decode cX7_change 22 = .ok (.invokevirtual 48, 3) := by decide +kernel
theorem dX7_change_25 : decode cX7_change 25 = .ok (.aload_n 0, 1) := by decide +kernel
theorem dX7_change_26 : decode cX7_change 26 = .ok (.getfield 7, 3) := by decide +kernel
theorem dX7_change_29 : decode cX7_change 29 = .ok (.iconst 1, 1) := by decide +kernel
theorem dX7_change_30 : decode cX7_change 30 = .ok (.iload_n 1, 1) := by decide +kernel
theorem dX7_change_31 : decode cX7_change 31 = .ok (.iadd, 1) := by decide +kernel
theorem dX7_change_32 : decode cX7_change 32 = .ok (.iaload, 1) := by decide +kernel
theorem dX7_change_33 : decode cX7_change 33 = .ok (.istore_n 3, 1) := by decide +kernel
theorem dX7_change_34 : decode cX7_change 34 = .ok (.aload_n 0, 1) := by decide +kernel
theorem dX7_change_35 : decode cX7_change 35 = .ok (.getfield 7, 3) := by decide +kernel
theorem dX7_change_38 : decode cX7_change 38 = .ok (.iconst 1, 1) := by decide +kernel
theorem dX7_change_39 : decode cX7_change 39 = .ok (.iload_n 1, 1) := by decide +kernel
theorem dX7_change_40 : decode cX7_change 40 = .ok (.iadd, 1) := by decide +kernel
theorem dX7_change_41 : decode cX7_change 41 = .ok (.iload_n 2, 1) := by decide +kernel
theorem dX7_change_42 : decode cX7_change 42 = .ok (.iastore, 1) := by decide +kernel
theorem dX7_change_43 : decode cX7_change 43 = .ok (.aload_n 0, 1) := by decide +kernel
theorem dX7_change_44 : decode cX7_change 44 = .ok (.iload_n 3, 1) := by decide +kernel
theorem dX7_change_45 : decode cX7_change 45 = .ok (.invokevirtual 55, 3) := by decide +kernel
theorem dX7_change_48 : decode cX7_change 48 = .ok (.ireturn, 1) := by decide +kernel
theorem dX7_swaps_0 : decode cX7_swaps 0 = .ok (.aload_n 0, 1) := by decide +kernel
theorem dX7_swaps_1 : decode cX7_swaps 1 = .ok (.iload_n 1, 1) := by decide +kernel
theorem dX7_swaps_2 : decode cX7_swaps 2 = .ok (.invokevirtual 59, 3) := by decide +kernel
theorem dX7_swaps_5 : decode cX7_swaps 5 = .ok (.ifCond .eq 11, 3) := by decide +kernel
theorem dX7_swaps_8 : decode cX7_swaps 8 = .ok (.aload_n 0, 1) := by decide +kernel
theorem dX7_swaps_9 : decode cX7_swaps 9 = .ok (.iload_n 2, 1) := by decide +kernel
theorem dX7_swaps_10 : decode cX7_swaps 10 = .ok (.invokevirtual 59, 3) := by decide +kernel
theorem dX7_swaps_13 : decode cX7_swaps 13 = .ok (.ifCond .ne 6, 3) := by decide +kernel
theorem dX7_swaps_16 : decode cX7_swaps 16 = .ok (.ldc 42, 2) := by decide +kernel
theorem dX7_swaps_18 : decode cX7_swaps 18 = .ok (.ireturn, 1) := by decide +kernel
theorem dX7_swaps_19 : decode cX7_swaps 19 = .ok (.aload_n 0, 1) := by decide +kernel
theorem dX7_swaps_20 : decode cX7_swaps 20 = .ok (.getfield 7, 3) := by decide +kernel
theorem dX7_swaps_23 : decode cX7_swaps 23 = .ok (.iconst 1, 1) := by decide +kernel
theorem dX7_swaps_24 : decode cX7_swaps 24 = .ok (.iload_n 1, 1) := by decide +kernel
theorem dX7_swaps_25 : decode cX7_swaps 25 = .ok (.iadd, 1) := by decide +kernel
theorem dX7_swaps_26 : decode cX7_swaps 26 = .ok (.iaload, 1) := by decide +kernel
theorem dX7_swaps_27 : decode cX7_swaps 27 = .ok (.istore_n 3, 1) := by decide +kernel
theorem dX7_swaps_28 : decode cX7_swaps 28 = .ok (.aload_n 0, 1) := by decide +kernel
theorem dX7_swaps_29 : decode cX7_swaps 29 = .ok (.getfield 7, 3) := by decide +kernel
theorem dX7_swaps_32 : decode cX7_swaps 32 = .ok (.iconst 1, 1) := by decide +kernel
theorem dX7_swaps_33 : decode cX7_swaps 33 = .ok (.iload_n 1, 1) := by decide +kernel
theorem dX7_swaps_34 : decode cX7_swaps 34 = .ok (.iadd, 1) := by decide +kernel
theorem dX7_swaps_35 : decode cX7_swaps 35 = .ok (.aload_n 0, 1) := by decide +kernel
theorem dX7_swaps_36 : decode cX7_swaps 36 = .ok (.getfield 7, 3) := by decide +kernel
theorem dX7_swaps_39 : decode cX7_swaps 39 = .ok (.iconst 1, 1) := by decide +kernel
theorem dX7_swaps_40 : decode cX7_swaps 40 = .ok (.iload_n 2, 1) := by decide +kernel
theorem dX7_swaps_41 : decode cX7_swaps 41 = .ok (.iadd, 1) := by decide +kernel
theorem dX7_swaps_42 : decode cX7_swaps 42 = .ok (.iaload, 1) := by decide +kernel
theorem dX7_swaps_43 : decode cX7_swaps 43 = .ok (.iastore, 1) := by decide +kernel
theorem dX7_swaps_44 : decode cX7_swaps 44 = .ok (.aload_n 0, 1) := by decide +kernel
theorem dX7_swaps_45 : decode cX7_swaps 45 = .ok (.getfield 7, 3) := by decide +kernel
theorem dX7_swaps_48 : decode cX7_swaps 48 = .ok (.iconst 1, 1) := by decide +kernel
theorem dX7_swaps_49 : decode cX7_swaps 49 = .ok (.iload_n 2, 1) := by decide +kernel
theorem dX7_swaps_50 : decode cX7_swaps 50 = .ok (.iadd, 1) := by decide +kernel
theorem dX7_swaps_51 : decode cX7_swaps 51 = .ok (.iload_n 3, 1) := by decide +kernel
theorem dX7_swaps_52 : decode cX7_swaps 52 = .ok (.iastore, 1) := by decide +kernel
theorem dX7_swaps_53 : decode cX7_swaps 53 = .ok (.iload_n 3, 1) := by decide +kernel
theorem dX7_swaps_54 : decode cX7_swaps 54 = .ok (.aload_n 0, 1) := by decide +kernel
theorem dX7_swaps_55 : decode cX7_swaps 55 = .ok (.getfield 7, 3) := by decide +kernel
theorem dX7_swaps_58 : decode cX7_swaps 58 = .ok (.iconst 1, 1) := by decide +kernel
theorem dX7_swaps_59 : decode cX7_swaps 59 = .ok (.iload_n 1, 1) := by decide +kernel
theorem dX7_swaps_60 : decode cX7_swaps 60 = .ok (.iadd, 1) := by decide +kernel
theorem dX7_swaps_61 : decode cX7_swaps 61 = .ok (.iaload, 1) := by decide +kernel
theorem dX7_swaps_62 : decode cX7_swaps 62 = .ok (.if_icmp .eq 7, 3) := by decide +kernel
theorem dX7_swaps_65 : decode cX7_swaps 65 = .ok (.iconst 1, 1) := by decide +kernel
theorem dX7_swaps_66 : decode cX7_swaps 66 = .ok (.goto 4, 3) := by decide +kernel
theorem dX7_swaps_69 : decode cX7_swaps 69 = .ok (.iconst 0, 1) := by decide +kernel
theorem dX7_swaps_70 : decode cX7_swaps 70 = .ok (.ireturn, 1) := by decide +kernel
theorem dX7_swap_0 : decode cX7_swap 0 = .ok (.aload_n 0, 1) := by decide +kernel
theorem dX7_swap_1 : decode cX7_swap 1 = .ok (.invokevirtual 48, 3) := by decide +kernel
theorem dX7_swap_4 : decode cX7_swap 4 = .ok (.aload_n 0, 1) := by decide +kernel
theorem dX7_swap_5 : decode cX7_swap 5 = .ok (.aload_n 0, 1) := by decide +kernel
theorem dX7_swap_6 : decode cX7_swap 6 = .ok (.iload_n 1, 1) := by decide +kernel
theorem dX7_swap_7 : decode cX7_swap 7 = .ok (.iload_n 2, 1) := by decide +kernel
theorem dX7_swap_8 : decode cX7_swap 8 = .ok (.invokevirtual 66, 3) := by decide +kernel
theorem dX7_swap_11 : decode cX7_swap 11 = .ok (.invokevirtual 55, 3) := by decide +kernel
theorem dX7_swap_14 : decode cX7_swap 14 = .ok (.ireturn, 1) := by decide +kernel
theorem dX7_turns_0 : decode cX7_turns 0 = .ok (.aload_n 0, 1) := by decide +kernel
theorem dX7_turns_1 : decode cX7_turns 1 = .ok (.iload_n 1, 1) := by decide +kernel
theorem dX7_turns_2 : decode cX7_turns 2 = .ok (.iload_n 2, 1) := by decide +kernel
theorem dX7_turns_3 : decode cX7_turns 3 = .ok (.invokevirtual 69, 3) := by decide +kernel
theorem dX7_turns_6 : decode cX7_turns 6 = .ok (.ifCond .ne 6, 3) := by decide +kernel
theorem dX7_turns_9 : decode cX7_turns 9 = .ok (.ldc 42, 2) := by decide +kernel
theorem dX7_turns_11 : decode cX7_turns 11 = .ok (.ireturn, 1) := by decide +kernel
theorem dX7_turns_12 : decode cX7_turns 12 = .ok (.iconst 0, 1) := by decide +kernel
theorem dX7_turns_13 : decode cX7_turns 13 = .ok (.istore_n 3, 1) := by decide +kernel
theorem dX7_turns_14 : decode cX7_turns 14 = .ok (.iconst 0, 1) := by decide +kernel
theorem dX7_turns_15 : decode cX7_turns 15 = .ok (.istore 4, 2) := by decide +kernel
theorem dX7_turns_17 : decode cX7_turns 17 = .ok (.iload 4, 2) := by decide +kernel
theorem dX7_turns_19 : decode cX7_turns 19 = .ok (.iload_n 2, 1) := by decide +kernel
theorem dX7_turns_20 : decode cX7_turns 20 = .ok (.iload_n 1, 1) := by decide +kernel
theorem dX7_turns_21 : decode cX7_turns 21 = .ok (.isub, 1) := by decide +kernel
theorem dX7_turns_22 : decode cX7_turns 22 = .ok (.iconst 2, 1) := by decide +kernel
theorem dX7_turns_23 : decode cX7_turns 23 = .ok (.idiv, 1) := by decide +kernel
theorem dX7_turns_24 : decode cX7_turns 24 = .ok (.if_icmp .ge 28, 3) := by decide +kernel
theorem dX7_turns_27 : decode cX7_turns 27 = .ok (.iload_n 3, 1) := by decide +kernel
theorem dX7_turns_28 : decode cX7_turns 28 = .ok (.iconst 2, 1) := by decide +kernel
theorem dX7_turns_29 : decode cX7_turns 29 = .ok (.aload_n 0, 1) := by decide +kernel
theorem dX7_turns_30 : decode cX7_turns 30 = .ok (.iload_n 1, 1) := by decide +kernel
theorem dX7_turns_31 : decode cX7_turns 31 = .ok (.iload 4, 2) := by decide +kernel
theorem dX7_turns_33 : decode cX7_turns 33 = .ok (.iadd, 1) := by decide +kernel
theorem dX7_turns_34 : decode cX7_turns 34 = .ok (.iload_n 2, 1) := by decide +kernel
theorem dX7_turns_35 : decode cX7_turns 35 = .ok (.iconst 1, 1) := by decide +kernel
theorem dX7_turns_36 : decode cX7_turns 36 = .ok (.isub, 1) := by decide +kernel
theorem dX7_turns_37 : decode cX7_turns 37 = .ok (.iload 4, 2) := by decide +kernel
theorem dX7_turns_39 : decode cX7_turns 39 = .ok (.isub, 1) := by decide +kernel
theorem dX7_turns_40 : decode cX7_turns 40 = .ok (.invokevirtual 66, 3) := by decide +kernel
theorem dX7_turns_43 : decode cX7_turns 43 = .ok (.imul, 1) := by decide +kernel
theorem dX7_turns_44 : decode cX7_turns 44 = .ok (.iadd, 1) := by decide +kernel
theorem dX7_turns_45 : decode cX7_turns 45 = .ok (.istore_n 3, 1) := by decide +kernel
theorem dX7_turns_46 : decode cX7_turns 46 = .ok (.iinc 4 1, 3) := by decide +kernel
theorem dX7_turns_49 : decode cX7_turns 49 = .ok (.goto (-32), 3) := by decide +kernel
theorem dX7_turns_52 : decode cX7_turns 52 = .ok (.iload_n 3, 1) := by decide +kernel
theorem dX7_turns_53 : decode cX7_turns 53 = .ok (.ireturn, 1) := by decide +kernel
theorem dX7_turn_0 : decode cX7_turn 0 = .ok (.aload_n 0, 1) := by decide +kernel
theorem dX7_turn_1 : decode cX7_turn 1 = .ok (.invokevirtual 48, 3) := by decide +kernel
theorem dX7_turn_4 : decode cX7_turn 4 = .ok (.aload_n 0, 1) := by decide +kernel
theorem dX7_turn_5 : decode cX7_turn 5 = .ok (.aload_n 0, 1) := by decide +kernel
theorem dX7_turn_6 : decode cX7_turn 6 = .ok (.iload_n 1, 1) := by decide +kernel
theorem dX7_turn_7 : decode cX7_turn 7 = .ok (.iload_n 2, 1) := by decide +kernel
theorem dX7_turn_8 : decode cX7_turn 8 = .ok (.invokevirtual 73, 3) := by decide +kernel
theorem dX7_turn_11 : decode cX7_turn 11 = .ok (.invokevirtual 55, 3) := by decide +kernel
theorem dX7_turn_14 : decode cX7_turn 14 = .ok (.ireturn, 1) := by decide +kernel
theorem dX7_counts_0 : decode cX7_counts 0 = .ok (.iconst 0, 1) := by decide +kernel
theorem dX7_counts_1 : decode cX7_counts 1 = .ok (.istore_n 3, 1) := by decide +kernel
theorem dX7_counts_2 : decode cX7_counts 2 = .ok (.iload_n 3, 1) := by decide +kernel
theorem dX7_counts_3 : decode cX7_counts 3 = .ok (.bipush 16, 2) := by decide +kernel
theorem dX7_counts_5 : decode cX7_counts 5 = .ok (.if_icmp .ge 16, 3) := by decide +kernel
theorem dX7_counts_8 : decode cX7_counts 8 = .ok (.aload_n 0, 1) := by decide +kernel
theorem dX7_counts_9 : decode cX7_counts 9 = .ok (.getfield 32, 3) := by decide +kernel
theorem dX7_counts_12 : decode cX7_counts 12 = .ok (.iload_n 3, 1) := by decide +kernel
theorem dX7_counts_13 : decode cX7_counts 13 = .ok (.iconst 0, 1) := by decide +kernel
theorem dX7_counts_14 : decode cX7_counts 14 = .ok (.iastore, 1) := by decide +kernel
theorem dX7_counts_15 : decode cX7_counts 15 = .ok (.iinc 3 1, 3) := by decide +kernel
theorem dX7_counts_18 : decode cX7_counts 18 = .ok (.goto (-16), 3) := by decide +kernel
theorem dX7_counts_21 : decode cX7_counts 21 = .ok (.iload_n 1, 1) := by decide +kernel
theorem dX7_counts_22 : decode cX7_counts 22 = .ok (.istore_n 3, 1) := by decide +kernel
theorem dX7_counts_23 : decode cX7_counts 23 = .ok (.iload_n 3, 1) := by decide +kernel
theorem dX7_counts_24 : decode cX7_counts 24 = .ok (.iload_n 2, 1) := by decide +kernel
theorem dX7_counts_25 : decode cX7_counts 25 = .ok (.if_icmp .ge 26, 3) := by decide +kernel
theorem dX7_counts_28 : decode cX7_counts 28 = .ok (.aload_n 0, 1) := by decide +kernel
theorem dX7_counts_29 : decode cX7_counts 29 = .ok (.getfield 32, 3) := by decide +kernel
theorem dX7_counts_32 : decode cX7_counts 32 = .ok (.aload_n 0, 1) := by decide +kernel
theorem dX7_counts_33 : decode cX7_counts 33 = .ok (.getfield 7, 3) := by decide +kernel
theorem dX7_counts_36 : decode cX7_counts 36 = .ok (.iconst 1, 1) := by decide +kernel
theorem dX7_counts_37 : decode cX7_counts 37 = .ok (.iload_n 3, 1) := by decide +kernel
theorem dX7_counts_38 : decode cX7_counts 38 = .ok (.iadd, 1) := by decide +kernel
theorem dX7_counts_39 : decode cX7_counts 39 = .ok (.iaload, 1) := by decide +kernel
theorem dX7_counts_40 : decode cX7_counts 40 = .ok (.dup2, 1) := by decide +kernel
theorem dX7_counts_41 : decode cX7_counts 41 = .ok (.iaload, 1) := by decide +kernel
theorem dX7_counts_42 : decode cX7_counts 42 = .ok (.iconst 1, 1) := by decide +kernel
theorem dX7_counts_43 : decode cX7_counts 43 = .ok (.iadd, 1) := by decide +kernel
theorem dX7_counts_44 : decode cX7_counts 44 = .ok (.iastore, 1) := by decide +kernel
theorem dX7_counts_45 : decode cX7_counts 45 = .ok (.iinc 3 1, 3) := by decide +kernel
theorem dX7_counts_48 : decode cX7_counts 48 = .ok (.goto (-25), 3) := by decide +kernel
theorem dX7_counts_51 : decode cX7_counts 51 = .ok (.return_, 1) := by decide +kernel
theorem dX7_sort_0 : decode cX7_sort 0 = .ok (.aload_n 0, 1) := by decide +kernel
theorem dX7_sort_1 : decode cX7_sort 1 = .ok (.iload_n 1, 1) := by decide +kernel
theorem dX7_sort_2 : decode cX7_sort 2 = .ok (.iload_n 2, 1) := by decide +kernel
theorem dX7_sort_3 : decode cX7_sort 3 = .ok (.invokevirtual 69, 3) := by decide +kernel
theorem dX7_sort_6 : decode cX7_sort 6 = .ok (.ifCond .ne 6, 3) := by decide +kernel
theorem dX7_sort_9 : decode cX7_sort 9 = .ok (.ldc 42, 2) := by decide +kernel
theorem dX7_sort_11 : decode cX7_sort 11 = .ok (.ireturn, 1) := by decide +kernel
theorem dX7_sort_12 : decode cX7_sort 12 = .ok (.aload_n 0, 1) := by decide +kernel
theorem dX7_sort_13 : decode cX7_sort 13 = .ok (.invokevirtual 48, 3) := by decide +kernel
theorem dX7_sort_16 : decode cX7_sort 16 = .ok (.aload_n 0, 1) := by decide +kernel
theorem dX7_sort_17 : decode cX7_sort 17 = .ok (.iload_n 1, 1) := by decide +kernel
theorem dX7_sort_18 : decode cX7_sort 18 = .ok (.iload_n 2, 1) := by decide +kernel
theorem dX7_sort_19 : decode cX7_sort 19 = .ok (.invokevirtual 76, 3) := by decide +kernel
theorem dX7_sort_22 : decode cX7_sort 22 = .ok (.iload_n 1, 1) := by decide +kernel
theorem dX7_sort_23 : decode cX7_sort 23 = .ok (.istore_n 3, 1) := by decide +kernel
theorem dX7_sort_24 : decode cX7_sort 24 = .ok (.iconst 0, 1) := by decide +kernel
theorem dX7_sort_25 : decode cX7_sort 25 = .ok (.istore 4, 2) := by decide +kernel
theorem dX7_sort_27 : decode cX7_sort 27 = .ok (.iconst 0, 1) := by decide +kernel
theorem dX7_sort_28 : decode cX7_sort 28 = .ok (.istore 5, 2) := by decide +kernel
theorem dX7_sort_30 : decode cX7_sort 30 = .ok (.iload 5, 2) := by decide +kernel
theorem dX7_sort_32 : decode cX7_sort 32 = .ok (.bipush 16, 2) := by decide +kernel
theorem dX7_sort_34 : decode cX7_sort 34 = .ok (.if_icmp .ge 66, 3) := by decide +kernel
theorem dX7_sort_37 : decode cX7_sort 37 = .ok (.iconst 0, 1) := by decide +kernel
theorem dX7_sort_38 : decode cX7_sort 38 = .ok (.istore 6, 2) := by decide +kernel
theorem dX7_sort_40 : decode cX7_sort 40 = .ok (.iload 6, 2) := by decide +kernel
theorem dX7_sort_42 : decode cX7_sort 42 = .ok (.aload_n 0, 1) := by decide +kernel
theorem dX7_sort_43 : decode cX7_sort 43 = .ok (.getfield 32, 3) := by decide +kernel
theorem dX7_sort_46 : decode cX7_sort 46 = .ok (.iload 5, 2) := by decide +kernel
theorem dX7_sort_48 : decode cX7_sort 48 = .ok (.iaload, 1) := by decide +kernel
theorem dX7_sort_49 : decode cX7_sort 49 = .ok (.if_icmp .ge 45, 3) := by decide +kernel
theorem dX7_sort_52 : decode cX7_sort 52 = .ok (.aload_n 0, 1) := by decide +kernel
theorem dX7_sort_53 : decode cX7_sort 53 = .ok (.getfield 7, 3) := by decide +kernel
theorem dX7_sort_56 : decode cX7_sort 56 = .ok (.iconst 1, 1) := by decide +kernel
theorem dX7_sort_57 : decode cX7_sort 57 = .ok (.iload_n 3, 1) := by decide +kernel
theorem dX7_sort_58 : decode cX7_sort 58 = .ok (.iadd, 1) := by decide +kernel
theorem dX7_sort_59 : decode cX7_sort 59 = .ok (.iload 5, 2) := by decide +kernel
theorem dX7_sort_61 : decode cX7_sort 61 = .ok (.iastore, 1) := by decide +kernel
theorem dX7_sort_62 : decode cX7_sort 62 = .ok (.iload 4, 2) := by decide +kernel
theorem dX7_sort_64 : decode cX7_sort 64 = .ok (.aload_n 0, 1) := by decide +kernel
theorem dX7_sort_65 : decode cX7_sort 65 = .ok (.getfield 16, 3) := by decide +kernel
theorem dX7_sort_68 : decode cX7_sort 68 = .ok (.iconst 1, 1) := by decide +kernel
theorem dX7_sort_69 : decode cX7_sort 69 = .ok (.iload_n 3, 1) := by decide +kernel
theorem dX7_sort_70 : decode cX7_sort 70 = .ok (.iadd, 1) := by decide +kernel
theorem dX7_sort_71 : decode cX7_sort 71 = .ok (.iaload, 1) := by decide +kernel
theorem dX7_sort_72 : decode cX7_sort 72 = .ok (.iload 5, 2) := by decide +kernel
theorem dX7_sort_74 : decode cX7_sort 74 = .ok (.if_icmp .eq 7, 3) := by decide +kernel
theorem dX7_sort_77 : decode cX7_sort 77 = .ok (.iconst 1, 1) := by decide +kernel
theorem dX7_sort_78 : decode cX7_sort 78 = .ok (.goto 4, 3) := by decide +kernel
theorem dX7_sort_81 : decode cX7_sort 81 = .ok (.iconst 0, 1) := by decide +kernel
theorem dX7_sort_82 : decode cX7_sort 82 = .ok (.iadd, 1) := by decide +kernel
theorem dX7_sort_83 : decode cX7_sort 83 = .ok (.istore 4, 2) := by decide +kernel
theorem dX7_sort_85 : decode cX7_sort 85 = .ok (.iinc 3 1, 3) := by decide +kernel
theorem dX7_sort_88 : decode cX7_sort 88 = .ok (.iinc 6 1, 3) := by decide +kernel
theorem dX7_sort_91 : decode cX7_sort 91 = .ok (.goto (-51), 3) := by decide +kernel
theorem dX7_sort_94 : decode cX7_sort 94 = .ok (.iinc 5 1, 3) := by decide +kernel
theorem dX7_sort_97 : decode cX7_sort 97 = .ok (.goto (-67), 3) := by decide +kernel
theorem dX7_sort_100 : decode cX7_sort 100 = .ok (.aload_n 0, 1) := by decide +kernel
theorem dX7_sort_101 : decode cX7_sort 101 = .ok (.iload 4, 2) := by decide +kernel
theorem dX7_sort_103 : decode cX7_sort 103 = .ok (.invokevirtual 55, 3) := by decide +kernel
theorem dX7_sort_106 : decode cX7_sort 106 = .ok (.ireturn, 1) := by decide +kernel
theorem dX7_bit_0 : decode cX7_bit 0 = .ok (.aload_n 0, 1) := by decide +kernel
theorem dX7_bit_1 : decode cX7_bit 1 = .ok (.getfield 7, 3) := by decide +kernel
theorem dX7_bit_4 : decode cX7_bit 4 = .ok (.iconst 1, 1) := by decide +kernel
theorem dX7_bit_5 : decode cX7_bit 5 = .ok (.aload_n 0, 1) := by decide +kernel
theorem dX7_bit_6 : decode cX7_bit 6 = .ok (.getfield 26, 3) := by decide +kernel
theorem dX7_bit_9 : decode cX7_bit 9 = .ok (.bipush 60, 2) := by decide +kernel
theorem dX7_bit_11 : decode cX7_bit 11 = .ok (.iload_n 1, 1) := by decide +kernel
theorem dX7_bit_12 : decode cX7_bit 12 = .ok (.imul, 1) := by decide +kernel
theorem dX7_bit_13 : decode cX7_bit 13 = .ok (.iload_n 2, 1) := by decide +kernel
theorem dX7_bit_14 : decode cX7_bit 14 = .ok (.iadd, 1) := by decide +kernel
theorem dX7_bit_15 : decode cX7_bit 15 = .ok (.iaload, 1) := by decide +kernel
theorem dX7_bit_16 : decode cX7_bit 16 = .ok (.iadd, 1) := by decide +kernel
theorem dX7_bit_17 : decode cX7_bit 17 = .ok (.iaload, 1) := by decide +kernel
theorem dX7_bit_18 : decode cX7_bit 18 = .ok (.iconst 3, 1) := by decide +kernel
theorem dX7_bit_19 : decode cX7_bit 19 = .ok (.iload_n 1, 1) := by decide +kernel
theorem dX7_bit_20 : decode cX7_bit 20 = .ok (.isub, 1) := by decide +kernel
theorem dX7_bit_21 : decode cX7_bit 21 = .ok (.ishr, 1) := by decide +kernel
theorem dX7_bit_22 : decode cX7_bit 22 = .ok (.iconst 1, 1) := by decide +kernel
theorem dX7_bit_23 : decode cX7_bit 23 = .ok (.iand, 1) := by decide +kernel
theorem dX7_bit_24 : decode cX7_bit 24 = .ok (.ireturn, 1) := by decide +kernel
theorem dX7_lays_0 : decode cX7_lays 0 = .ok (.iconst 0, 1) := by decide +kernel
theorem dX7_lays_1 : decode cX7_lays 1 = .ok (.istore_n 1, 1) := by decide +kernel
theorem dX7_lays_2 : decode cX7_lays 2 = .ok (.iload_n 1, 1) := by decide +kernel
theorem dX7_lays_3 : decode cX7_lays 3 = .ok (.aload_n 0, 1) := by decide +kernel
theorem dX7_lays_4 : decode cX7_lays 4 = .ok (.getfield 7, 3) := by decide +kernel
theorem dX7_lays_7 : decode cX7_lays 7 = .ok (.iconst 0, 1) := by decide +kernel
theorem dX7_lays_8 : decode cX7_lays 8 = .ok (.iaload, 1) := by decide +kernel
theorem dX7_lays_9 : decode cX7_lays 9 = .ok (.if_icmp .ge 16, 3) := by decide +kernel
theorem dX7_lays_12 : decode cX7_lays 12 = .ok (.aload_n 0, 1) := by decide +kernel
theorem dX7_lays_13 : decode cX7_lays 13 = .ok (.getfield 26, 3) := by decide +kernel
theorem dX7_lays_16 : decode cX7_lays 16 = .ok (.iload_n 1, 1) := by decide +kernel
theorem dX7_lays_17 : decode cX7_lays 17 = .ok (.iload_n 1, 1) := by decide +kernel
theorem dX7_lays_18 : decode cX7_lays 18 = .ok (.iastore, 1) := by decide +kernel
theorem dX7_lays_19 : decode cX7_lays 19 = .ok (.iinc 1 1, 3) := by decide +kernel
theorem dX7_lays_22 : decode cX7_lays 22 = .ok (.goto (-20), 3) := by decide +kernel
theorem dX7_lays_25 : decode cX7_lays 25 = .ok (.iconst 0, 1) := by decide +kernel
theorem dX7_lays_26 : decode cX7_lays 26 = .ok (.istore_n 1, 1) := by decide +kernel
theorem dX7_lays_27 : decode cX7_lays 27 = .ok (.iload_n 1, 1) := by decide +kernel
theorem dX7_lays_28 : decode cX7_lays 28 = .ok (.iconst 4, 1) := by decide +kernel
theorem dX7_lays_29 : decode cX7_lays 29 = .ok (.if_icmp .ge 97, 3) := by decide +kernel
theorem dX7_lays_32 : decode cX7_lays 32 = .ok (.iconst 0, 1) := by decide +kernel
theorem dX7_lays_33 : decode cX7_lays 33 = .ok (.istore_n 2, 1) := by decide +kernel
theorem dX7_lays_34 : decode cX7_lays 34 = .ok (.iconst 0, 1) := by decide +kernel
theorem dX7_lays_35 : decode cX7_lays 35 = .ok (.istore_n 3, 1) := by decide +kernel
theorem dX7_lays_36 : decode cX7_lays 36 = .ok (.iload_n 3, 1) := by decide +kernel
theorem dX7_lays_37 : decode cX7_lays 37 = .ok (.iconst 2, 1) := by decide +kernel
theorem dX7_lays_38 : decode cX7_lays 38 = .ok (.if_icmp .ge 82, 3) := by decide +kernel
theorem dX7_lays_41 : decode cX7_lays 41 = .ok (.iconst 0, 1) := by decide +kernel
theorem dX7_lays_42 : decode cX7_lays 42 = .ok (.istore 4, 2) := by decide +kernel
theorem dX7_lays_44 : decode cX7_lays 44 = .ok (.iload 4, 2) := by decide +kernel
theorem dX7_lays_46 : decode cX7_lays 46 = .ok (.aload_n 0, 1) := by decide +kernel
theorem dX7_lays_47 : decode cX7_lays 47 = .ok (.getfield 7, 3) := by decide +kernel
theorem dX7_lays_50 : decode cX7_lays 50 = .ok (.iconst 0, 1) := by decide +kernel
theorem dX7_lays_51 : decode cX7_lays 51 = .ok (.iaload, 1) := by decide +kernel
theorem dX7_lays_52 : decode cX7_lays 52 = .ok (.if_icmp .ge 62, 3) := by decide +kernel
theorem dX7_lays_55 : decode cX7_lays 55 = .ok (.aload_n 0, 1) := by decide +kernel
theorem dX7_lays_56 : decode cX7_lays 56 = .ok (.iload_n 1, 1) := by decide +kernel
theorem dX7_lays_57 : decode cX7_lays 57 = .ok (.iload 4, 2) := by decide +kernel
theorem dX7_lays_59 : decode cX7_lays 59 = .ok (.invokevirtual 80, 3) := by decide +kernel
theorem dX7_lays_62 : decode cX7_lays 62 = .ok (.iload_n 3, 1) := by decide +kernel
theorem dX7_lays_63 : decode cX7_lays 63 = .ok (.if_icmp .ne 45, 3) := by decide +kernel
theorem dX7_lays_66 : decode cX7_lays 66 = .ok (.aload_n 0, 1) := by decide +kernel
theorem dX7_lays_67 : decode cX7_lays 67 = .ok (.getfield 29, 3) := by decide +kernel
theorem dX7_lays_70 : decode cX7_lays 70 = .ok (.bipush 60, 2) := by decide +kernel
theorem dX7_lays_72 : decode cX7_lays 72 = .ok (.iload_n 1, 1) := by decide +kernel
theorem dX7_lays_73 : decode cX7_lays 73 = .ok (.imul, 1) := by decide +kernel
theorem dX7_lays_74 : decode cX7_lays 74 = .ok (.iload 4, 2) := by decide +kernel
theorem dX7_lays_76 : decode cX7_lays 76 = .ok (.iadd, 1) := by decide +kernel
theorem dX7_lays_77 : decode cX7_lays 77 = .ok (.iload_n 2, 1) := by decide +kernel
theorem dX7_lays_78 : decode cX7_lays 78 = .ok (.iastore, 1) := by decide +kernel
theorem dX7_lays_79 : decode cX7_lays 79 = .ok (.aload_n 0, 1) := by decide +kernel
theorem dX7_lays_80 : decode cX7_lays 80 = .ok (.getfield 26, 3) := by decide +kernel
theorem dX7_lays_83 : decode cX7_lays 83 = .ok (.bipush 60, 2) := by decide +kernel
theorem dX7_lays_85 : decode cX7_lays 85 = .ok (.iload_n 1, 1) := by decide +kernel
theorem dX7_lays_86 : decode cX7_lays 86 = .ok (.imul, 1) := by decide +kernel
theorem dX7_lays_87 : decode cX7_lays 87 = .ok (.bipush 60, 2) := by decide +kernel
theorem dX7_lays_89 : decode cX7_lays 89 = .ok (.iadd, 1) := by decide +kernel
theorem dX7_lays_90 : decode cX7_lays 90 = .ok (.iload_n 2, 1) := by decide +kernel
theorem dX7_lays_91 : decode cX7_lays 91 = .ok (.iadd, 1) := by decide +kernel
theorem dX7_lays_92 : decode cX7_lays 92 = .ok (.aload_n 0, 1) := by decide +kernel
theorem dX7_lays_93 : decode cX7_lays 93 = .ok (.getfield 26, 3) := by decide +kernel
theorem dX7_lays_96 : decode cX7_lays 96 = .ok (.bipush 60, 2) := by decide +kernel
theorem dX7_lays_98 : decode cX7_lays 98 = .ok (.iload_n 1, 1) := by decide +kernel
theorem dX7_lays_99 : decode cX7_lays 99 = .ok (.imul, 1) := by decide +kernel
theorem dX7_lays_100 : decode cX7_lays 100 = .ok (.iload 4, 2) := by decide +kernel
theorem dX7_lays_102 : decode cX7_lays 102 = .ok (.iadd, 1) := by decide +kernel
theorem dX7_lays_103 : decode cX7_lays 103 = .ok (.iaload, 1) := by decide +kernel
theorem dX7_lays_104 : decode cX7_lays 104 = .ok (.iastore, 1) := by decide +kernel
theorem dX7_lays_105 : decode cX7_lays 105 = .ok (.iinc 2 1, 3) := by decide +kernel
theorem dX7_lays_108 : decode cX7_lays 108 = .ok (.iinc 4 1, 3) := by decide +kernel
theorem dX7_lays_111 : decode cX7_lays 111 = .ok (.goto (-67), 3) := by decide +kernel
theorem dX7_lays_114 : decode cX7_lays 114 = .ok (.iinc 3 1, 3) := by decide +kernel
theorem dX7_lays_117 : decode cX7_lays 117 = .ok (.goto (-81), 3) := by decide +kernel
theorem dX7_lays_120 : decode cX7_lays 120 = .ok (.iinc 1 1, 3) := by decide +kernel
theorem dX7_lays_123 : decode cX7_lays 123 = .ok (.goto (-96), 3) := by decide +kernel
theorem dX7_lays_126 : decode cX7_lays 126 = .ok (.return_, 1) := by decide +kernel
theorem dX7_levelOf_0 : decode cX7_levelOf 0 = .ok (.iload_n 1, 1) := by decide +kernel
theorem dX7_levelOf_1 : decode cX7_levelOf 1 = .ok (.iconst 0, 1) := by decide +kernel
theorem dX7_levelOf_2 : decode cX7_levelOf 2 = .ok (.iconst 4, 1) := by decide +kernel
theorem dX7_levelOf_3 : decode cX7_levelOf 3 = .ok (.invokestatic 38, 3) := by decide +kernel
theorem dX7_levelOf_6 : decode cX7_levelOf 6 = .ok (.ifCond .eq 20, 3) := by decide +kernel
theorem dX7_levelOf_9 : decode cX7_levelOf 9 = .ok (.aload_n 0, 1) := by decide +kernel
theorem dX7_levelOf_10 : decode cX7_levelOf 10 = .ok (.iload_n 2, 1) := by decide +kernel
theorem dX7_levelOf_11 : decode cX7_levelOf 11 = .ok (.invokevirtual 59, 3) := by decide +kernel
theorem dX7_levelOf_14 : decode cX7_levelOf 14 = .ok (.ifCond .eq 12, 3) := by decide +kernel
theorem dX7_levelOf_17 : decode cX7_levelOf 17 = .ok (.iload_n 3, 1) := by decide +kernel
theorem dX7_levelOf_18 : decode cX7_levelOf 18 = .ok (.iconst 0, 1) := by decide +kernel
theorem dX7_levelOf_19 : decode cX7_levelOf 19 = .ok (.iconst 3, 1) := by decide +kernel
theorem dX7_levelOf_20 : decode cX7_levelOf 20 = .ok (.invokestatic 38, 3) := by decide +kernel
theorem dX7_levelOf_23 : decode cX7_levelOf 23 = .ok (.ifCond .ne 6, 3) := by decide +kernel
theorem dX7_levelOf_26 : decode cX7_levelOf 26 = .ok (.ldc 42, 2) := by decide +kernel
theorem dX7_levelOf_28 : decode cX7_levelOf 28 = .ok (.ireturn, 1) := by decide +kernel
theorem dX7_levelOf_29 : decode cX7_levelOf 29 = .ok (.iload_n 1, 1) := by decide +kernel
theorem dX7_levelOf_30 : decode cX7_levelOf 30 = .ok (.iconst 4, 1) := by decide +kernel
theorem dX7_levelOf_31 : decode cX7_levelOf 31 = .ok (.if_icmp .ne 15, 3) := by decide +kernel
theorem dX7_levelOf_34 : decode cX7_levelOf 34 = .ok (.iload_n 3, 1) := by decide +kernel
theorem dX7_levelOf_35 : decode cX7_levelOf 35 = .ok (.iconst 1, 1) := by decide +kernel
theorem dX7_levelOf_36 : decode cX7_levelOf 36 = .ok (.iconst 2, 1) := by decide +kernel
theorem dX7_levelOf_37 : decode cX7_levelOf 37 = .ok (.invokestatic 38, 3) := by decide +kernel
theorem dX7_levelOf_40 : decode cX7_levelOf 40 = .ok (.ifCond .eq 6, 3) := by decide +kernel
theorem dX7_levelOf_43 : decode cX7_levelOf 43 = .ok (.ldc 83, 2) := by decide +kernel
theorem dX7_levelOf_45 : decode cX7_levelOf 45 = .ok (.ireturn, 1) := by decide +kernel
theorem dX7_levelOf_46 : decode cX7_levelOf 46 = .ok (.aload_n 0, 1) := by decide +kernel
theorem dX7_levelOf_47 : decode cX7_levelOf 47 = .ok (.invokevirtual 84, 3) := by decide +kernel
theorem dX7_levelOf_50 : decode cX7_levelOf 50 = .ok (.bipush 60, 2) := by decide +kernel
theorem dX7_levelOf_52 : decode cX7_levelOf 52 = .ok (.iload_n 1, 1) := by decide +kernel
theorem dX7_levelOf_53 : decode cX7_levelOf 53 = .ok (.imul, 1) := by decide +kernel
theorem dX7_levelOf_54 : decode cX7_levelOf 54 = .ok (.iload_n 2, 1) := by decide +kernel
theorem dX7_levelOf_55 : decode cX7_levelOf 55 = .ok (.iadd, 1) := by decide +kernel
theorem dX7_levelOf_56 : decode cX7_levelOf 56 = .ok (.istore 4, 2) := by decide +kernel
theorem dX7_levelOf_58 : decode cX7_levelOf 58 = .ok (.iload_n 3, 1) := by decide +kernel
theorem dX7_levelOf_59 : decode cX7_levelOf 59 = .ok (.ifCond .ne 20, 3) := by decide +kernel
theorem dX7_levelOf_62 : decode cX7_levelOf 62 = .ok (.aload_n 0, 1) := by decide +kernel
theorem dX7_levelOf_63 : decode cX7_levelOf 63 = .ok (.getfield 7, 3) := by decide +kernel
theorem dX7_levelOf_66 : decode cX7_levelOf 66 = .ok (.iconst 1, 1) := by decide +kernel
theorem dX7_levelOf_67 : decode cX7_levelOf 67 = .ok (.aload_n 0, 1) := by decide +kernel
theorem dX7_levelOf_68 : decode cX7_levelOf 68 = .ok (.getfield 26, 3) := by decide +kernel
theorem dX7_levelOf_71 : decode cX7_levelOf 71 = .ok (.iload 4, 2) := by decide +kernel
theorem dX7_levelOf_73 : decode cX7_levelOf 73 = .ok (.iaload, 1) := by decide +kernel
theorem dX7_levelOf_74 : decode cX7_levelOf 74 = .ok (.iadd, 1) := by decide +kernel
theorem dX7_levelOf_75 : decode cX7_levelOf 75 = .ok (.iaload, 1) := by decide +kernel
theorem dX7_levelOf_76 : decode cX7_levelOf 76 = .ok (.goto 39, 3) := by decide +kernel
theorem dX7_levelOf_79 : decode cX7_levelOf 79 = .ok (.iload_n 3, 1) := by decide +kernel
theorem dX7_levelOf_80 : decode cX7_levelOf 80 = .ok (.iconst 1, 1) := by decide +kernel
theorem dX7_levelOf_81 : decode cX7_levelOf 81 = .ok (.if_icmp .ne 12, 3) := by decide +kernel
theorem dX7_levelOf_84 : decode cX7_levelOf 84 = .ok (.aload_n 0, 1) := by decide +kernel
theorem dX7_levelOf_85 : decode cX7_levelOf 85 = .ok (.iload_n 1, 1) := by decide +kernel
theorem dX7_levelOf_86 : decode cX7_levelOf 86 = .ok (.iload_n 2, 1) := by decide +kernel
theorem dX7_levelOf_87 : decode cX7_levelOf 87 = .ok (.invokevirtual 80, 3) := by decide +kernel
theorem dX7_levelOf_90 : decode cX7_levelOf 90 = .ok (.goto 25, 3) := by decide +kernel
theorem dX7_levelOf_93 : decode cX7_levelOf 93 = .ok (.iload_n 3, 1) := by decide +kernel
theorem dX7_levelOf_94 : decode cX7_levelOf 94 = .ok (.iconst 2, 1) := by decide +kernel
theorem dX7_levelOf_95 : decode cX7_levelOf 95 = .ok (.if_icmp .ne 13, 3) := by decide +kernel
theorem dX7_levelOf_98 : decode cX7_levelOf 98 = .ok (.aload_n 0, 1) := by decide +kernel
theorem dX7_levelOf_99 : decode cX7_levelOf 99 = .ok (.getfield 29, 3) := by decide +kernel
theorem dX7_levelOf_102 : decode cX7_levelOf 102 = .ok (.iload 4, 2) := by decide +kernel
theorem dX7_levelOf_104 : decode cX7_levelOf 104 = .ok (.iaload, 1) := by decide +kernel
theorem dX7_levelOf_105 : decode cX7_levelOf 105 = .ok (.goto 10, 3) := by decide +kernel
theorem dX7_levelOf_108 : decode cX7_levelOf 108 = .ok (.aload_n 0, 1) := by decide +kernel
theorem dX7_levelOf_109 : decode cX7_levelOf 109 = .ok (.getfield 26, 3) := by decide +kernel
theorem dX7_levelOf_112 : decode cX7_levelOf 112 = .ok (.iload 4, 2) := by decide +kernel
theorem dX7_levelOf_114 : decode cX7_levelOf 114 = .ok (.iaload, 1) := by decide +kernel
theorem dX7_levelOf_115 : decode cX7_levelOf 115 = .ok (.ireturn, 1) := by decide +kernel
theorem dX7_blocks_0 : decode cX7_blocks 0 = .ok (.aload_n 0, 1) := by decide +kernel
theorem dX7_blocks_1 : decode cX7_blocks 1 = .ok (.getfield 7, 3) := by decide +kernel
theorem dX7_blocks_4 : decode cX7_blocks 4 = .ok (.iconst 0, 1) := by decide +kernel
theorem dX7_blocks_5 : decode cX7_blocks 5 = .ok (.iaload, 1) := by decide +kernel
theorem dX7_blocks_6 : decode cX7_blocks 6 = .ok (.bipush 7, 2) := by decide +kernel
theorem dX7_blocks_8 : decode cX7_blocks 8 = .ok (.iadd, 1) := by decide +kernel
theorem dX7_blocks_9 : decode cX7_blocks 9 = .ok (.bipush 8, 2) := by decide +kernel
theorem dX7_blocks_11 : decode cX7_blocks 11 = .ok (.idiv, 1) := by decide +kernel
theorem dX7_blocks_12 : decode cX7_blocks 12 = .ok (.ireturn, 1) := by decide +kernel
theorem dX7_blockOf_0 : decode cX7_blockOf 0 = .ok (.iload_n 1, 1) := by decide +kernel
theorem dX7_blockOf_1 : decode cX7_blockOf 1 = .ok (.iconst 0, 1) := by decide +kernel
theorem dX7_blockOf_2 : decode cX7_blockOf 2 = .ok (.iconst 3, 1) := by decide +kernel
theorem dX7_blockOf_3 : decode cX7_blockOf 3 = .ok (.invokestatic 38, 3) := by decide +kernel
theorem dX7_blockOf_6 : decode cX7_blockOf 6 = .ok (.ifCond .eq 16, 3) := by decide +kernel
theorem dX7_blockOf_9 : decode cX7_blockOf 9 = .ok (.iload_n 2, 1) := by decide +kernel
theorem dX7_blockOf_10 : decode cX7_blockOf 10 = .ok (.ifCond .lt 12, 3) := by decide +kernel
theorem dX7_blockOf_13 : decode cX7_blockOf 13 = .ok (.iload_n 3, 1) := by decide +kernel
theorem dX7_blockOf_14 : decode cX7_blockOf 14 = .ok (.iconst 0, 1) := by decide +kernel
theorem dX7_blockOf_15 : decode cX7_blockOf 15 = .ok (.iconst 2, 1) := by decide +kernel
theorem dX7_blockOf_16 : decode cX7_blockOf 16 = .ok (.invokestatic 38, 3) := by decide +kernel
theorem dX7_blockOf_19 : decode cX7_blockOf 19 = .ok (.ifCond .ne 6, 3) := by decide +kernel
theorem dX7_blockOf_22 : decode cX7_blockOf 22 = .ok (.ldc 42, 2) := by decide +kernel
theorem dX7_blockOf_24 : decode cX7_blockOf 24 = .ok (.ireturn, 1) := by decide +kernel
theorem dX7_blockOf_25 : decode cX7_blockOf 25 = .ok (.iload_n 2, 1) := by decide +kernel
theorem dX7_blockOf_26 : decode cX7_blockOf 26 = .ok (.aload_n 0, 1) := by decide +kernel
theorem dX7_blockOf_27 : decode cX7_blockOf 27 = .ok (.invokevirtual 87, 3) := by decide +kernel
theorem dX7_blockOf_30 : decode cX7_blockOf 30 = .ok (.if_icmp .lt 6, 3) := by decide +kernel
theorem dX7_blockOf_33 : decode cX7_blockOf 33 = .ok (.ldc 83, 2) := by decide +kernel
theorem dX7_blockOf_35 : decode cX7_blockOf 35 = .ok (.ireturn, 1) := by decide +kernel
theorem dX7_blockOf_36 : decode cX7_blockOf 36 = .ok (.aload_n 0, 1) := by decide +kernel
theorem dX7_blockOf_37 : decode cX7_blockOf 37 = .ok (.invokevirtual 84, 3) := by decide +kernel
theorem dX7_blockOf_40 : decode cX7_blockOf 40 = .ok (.iconst 0, 1) := by decide +kernel
theorem dX7_blockOf_41 : decode cX7_blockOf 41 = .ok (.istore 4, 2) := by decide +kernel
theorem dX7_blockOf_43 : decode cX7_blockOf 43 = .ok (.iconst 0, 1) := by decide +kernel
theorem dX7_blockOf_44 : decode cX7_blockOf 44 = .ok (.istore 5, 2) := by decide +kernel
theorem dX7_blockOf_46 : decode cX7_blockOf 46 = .ok (.iconst 0, 1) := by decide +kernel
theorem dX7_blockOf_47 : decode cX7_blockOf 47 = .ok (.istore 6, 2) := by decide +kernel
theorem dX7_blockOf_49 : decode cX7_blockOf 49 = .ok (.iconst 0, 1) := by decide +kernel
theorem dX7_blockOf_50 : decode cX7_blockOf 50 = .ok (.istore 7, 2) := by decide +kernel
theorem dX7_blockOf_52 : decode cX7_blockOf 52 = .ok (.iload 7, 2) := by decide +kernel
theorem dX7_blockOf_54 : decode cX7_blockOf 54 = .ok (.aload_n 0, 1) := by decide +kernel
theorem dX7_blockOf_55 : decode cX7_blockOf 55 = .ok (.getfield 7, 3) := by decide +kernel
theorem dX7_blockOf_58 : decode cX7_blockOf 58 = .ok (.iconst 0, 1) := by decide +kernel
theorem dX7_blockOf_59 : decode cX7_blockOf 59 = .ok (.iaload, 1) := by decide +kernel
theorem dX7_blockOf_60 : decode cX7_blockOf 60 = .ok (.if_icmp .ge 67, 3) := by decide +kernel
theorem dX7_blockOf_63 : decode cX7_blockOf 63 = .ok (.aload_n 0, 1) := by decide +kernel
theorem dX7_blockOf_64 : decode cX7_blockOf 64 = .ok (.iload_n 1, 1) := by decide +kernel
theorem dX7_blockOf_65 : decode cX7_blockOf 65 = .ok (.iload 7, 2) := by decide +kernel
theorem dX7_blockOf_67 : decode cX7_blockOf 67 = .ok (.invokevirtual 80, 3) := by decide +kernel
theorem dX7_blockOf_70 : decode cX7_blockOf 70 = .ok (.istore 8, 2) := by decide +kernel
theorem dX7_blockOf_72 : decode cX7_blockOf 72 = .ok (.iload 6, 2) := by decide +kernel
theorem dX7_blockOf_74 : decode cX7_blockOf 74 = .ok (.iload 7, 2) := by decide +kernel
theorem dX7_blockOf_76 : decode cX7_blockOf 76 = .ok (.bipush 8, 2) := by decide +kernel
theorem dX7_blockOf_78 : decode cX7_blockOf 78 = .ok (.iload_n 2, 1) := by decide +kernel
theorem dX7_blockOf_79 : decode cX7_blockOf 79 = .ok (.imul, 1) := by decide +kernel
theorem dX7_blockOf_80 : decode cX7_blockOf 80 = .ok (.if_icmp .ge 8, 3) := by decide +kernel
theorem dX7_blockOf_83 : decode cX7_blockOf 83 = .ok (.iload 8, 2) := by decide +kernel
theorem dX7_blockOf_85 : decode cX7_blockOf 85 = .ok (.goto 4, 3) := by decide +kernel
theorem dX7_blockOf_88 : decode cX7_blockOf 88 = .ok (.iconst 0, 1) := by decide +kernel
theorem dX7_blockOf_89 : decode cX7_blockOf 89 = .ok (.iadd, 1) := by decide +kernel
theorem dX7_blockOf_90 : decode cX7_blockOf 90 = .ok (.istore 6, 2) := by decide +kernel
theorem dX7_blockOf_92 : decode cX7_blockOf 92 = .ok (.iload 7, 2) := by decide +kernel
theorem dX7_blockOf_94 : decode cX7_blockOf 94 = .ok (.bipush 8, 2) := by decide +kernel
theorem dX7_blockOf_96 : decode cX7_blockOf 96 = .ok (.idiv, 1) := by decide +kernel
theorem dX7_blockOf_97 : decode cX7_blockOf 97 = .ok (.iload_n 2, 1) := by decide +kernel
theorem dX7_blockOf_98 : decode cX7_blockOf 98 = .ok (.if_icmp .ne 23, 3) := by decide +kernel
theorem dX7_blockOf_101 : decode cX7_blockOf 101 = .ok (.iload 4, 2) := by decide +kernel
theorem dX7_blockOf_103 : decode cX7_blockOf 103 = .ok (.iload 8, 2) := by decide +kernel
theorem dX7_blockOf_105 : decode cX7_blockOf 105 = .ok (.iload 7, 2) := by decide +kernel
theorem dX7_blockOf_107 : decode cX7_blockOf 107 = .ok (.bipush 8, 2) := by decide +kernel
theorem dX7_blockOf_109 : decode cX7_blockOf 109 = .ok (.irem, 1) := by decide +kernel
theorem dX7_blockOf_110 : decode cX7_blockOf 110 = .ok (.ishl, 1) := by decide +kernel
theorem dX7_blockOf_111 : decode cX7_blockOf 111 = .ok (.ior, 1) := by decide +kernel
theorem dX7_blockOf_112 : decode cX7_blockOf 112 = .ok (.istore 4, 2) := by decide +kernel
theorem dX7_blockOf_114 : decode cX7_blockOf 114 = .ok (.iload 5, 2) := by decide +kernel
theorem dX7_blockOf_116 : decode cX7_blockOf 116 = .ok (.iload 8, 2) := by decide +kernel
theorem dX7_blockOf_118 : decode cX7_blockOf 118 = .ok (.iadd, 1) := by decide +kernel
theorem dX7_blockOf_119 : decode cX7_blockOf 119 = .ok (.istore 5, 2) := by decide +kernel
theorem dX7_blockOf_121 : decode cX7_blockOf 121 = .ok (.iinc 7 1, 3) := by decide +kernel
theorem dX7_blockOf_124 : decode cX7_blockOf 124 = .ok (.goto (-72), 3) := by decide +kernel
theorem dX7_blockOf_127 : decode cX7_blockOf 127 = .ok (.iload_n 3, 1) := by decide +kernel
theorem dX7_blockOf_128 : decode cX7_blockOf 128 = .ok (.ifCond .ne 8, 3) := by decide +kernel
theorem dX7_blockOf_131 : decode cX7_blockOf 131 = .ok (.iload 4, 2) := by decide +kernel
theorem dX7_blockOf_133 : decode cX7_blockOf 133 = .ok (.goto 15, 3) := by decide +kernel
theorem dX7_blockOf_136 : decode cX7_blockOf 136 = .ok (.iload_n 3, 1) := by decide +kernel
theorem dX7_blockOf_137 : decode cX7_blockOf 137 = .ok (.iconst 1, 1) := by decide +kernel
theorem dX7_blockOf_138 : decode cX7_blockOf 138 = .ok (.if_icmp .ne 8, 3) := by decide +kernel
theorem dX7_blockOf_141 : decode cX7_blockOf 141 = .ok (.iload 5, 2) := by decide +kernel
theorem dX7_blockOf_143 : decode cX7_blockOf 143 = .ok (.goto 5, 3) := by decide +kernel
theorem dX7_blockOf_146 : decode cX7_blockOf 146 = .ok (.iload 6, 2) := by decide +kernel
theorem dX7_blockOf_148 : decode cX7_blockOf 148 = .ok (.ireturn, 1) := by decide +kernel
theorem dX7_bits_0 : decode cX7_bits 0 = .ok (.iload_n 1, 1) := by decide +kernel
theorem dX7_bits_1 : decode cX7_bits 1 = .ok (.iconst 0, 1) := by decide +kernel
theorem dX7_bits_2 : decode cX7_bits 2 = .ok (.iconst 3, 1) := by decide +kernel
theorem dX7_bits_3 : decode cX7_bits 3 = .ok (.invokestatic 38, 3) := by decide +kernel
theorem dX7_bits_6 : decode cX7_bits 6 = .ok (.ifCond .ne 7, 3) := by decide +kernel
theorem dX7_bits_9 : decode cX7_bits 9 = .ok (.ldc2_w 91, 3) := by decide +kernel
theorem dX7_bits_12 : decode cX7_bits 12 = .ok (.lreturn, 1) := by decide +kernel
theorem dX7_bits_13 : decode cX7_bits 13 = .ok (.aload_n 0, 1) := by decide +kernel
theorem dX7_bits_14 : decode cX7_bits 14 = .ok (.invokevirtual 84, 3) := by decide +kernel
theorem dX7_bits_17 : decode cX7_bits 17 = .ok (.lconst 0, 1) := by decide +kernel
theorem dX7_bits_18 : decode cX7_bits 18 = .ok (.lstore_n 2, 1) := by decide +kernel
theorem dX7_bits_19 : decode cX7_bits 19 = .ok (.aload_n 0, 1) := by decide +kernel
theorem dX7_bits_20 : decode cX7_bits 20 = .ok (.getfield 7, 3) := by decide +kernel
theorem dX7_bits_23 : decode cX7_bits 23 = .ok (.iconst 0, 1) := by decide +kernel
theorem dX7_bits_24 : decode cX7_bits 24 = .ok (.iaload, 1) := by decide +kernel
theorem dX7_bits_25 : decode cX7_bits 25 = .ok (.iconst 1, 1) := by decide +kernel
theorem dX7_bits_26 : decode cX7_bits 26 = .ok (.isub, 1) := by decide +kernel
theorem dX7_bits_27 : decode cX7_bits 27 = .ok (.istore 4, 2) := by decide +kernel
theorem dX7_bits_29 : decode cX7_bits 29 = .ok (.iload 4, 2) := by decide +kernel
theorem dX7_bits_31 : decode cX7_bits 31 = .ok (.ifCond .lt 24, 3) := by decide +kernel
theorem dX7_bits_34 : decode cX7_bits 34 = .ok (.ldc2_w 93, 3) := by decide +kernel
theorem dX7_bits_37 : decode cX7_bits 37 = .ok (.lload_n 2, 1) := by decide +kernel
theorem dX7_bits_38 : decode cX7_bits 38 = .ok (.lmul, 1) := by decide +kernel
theorem dX7_bits_39 : decode cX7_bits 39 = .ok (.aload_n 0, 1) := by decide +kernel
theorem dX7_bits_40 : decode cX7_bits 40 = .ok (.iload_n 1, 1) := by decide +kernel
theorem dX7_bits_41 : decode cX7_bits 41 = .ok (.iload 4, 2) := by decide +kernel
theorem dX7_bits_43 : decode cX7_bits 43 = .ok (.invokevirtual 80, 3) := by decide +kernel
theorem dX7_bits_46 : decode cX7_bits 46 = .ok (.i2l, 1) := by decide +kernel
theorem dX7_bits_47 : decode cX7_bits 47 = .ok (.ladd, 1) := by decide +kernel
theorem dX7_bits_48 : decode cX7_bits 48 = .ok (.lstore_n 2, 1) := by decide +kernel
theorem dX7_bits_49 : decode cX7_bits 49 = .ok (.iinc 4 (-1), 3) := by decide +kernel
theorem dX7_bits_52 : decode cX7_bits 52 = .ok (.goto (-23), 3) := by decide +kernel
theorem dX7_bits_55 : decode cX7_bits 55 = .ok (.lload_n 2, 1) := by decide +kernel
theorem dX7_bits_56 : decode cX7_bits 56 = .ok (.lreturn, 1) := by decide +kernel
theorem dX7_symbolAt_0 : decode cX7_symbolAt 0 = .ok (.iload_n 1, 1) := by decide +kernel
theorem dX7_symbolAt_1 : decode cX7_symbolAt 1 = .ok (.ifCond .ge 6, 3) := by decide +kernel
theorem dX7_symbolAt_4 : decode cX7_symbolAt 4 = .ok (.ldc 42, 2) := by decide +kernel
theorem dX7_symbolAt_6 : decode cX7_symbolAt 6 = .ok (.ireturn, 1) := by decide +kernel
theorem dX7_symbolAt_7 : decode cX7_symbolAt 7 = .ok (.aload_n 0, 1) := by decide +kernel
theorem dX7_symbolAt_8 : decode cX7_symbolAt 8 = .ok (.iload_n 1, 1) := by decide +kernel
theorem dX7_symbolAt_9 : decode cX7_symbolAt 9 = .ok (.invokevirtual 59, 3) := by decide +kernel
theorem dX7_symbolAt_12 : decode cX7_symbolAt 12 = .ok (.ifCond .eq 14, 3) := by decide +kernel
theorem dX7_symbolAt_15 : decode cX7_symbolAt 15 = .ok (.aload_n 0, 1) := by decide +kernel
theorem dX7_symbolAt_16 : decode cX7_symbolAt 16 = .ok (.getfield 7, 3) := by decide +kernel
theorem dX7_symbolAt_19 : decode cX7_symbolAt 19 = .ok (.iconst 1, 1) := by decide +kernel
theorem dX7_symbolAt_20 : decode cX7_symbolAt 20 = .ok (.iload_n 1, 1) := by decide +kernel
theorem dX7_symbolAt_21 : decode cX7_symbolAt 21 = .ok (.iadd, 1) := by decide +kernel
theorem dX7_symbolAt_22 : decode cX7_symbolAt 22 = .ok (.iaload, 1) := by decide +kernel
theorem dX7_symbolAt_23 : decode cX7_symbolAt 23 = .ok (.goto 5, 3) := by decide +kernel
theorem dX7_symbolAt_26 : decode cX7_symbolAt 26 = .ok (.ldc 83, 2) := by decide +kernel
theorem dX7_symbolAt_28 : decode cX7_symbolAt 28 = .ok (.ireturn, 1) := by decide +kernel
theorem dX7_rank_0 : decode cX7_rank 0 = .ok (.iload_n 1, 1) := by decide +kernel
theorem dX7_rank_1 : decode cX7_rank 1 = .ok (.iconst 0, 1) := by decide +kernel
theorem dX7_rank_2 : decode cX7_rank 2 = .ok (.bipush 15, 2) := by decide +kernel
theorem dX7_rank_4 : decode cX7_rank 4 = .ok (.invokestatic 38, 3) := by decide +kernel
theorem dX7_rank_7 : decode cX7_rank 7 = .ok (.ifCond .eq 17, 3) := by decide +kernel
theorem dX7_rank_10 : decode cX7_rank 10 = .ok (.iload_n 2, 1) := by decide +kernel
theorem dX7_rank_11 : decode cX7_rank 11 = .ok (.iconst 0, 1) := by decide +kernel
theorem dX7_rank_12 : decode cX7_rank 12 = .ok (.aload_n 0, 1) := by decide +kernel
theorem dX7_rank_13 : decode cX7_rank 13 = .ok (.getfield 7, 3) := by decide +kernel
theorem dX7_rank_16 : decode cX7_rank 16 = .ok (.iconst 0, 1) := by decide +kernel
theorem dX7_rank_17 : decode cX7_rank 17 = .ok (.iaload, 1) := by decide +kernel
theorem dX7_rank_18 : decode cX7_rank 18 = .ok (.invokestatic 38, 3) := by decide +kernel
theorem dX7_rank_21 : decode cX7_rank 21 = .ok (.ifCond .ne 6, 3) := by decide +kernel
theorem dX7_rank_24 : decode cX7_rank 24 = .ok (.ldc 42, 2) := by decide +kernel
theorem dX7_rank_26 : decode cX7_rank 26 = .ok (.ireturn, 1) := by decide +kernel
theorem dX7_rank_27 : decode cX7_rank 27 = .ok (.aload_n 0, 1) := by decide +kernel
theorem dX7_rank_28 : decode cX7_rank 28 = .ok (.iconst 0, 1) := by decide +kernel
theorem dX7_rank_29 : decode cX7_rank 29 = .ok (.iload_n 2, 1) := by decide +kernel
theorem dX7_rank_30 : decode cX7_rank 30 = .ok (.invokevirtual 76, 3) := by decide +kernel
theorem dX7_rank_33 : decode cX7_rank 33 = .ok (.aload_n 0, 1) := by decide +kernel
theorem dX7_rank_34 : decode cX7_rank 34 = .ok (.getfield 32, 3) := by decide +kernel
theorem dX7_rank_37 : decode cX7_rank 37 = .ok (.iload_n 1, 1) := by decide +kernel
theorem dX7_rank_38 : decode cX7_rank 38 = .ok (.iaload, 1) := by decide +kernel
theorem dX7_rank_39 : decode cX7_rank 39 = .ok (.ireturn, 1) := by decide +kernel
theorem dX7_select_0 : decode cX7_select 0 = .ok (.iload_n 1, 1) := by decide +kernel
theorem dX7_select_1 : decode cX7_select 1 = .ok (.iconst 0, 1) := by decide +kernel
theorem dX7_select_2 : decode cX7_select 2 = .ok (.bipush 15, 2) := by decide +kernel
theorem dX7_select_4 : decode cX7_select 4 = .ok (.invokestatic 38, 3) := by decide +kernel
theorem dX7_select_7 : decode cX7_select 7 = .ok (.ifCond .eq 7, 3) := by decide +kernel
theorem dX7_select_10 : decode cX7_select 10 = .ok (.iload_n 2, 1) := by decide +kernel
theorem dX7_select_11 : decode cX7_select 11 = .ok (.ifCond .ge 6, 3) := by decide +kernel
theorem dX7_select_14 : decode cX7_select 14 = .ok (.ldc 42, 2) := by decide +kernel
theorem dX7_select_16 : decode cX7_select 16 = .ok (.ireturn, 1) := by decide +kernel
theorem dX7_select_17 : decode cX7_select 17 = .ok (.iload_n 2, 1) := by decide +kernel
theorem dX7_select_18 : decode cX7_select 18 = .ok (.istore_n 3, 1) := by decide +kernel
theorem dX7_select_19 : decode cX7_select 19 = .ok (.iconst 0, 1) := by decide +kernel
theorem dX7_select_20 : decode cX7_select 20 = .ok (.istore 4, 2) := by decide +kernel
theorem dX7_select_22 : decode cX7_select 22 = .ok (.iload 4, 2) := by decide +kernel
theorem dX7_select_24 : decode cX7_select 24 = .ok (.aload_n 0, 1) := by decide +kernel
theorem dX7_select_25 : decode cX7_select 25 = .ok (.getfield 7, 3) := by decide +kernel
theorem dX7_select_28 : decode cX7_select 28 = .ok (.iconst 0, 1) := by decide +kernel
theorem dX7_select_29 : decode cX7_select 29 = .ok (.iaload, 1) := by decide +kernel
theorem dX7_select_30 : decode cX7_select 30 = .ok (.if_icmp .ge 54, 3) := by decide +kernel
theorem dX7_select_33 : decode cX7_select 33 = .ok (.aload_n 0, 1) := by decide +kernel
theorem dX7_select_34 : decode cX7_select 34 = .ok (.getfield 7, 3) := by decide +kernel
theorem dX7_select_37 : decode cX7_select 37 = .ok (.iconst 1, 1) := by decide +kernel
theorem dX7_select_38 : decode cX7_select 38 = .ok (.iload 4, 2) := by decide +kernel
theorem dX7_select_40 : decode cX7_select 40 = .ok (.iadd, 1) := by decide +kernel
theorem dX7_select_41 : decode cX7_select 41 = .ok (.iaload, 1) := by decide +kernel
theorem dX7_select_42 : decode cX7_select 42 = .ok (.iload_n 1, 1) := by decide +kernel
theorem dX7_select_43 : decode cX7_select 43 = .ok (.if_icmp .ne 7, 3) := by decide +kernel
theorem dX7_select_46 : decode cX7_select 46 = .ok (.iconst 1, 1) := by decide +kernel
theorem dX7_select_47 : decode cX7_select 47 = .ok (.goto 4, 3) := by decide +kernel
theorem dX7_select_50 : decode cX7_select 50 = .ok (.iconst 0, 1) := by decide +kernel
theorem dX7_select_51 : decode cX7_select 51 = .ok (.istore 5, 2) := by decide +kernel
theorem dX7_select_53 : decode cX7_select 53 = .ok (.iload 5, 2) := by decide +kernel
theorem dX7_select_55 : decode cX7_select 55 = .ok (.ifCond .eq 10, 3) := by decide +kernel
theorem dX7_select_58 : decode cX7_select 58 = .ok (.iload_n 3, 1) := by decide +kernel
theorem dX7_select_59 : decode cX7_select 59 = .ok (.ifCond .ne 6, 3) := by decide +kernel
theorem dX7_select_62 : decode cX7_select 62 = .ok (.iload 4, 2) := by decide +kernel
theorem dX7_select_64 : decode cX7_select 64 = .ok (.ireturn, 1) := by decide +kernel
theorem dX7_select_65 : decode cX7_select 65 = .ok (.iload_n 3, 1) := by decide +kernel
theorem dX7_select_66 : decode cX7_select 66 = .ok (.iload 5, 2) := by decide +kernel
theorem dX7_select_68 : decode cX7_select 68 = .ok (.ifCond .eq 7, 3) := by decide +kernel
theorem dX7_select_71 : decode cX7_select 71 = .ok (.iconst 1, 1) := by decide +kernel
theorem dX7_select_72 : decode cX7_select 72 = .ok (.goto 4, 3) := by decide +kernel
theorem dX7_select_75 : decode cX7_select 75 = .ok (.iconst 0, 1) := by decide +kernel
theorem dX7_select_76 : decode cX7_select 76 = .ok (.isub, 1) := by decide +kernel
theorem dX7_select_77 : decode cX7_select 77 = .ok (.istore_n 3, 1) := by decide +kernel
theorem dX7_select_78 : decode cX7_select 78 = .ok (.iinc 4 1, 3) := by decide +kernel
theorem dX7_select_81 : decode cX7_select 81 = .ok (.goto (-59), 3) := by decide +kernel
theorem dX7_select_84 : decode cX7_select 84 = .ok (.ldc 83, 2) := by decide +kernel
theorem dX7_select_86 : decode cX7_select 86 = .ok (.ireturn, 1) := by decide +kernel
theorem dX7_smallest_0 : decode cX7_smallest 0 = .ok (.aload_n 0, 1) := by decide +kernel
theorem dX7_smallest_1 : decode cX7_smallest 1 = .ok (.iload_n 1, 1) := by decide +kernel
theorem dX7_smallest_2 : decode cX7_smallest 2 = .ok (.iload_n 2, 1) := by decide +kernel
theorem dX7_smallest_3 : decode cX7_smallest 3 = .ok (.invokevirtual 69, 3) := by decide +kernel
theorem dX7_smallest_6 : decode cX7_smallest 6 = .ok (.ifCond .eq 7, 3) := by decide +kernel
theorem dX7_smallest_9 : decode cX7_smallest 9 = .ok (.iload_n 3, 1) := by decide +kernel
theorem dX7_smallest_10 : decode cX7_smallest 10 = .ok (.ifCond .ge 6, 3) := by decide +kernel
theorem dX7_smallest_13 : decode cX7_smallest 13 = .ok (.ldc 42, 2) := by decide +kernel
theorem dX7_smallest_15 : decode cX7_smallest 15 = .ok (.ireturn, 1) := by decide +kernel
theorem dX7_smallest_16 : decode cX7_smallest 16 = .ok (.aload_n 0, 1) := by decide +kernel
theorem dX7_smallest_17 : decode cX7_smallest 17 = .ok (.iload_n 1, 1) := by decide +kernel
theorem dX7_smallest_18 : decode cX7_smallest 18 = .ok (.iload_n 2, 1) := by decide +kernel
theorem dX7_smallest_19 : decode cX7_smallest 19 = .ok (.invokevirtual 76, 3) := by decide +kernel
theorem dX7_smallest_22 : decode cX7_smallest 22 = .ok (.iload_n 3, 1) := by decide +kernel
theorem dX7_smallest_23 : decode cX7_smallest 23 = .ok (.istore 4, 2) := by decide +kernel
theorem dX7_smallest_25 : decode cX7_smallest 25 = .ok (.iconst 0, 1) := by decide +kernel
theorem dX7_smallest_26 : decode cX7_smallest 26 = .ok (.istore 5, 2) := by decide +kernel
theorem dX7_smallest_28 : decode cX7_smallest 28 = .ok (.iload 5, 2) := by decide +kernel
theorem dX7_smallest_30 : decode cX7_smallest 30 = .ok (.bipush 16, 2) := by decide +kernel
theorem dX7_smallest_32 : decode cX7_smallest 32 = .ok (.if_icmp .ge 36, 3) := by decide +kernel
theorem dX7_smallest_35 : decode cX7_smallest 35 = .ok (.iload 4, 2) := by decide +kernel
theorem dX7_smallest_37 : decode cX7_smallest 37 = .ok (.aload_n 0, 1) := by decide +kernel
theorem dX7_smallest_38 : decode cX7_smallest 38 = .ok (.getfield 32, 3) := by decide +kernel
theorem dX7_smallest_41 : decode cX7_smallest 41 = .ok (.iload 5, 2) := by decide +kernel
theorem dX7_smallest_43 : decode cX7_smallest 43 = .ok (.iaload, 1) := by decide +kernel
theorem dX7_smallest_44 : decode cX7_smallest 44 = .ok (.if_icmp .ge 6, 3) := by decide +kernel
theorem dX7_smallest_47 : decode cX7_smallest 47 = .ok (.iload 5, 2) := by decide +kernel
theorem dX7_smallest_49 : decode cX7_smallest 49 = .ok (.ireturn, 1) := by decide +kernel
theorem dX7_smallest_50 : decode cX7_smallest 50 = .ok (.iload 4, 2) := by decide +kernel
theorem dX7_smallest_52 : decode cX7_smallest 52 = .ok (.aload_n 0, 1) := by decide +kernel
theorem dX7_smallest_53 : decode cX7_smallest 53 = .ok (.getfield 32, 3) := by decide +kernel
theorem dX7_smallest_56 : decode cX7_smallest 56 = .ok (.iload 5, 2) := by decide +kernel
theorem dX7_smallest_58 : decode cX7_smallest 58 = .ok (.iaload, 1) := by decide +kernel
theorem dX7_smallest_59 : decode cX7_smallest 59 = .ok (.isub, 1) := by decide +kernel
theorem dX7_smallest_60 : decode cX7_smallest 60 = .ok (.istore 4, 2) := by decide +kernel
theorem dX7_smallest_62 : decode cX7_smallest 62 = .ok (.iinc 5 1, 3) := by decide +kernel
theorem dX7_smallest_65 : decode cX7_smallest 65 = .ok (.goto (-37), 3) := by decide +kernel
theorem dX7_smallest_68 : decode cX7_smallest 68 = .ok (.ldc 83, 2) := by decide +kernel
theorem dX7_smallest_70 : decode cX7_smallest 70 = .ok (.ireturn, 1) := by decide +kernel
theorem dX7_below_0 : decode cX7_below 0 = .ok (.aload_n 0, 1) := by decide +kernel
theorem dX7_below_1 : decode cX7_below 1 = .ok (.iload_n 1, 1) := by decide +kernel
theorem dX7_below_2 : decode cX7_below 2 = .ok (.iload_n 2, 1) := by decide +kernel
theorem dX7_below_3 : decode cX7_below 3 = .ok (.invokevirtual 69, 3) := by decide +kernel
theorem dX7_below_6 : decode cX7_below 6 = .ok (.ifCond .eq 13, 3) := by decide +kernel
theorem dX7_below_9 : decode cX7_below 9 = .ok (.iload_n 3, 1) := by decide +kernel
theorem dX7_below_10 : decode cX7_below 10 = .ok (.iconst 0, 1) := by decide +kernel
theorem dX7_below_11 : decode cX7_below 11 = .ok (.bipush 16, 2) := by decide +kernel
theorem dX7_below_13 : decode cX7_below 13 = .ok (.invokestatic 38, 3) := by decide +kernel
theorem dX7_below_16 : decode cX7_below 16 = .ok (.ifCond .ne 6, 3) := by decide +kernel
theorem dX7_below_19 : decode cX7_below 19 = .ok (.ldc 42, 2) := by decide +kernel
theorem dX7_below_21 : decode cX7_below 21 = .ok (.ireturn, 1) := by decide +kernel
theorem dX7_below_22 : decode cX7_below 22 = .ok (.iconst 0, 1) := by decide +kernel
theorem dX7_below_23 : decode cX7_below 23 = .ok (.istore 4, 2) := by decide +kernel
theorem dX7_below_25 : decode cX7_below 25 = .ok (.iload_n 1, 1) := by decide +kernel
theorem dX7_below_26 : decode cX7_below 26 = .ok (.istore 5, 2) := by decide +kernel
theorem dX7_below_28 : decode cX7_below 28 = .ok (.iload 5, 2) := by decide +kernel
theorem dX7_below_30 : decode cX7_below 30 = .ok (.iload_n 2, 1) := by decide +kernel
theorem dX7_below_31 : decode cX7_below 31 = .ok (.if_icmp .ge 32, 3) := by decide +kernel
theorem dX7_below_34 : decode cX7_below 34 = .ok (.iload 4, 2) := by decide +kernel
theorem dX7_below_36 : decode cX7_below 36 = .ok (.aload_n 0, 1) := by decide +kernel
theorem dX7_below_37 : decode cX7_below 37 = .ok (.getfield 7, 3) := by decide +kernel
theorem dX7_below_40 : decode cX7_below 40 = .ok (.iconst 1, 1) := by decide +kernel
theorem dX7_below_41 : decode cX7_below 41 = .ok (.iload 5, 2) := by decide +kernel
theorem dX7_below_43 : decode cX7_below 43 = .ok (.iadd, 1) := by decide +kernel
theorem dX7_below_44 : decode cX7_below 44 = .ok (.iaload, 1) := by decide +kernel
theorem dX7_below_45 : decode cX7_below 45 = .ok (.iload_n 3, 1) := by decide +kernel
theorem dX7_below_46 : decode cX7_below 46 = .ok (.if_icmp .ge 7, 3) := by decide +kernel
theorem dX7_below_49 : decode cX7_below 49 = .ok (.iconst 1, 1) := by decide +kernel
theorem dX7_below_50 : decode cX7_below 50 = .ok (.goto 4, 3) := by decide +kernel
theorem dX7_below_53 : decode cX7_below 53 = .ok (.iconst 0, 1) := by decide +kernel
theorem dX7_below_54 : decode cX7_below 54 = .ok (.iadd, 1) := by decide +kernel
theorem dX7_below_55 : decode cX7_below 55 = .ok (.istore 4, 2) := by decide +kernel
theorem dX7_below_57 : decode cX7_below 57 = .ok (.iinc 5 1, 3) := by decide +kernel
theorem dX7_below_60 : decode cX7_below 60 = .ok (.goto (-32), 3) := by decide +kernel
theorem dX7_below_63 : decode cX7_below 63 = .ok (.iload 4, 2) := by decide +kernel
theorem dX7_below_65 : decode cX7_below 65 = .ok (.ireturn, 1) := by decide +kernel
theorem dX7_notBelow_0 : decode cX7_notBelow 0 = .ok (.aload_n 0, 1) := by decide +kernel
theorem dX7_notBelow_1 : decode cX7_notBelow 1 = .ok (.iload_n 1, 1) := by decide +kernel
theorem dX7_notBelow_2 : decode cX7_notBelow 2 = .ok (.iload_n 2, 1) := by decide +kernel
theorem dX7_notBelow_3 : decode cX7_notBelow 3 = .ok (.invokevirtual 69, 3) := by decide +kernel
theorem dX7_notBelow_6 : decode cX7_notBelow 6 = .ok (.ifCond .eq 13, 3) := by decide +kernel
theorem dX7_notBelow_9 : decode cX7_notBelow 9 = .ok (.iload_n 3, 1) := by decide +kernel
theorem dX7_notBelow_10 : decode cX7_notBelow 10 = .ok (.iconst 0, 1) := by decide +kernel
theorem dX7_notBelow_11 : decode cX7_notBelow 11 = .ok (.bipush 15, 2) := by decide +kernel
theorem dX7_notBelow_13 : decode cX7_notBelow 13 = .ok (.invokestatic 38, 3) := by decide +kernel
theorem dX7_notBelow_16 : decode cX7_notBelow 16 = .ok (.ifCond .ne 6, 3) := by decide +kernel
theorem dX7_notBelow_19 : decode cX7_notBelow 19 = .ok (.ldc 42, 2) := by decide +kernel
theorem dX7_notBelow_21 : decode cX7_notBelow 21 = .ok (.ireturn, 1) := by decide +kernel
theorem dX7_notBelow_22 : decode cX7_notBelow 22 = .ok (.bipush 16, 2) := by decide +kernel
theorem dX7_notBelow_24 : decode cX7_notBelow 24 = .ok (.istore 4, 2) := by decide +kernel
theorem dX7_notBelow_26 : decode cX7_notBelow 26 = .ok (.iload_n 1, 1) := by decide +kernel
theorem dX7_notBelow_27 : decode cX7_notBelow 27 = .ok (.istore 5, 2) := by decide +kernel
theorem dX7_notBelow_29 : decode cX7_notBelow 29 = .ok (.iload 5, 2) := by decide +kernel
theorem dX7_notBelow_31 : decode cX7_notBelow 31 = .ok (.iload_n 2, 1) := by decide +kernel
theorem dX7_notBelow_32 : decode cX7_notBelow 32 = .ok (.if_icmp .ge 42, 3) := by decide +kernel
theorem dX7_notBelow_35 : decode cX7_notBelow 35 = .ok (.aload_n 0, 1) := by decide +kernel
theorem dX7_notBelow_36 : decode cX7_notBelow 36 = .ok (.getfield 7, 3) := by decide +kernel
theorem dX7_notBelow_39 : decode cX7_notBelow 39 = .ok (.iconst 1, 1) := by decide +kernel
theorem dX7_notBelow_40 : decode cX7_notBelow 40 = .ok (.iload 5, 2) := by decide +kernel
theorem dX7_notBelow_42 : decode cX7_notBelow 42 = .ok (.iadd, 1) := by decide +kernel
theorem dX7_notBelow_43 : decode cX7_notBelow 43 = .ok (.iaload, 1) := by decide +kernel
theorem dX7_notBelow_44 : decode cX7_notBelow 44 = .ok (.istore 6, 2) := by decide +kernel
theorem dX7_notBelow_46 : decode cX7_notBelow 46 = .ok (.iload 6, 2) := by decide +kernel
theorem dX7_notBelow_48 : decode cX7_notBelow 48 = .ok (.iload_n 3, 1) := by decide +kernel
theorem dX7_notBelow_49 : decode cX7_notBelow 49 = .ok (.if_icmp .lt 15, 3) := by decide +kernel
theorem dX7_notBelow_52 : decode cX7_notBelow 52 = .ok (.iload 6, 2) := by decide +kernel
theorem dX7_notBelow_54 : decode cX7_notBelow 54 = .ok (.iload 4, 2) := by decide +kernel
theorem dX7_notBelow_56 : decode cX7_notBelow 56 = .ok (.if_icmp .ge 8, 3) := by decide +kernel
theorem dX7_notBelow_59 : decode cX7_notBelow 59 = .ok (.iload 6, 2) := by decide +kernel
theorem dX7_notBelow_61 : decode cX7_notBelow 61 = .ok (.goto 5, 3) := by decide +kernel
theorem dX7_notBelow_64 : decode cX7_notBelow 64 = .ok (.iload 4, 2) := by decide +kernel
theorem dX7_notBelow_66 : decode cX7_notBelow 66 = .ok (.istore 4, 2) := by decide +kernel
theorem dX7_notBelow_68 : decode cX7_notBelow 68 = .ok (.iinc 5 1, 3) := by decide +kernel
theorem dX7_notBelow_71 : decode cX7_notBelow 71 = .ok (.goto (-42), 3) := by decide +kernel
theorem dX7_notBelow_74 : decode cX7_notBelow 74 = .ok (.iload 4, 2) := by decide +kernel
theorem dX7_notBelow_76 : decode cX7_notBelow 76 = .ok (.bipush 16, 2) := by decide +kernel
theorem dX7_notBelow_78 : decode cX7_notBelow 78 = .ok (.if_icmp .ne 8, 3) := by decide +kernel
theorem dX7_notBelow_81 : decode cX7_notBelow 81 = .ok (.ldc 83, 2) := by decide +kernel
theorem dX7_notBelow_83 : decode cX7_notBelow 83 = .ok (.goto 5, 3) := by decide +kernel
theorem dX7_notBelow_86 : decode cX7_notBelow 86 = .ok (.iload 4, 2) := by decide +kernel
theorem dX7_notBelow_88 : decode cX7_notBelow 88 = .ok (.ireturn, 1) := by decide +kernel
theorem dX7_unlike_0 : decode cX7_unlike 0 = .ok (.iconst 0, 1) := by decide +kernel
theorem dX7_unlike_1 : decode cX7_unlike 1 = .ok (.istore_n 1, 1) := by decide +kernel
theorem dX7_unlike_2 : decode cX7_unlike 2 = .ok (.iconst 0, 1) := by decide +kernel
theorem dX7_unlike_3 : decode cX7_unlike 3 = .ok (.istore_n 2, 1) := by decide +kernel
theorem dX7_unlike_4 : decode cX7_unlike 4 = .ok (.iload_n 2, 1) := by decide +kernel
theorem dX7_unlike_5 : decode cX7_unlike 5 = .ok (.bipush 16, 2) := by decide +kernel
theorem dX7_unlike_7 : decode cX7_unlike 7 = .ok (.if_icmp .ge 26, 3) := by decide +kernel
theorem dX7_unlike_10 : decode cX7_unlike 10 = .ok (.iload_n 1, 1) := by decide +kernel
theorem dX7_unlike_11 : decode cX7_unlike 11 = .ok (.aload_n 0, 1) := by decide +kernel
theorem dX7_unlike_12 : decode cX7_unlike 12 = .ok (.getfield 32, 3) := by decide +kernel
theorem dX7_unlike_15 : decode cX7_unlike 15 = .ok (.iload_n 2, 1) := by decide +kernel
theorem dX7_unlike_16 : decode cX7_unlike 16 = .ok (.iaload, 1) := by decide +kernel
theorem dX7_unlike_17 : decode cX7_unlike 17 = .ok (.ifCond .le 7, 3) := by decide +kernel
theorem dX7_unlike_20 : decode cX7_unlike 20 = .ok (.iconst 1, 1) := by decide +kernel
theorem dX7_unlike_21 : decode cX7_unlike 21 = .ok (.goto 4, 3) := by decide +kernel
theorem dX7_unlike_24 : decode cX7_unlike 24 = .ok (.iconst 0, 1) := by decide +kernel
theorem dX7_unlike_25 : decode cX7_unlike 25 = .ok (.iadd, 1) := by decide +kernel
theorem dX7_unlike_26 : decode cX7_unlike 26 = .ok (.istore_n 1, 1) := by decide +kernel
theorem dX7_unlike_27 : decode cX7_unlike 27 = .ok (.iinc 2 1, 3) := by decide +kernel
theorem dX7_unlike_30 : decode cX7_unlike 30 = .ok (.goto (-26), 3) := by decide +kernel
theorem dX7_unlike_33 : decode cX7_unlike 33 = .ok (.iload_n 1, 1) := by decide +kernel
theorem dX7_unlike_34 : decode cX7_unlike 34 = .ok (.ireturn, 1) := by decide +kernel
theorem dX7_mostFrequent_0 : decode cX7_mostFrequent 0 = .ok (.iconst 0, 1) := by decide +kernel
theorem dX7_mostFrequent_1 : decode cX7_mostFrequent 1 = .ok (.istore_n 1, 1) := by decide +kernel
theorem dX7_mostFrequent_2 : decode cX7_mostFrequent 2 = .ok (.iconst 1, 1) := by decide +kernel
theorem dX7_mostFrequent_3 : decode cX7_mostFrequent 3 = .ok (.istore_n 2, 1) := by decide +kernel
theorem dX7_mostFrequent_4 : decode cX7_mostFrequent 4 = .ok (.iload_n 2, 1) := by decide +kernel
theorem dX7_mostFrequent_5 : decode cX7_mostFrequent 5 = .ok (.bipush 16, 2) := by decide +kernel
theorem dX7_mostFrequent_7 : decode cX7_mostFrequent 7 = .ok (.if_icmp .ge 30, 3) := by decide +kernel
theorem dX7_mostFrequent_10 : decode cX7_mostFrequent 10 = .ok (.aload_n 0, 1) := by decide +kernel
theorem dX7_mostFrequent_11 : decode cX7_mostFrequent 11 = .ok (.getfield 32, 3) := by decide +kernel
theorem dX7_mostFrequent_14 : decode cX7_mostFrequent 14 = .ok (.iload_n 2, 1) := by decide +kernel
theorem dX7_mostFrequent_15 : decode cX7_mostFrequent 15 = .ok (.iaload, 1) := by decide +kernel
theorem dX7_mostFrequent_16 : decode cX7_mostFrequent 16 = .ok (.aload_n 0, 1) := by decide +kernel
theorem dX7_mostFrequent_17 : decode cX7_mostFrequent 17 = .ok (.getfield 32, 3) := by decide +kernel
theorem dX7_mostFrequent_20 : decode cX7_mostFrequent 20 = .ok (.iload_n 1, 1) := by decide +kernel
theorem dX7_mostFrequent_21 : decode cX7_mostFrequent 21 = .ok (.iaload, 1) := by decide +kernel
theorem dX7_mostFrequent_22 : decode cX7_mostFrequent 22 = .ok (.if_icmp .le 7, 3) := by decide +kernel
theorem dX7_mostFrequent_25 : decode cX7_mostFrequent 25 = .ok (.iload_n 2, 1) := by decide +kernel
theorem dX7_mostFrequent_26 : decode cX7_mostFrequent 26 = .ok (.goto 4, 3) := by decide +kernel
theorem dX7_mostFrequent_29 : decode cX7_mostFrequent 29 = .ok (.iload_n 1, 1) := by decide +kernel
theorem dX7_mostFrequent_30 : decode cX7_mostFrequent 30 = .ok (.istore_n 1, 1) := by decide +kernel
theorem dX7_mostFrequent_31 : decode cX7_mostFrequent 31 = .ok (.iinc 2 1, 3) := by decide +kernel
theorem dX7_mostFrequent_34 : decode cX7_mostFrequent 34 = .ok (.goto (-30), 3) := by decide +kernel
theorem dX7_mostFrequent_37 : decode cX7_mostFrequent 37 = .ok (.iload_n 1, 1) := by decide +kernel
theorem dX7_mostFrequent_38 : decode cX7_mostFrequent 38 = .ok (.ireturn, 1) := by decide +kernel
theorem dX7_sum_0 : decode cX7_sum 0 = .ok (.iconst 0, 1) := by decide +kernel
theorem dX7_sum_1 : decode cX7_sum 1 = .ok (.istore_n 3, 1) := by decide +kernel
theorem dX7_sum_2 : decode cX7_sum 2 = .ok (.iload_n 1, 1) := by decide +kernel
theorem dX7_sum_3 : decode cX7_sum 3 = .ok (.istore 4, 2) := by decide +kernel
theorem dX7_sum_5 : decode cX7_sum 5 = .ok (.iload 4, 2) := by decide +kernel
theorem dX7_sum_7 : decode cX7_sum 7 = .ok (.iload_n 2, 1) := by decide +kernel
theorem dX7_sum_8 : decode cX7_sum 8 = .ok (.if_icmp .ge 21, 3) := by decide +kernel
theorem dX7_sum_11 : decode cX7_sum 11 = .ok (.iload_n 3, 1) := by decide +kernel
theorem dX7_sum_12 : decode cX7_sum 12 = .ok (.aload_n 0, 1) := by decide +kernel
theorem dX7_sum_13 : decode cX7_sum 13 = .ok (.getfield 7, 3) := by decide +kernel
theorem dX7_sum_16 : decode cX7_sum 16 = .ok (.iconst 1, 1) := by decide +kernel
theorem dX7_sum_17 : decode cX7_sum 17 = .ok (.iload 4, 2) := by decide +kernel
theorem dX7_sum_19 : decode cX7_sum 19 = .ok (.iadd, 1) := by decide +kernel
theorem dX7_sum_20 : decode cX7_sum 20 = .ok (.iaload, 1) := by decide +kernel
theorem dX7_sum_21 : decode cX7_sum 21 = .ok (.iadd, 1) := by decide +kernel
theorem dX7_sum_22 : decode cX7_sum 22 = .ok (.istore_n 3, 1) := by decide +kernel
theorem dX7_sum_23 : decode cX7_sum 23 = .ok (.iinc 4 1, 3) := by decide +kernel
theorem dX7_sum_26 : decode cX7_sum 26 = .ok (.goto (-21), 3) := by decide +kernel
theorem dX7_sum_29 : decode cX7_sum 29 = .ok (.iload_n 3, 1) := by decide +kernel
theorem dX7_sum_30 : decode cX7_sum 30 = .ok (.ireturn, 1) := by decide +kernel
theorem dX7_wrong_0 : decode cX7_wrong 0 = .ok (.iconst 0, 1) := by decide +kernel
theorem dX7_wrong_1 : decode cX7_wrong 1 = .ok (.istore_n 3, 1) := by decide +kernel
theorem dX7_wrong_2 : decode cX7_wrong 2 = .ok (.iload_n 1, 1) := by decide +kernel
theorem dX7_wrong_3 : decode cX7_wrong 3 = .ok (.istore 4, 2) := by decide +kernel
theorem dX7_wrong_5 : decode cX7_wrong 5 = .ok (.iload 4, 2) := by decide +kernel
theorem dX7_wrong_7 : decode cX7_wrong 7 = .ok (.iload_n 2, 1) := by decide +kernel
theorem dX7_wrong_8 : decode cX7_wrong 8 = .ok (.if_icmp .ge 56, 3) := by decide +kernel
theorem dX7_wrong_11 : decode cX7_wrong 11 = .ok (.iload 4, 2) := by decide +kernel
theorem dX7_wrong_13 : decode cX7_wrong 13 = .ok (.iconst 1, 1) := by decide +kernel
theorem dX7_wrong_14 : decode cX7_wrong 14 = .ok (.iadd, 1) := by decide +kernel
theorem dX7_wrong_15 : decode cX7_wrong 15 = .ok (.istore 5, 2) := by decide +kernel
theorem dX7_wrong_17 : decode cX7_wrong 17 = .ok (.iload 5, 2) := by decide +kernel
theorem dX7_wrong_19 : decode cX7_wrong 19 = .ok (.iload_n 2, 1) := by decide +kernel
theorem dX7_wrong_20 : decode cX7_wrong 20 = .ok (.if_icmp .ge 38, 3) := by decide +kernel
theorem dX7_wrong_23 : decode cX7_wrong 23 = .ok (.iload_n 3, 1) := by decide +kernel
theorem dX7_wrong_24 : decode cX7_wrong 24 = .ok (.aload_n 0, 1) := by decide +kernel
theorem dX7_wrong_25 : decode cX7_wrong 25 = .ok (.getfield 7, 3) := by decide +kernel
theorem dX7_wrong_28 : decode cX7_wrong 28 = .ok (.iconst 1, 1) := by decide +kernel
theorem dX7_wrong_29 : decode cX7_wrong 29 = .ok (.iload 4, 2) := by decide +kernel
theorem dX7_wrong_31 : decode cX7_wrong 31 = .ok (.iadd, 1) := by decide +kernel
theorem dX7_wrong_32 : decode cX7_wrong 32 = .ok (.iaload, 1) := by decide +kernel
theorem dX7_wrong_33 : decode cX7_wrong 33 = .ok (.aload_n 0, 1) := by decide +kernel
theorem dX7_wrong_34 : decode cX7_wrong 34 = .ok (.getfield 7, 3) := by decide +kernel
theorem dX7_wrong_37 : decode cX7_wrong 37 = .ok (.iconst 1, 1) := by decide +kernel
theorem dX7_wrong_38 : decode cX7_wrong 38 = .ok (.iload 5, 2) := by decide +kernel
theorem dX7_wrong_40 : decode cX7_wrong 40 = .ok (.iadd, 1) := by decide +kernel
theorem dX7_wrong_41 : decode cX7_wrong 41 = .ok (.iaload, 1) := by decide +kernel
theorem dX7_wrong_42 : decode cX7_wrong 42 = .ok (.if_icmp .le 7, 3) := by decide +kernel
theorem dX7_wrong_45 : decode cX7_wrong 45 = .ok (.iconst 1, 1) := by decide +kernel
theorem dX7_wrong_46 : decode cX7_wrong 46 = .ok (.goto 4, 3) := by decide +kernel
theorem dX7_wrong_49 : decode cX7_wrong 49 = .ok (.iconst 0, 1) := by decide +kernel
theorem dX7_wrong_50 : decode cX7_wrong 50 = .ok (.iadd, 1) := by decide +kernel
theorem dX7_wrong_51 : decode cX7_wrong 51 = .ok (.istore_n 3, 1) := by decide +kernel
theorem dX7_wrong_52 : decode cX7_wrong 52 = .ok (.iinc 5 1, 3) := by decide +kernel
theorem dX7_wrong_55 : decode cX7_wrong 55 = .ok (.goto (-38), 3) := by decide +kernel
theorem dX7_wrong_58 : decode cX7_wrong 58 = .ok (.iinc 4 1, 3) := by decide +kernel
theorem dX7_wrong_61 : decode cX7_wrong 61 = .ok (.goto (-56), 3) := by decide +kernel
theorem dX7_wrong_64 : decode cX7_wrong 64 = .ok (.iload_n 3, 1) := by decide +kernel
theorem dX7_wrong_65 : decode cX7_wrong 65 = .ok (.ireturn, 1) := by decide +kernel
theorem dX7_spanOf_0 : decode cX7_spanOf 0 = .ok (.aload_n 0, 1) := by decide +kernel
theorem dX7_spanOf_1 : decode cX7_spanOf 1 = .ok (.iload_n 1, 1) := by decide +kernel
theorem dX7_spanOf_2 : decode cX7_spanOf 2 = .ok (.iload_n 2, 1) := by decide +kernel
theorem dX7_spanOf_3 : decode cX7_spanOf 3 = .ok (.invokevirtual 69, 3) := by decide +kernel
theorem dX7_spanOf_6 : decode cX7_spanOf 6 = .ok (.ifCond .eq 12, 3) := by decide +kernel
theorem dX7_spanOf_9 : decode cX7_spanOf 9 = .ok (.iload_n 3, 1) := by decide +kernel
theorem dX7_spanOf_10 : decode cX7_spanOf 10 = .ok (.iconst 0, 1) := by decide +kernel
theorem dX7_spanOf_11 : decode cX7_spanOf 11 = .ok (.iconst 5, 1) := by decide +kernel
theorem dX7_spanOf_12 : decode cX7_spanOf 12 = .ok (.invokestatic 38, 3) := by decide +kernel
theorem dX7_spanOf_15 : decode cX7_spanOf 15 = .ok (.ifCond .ne 6, 3) := by decide +kernel
theorem dX7_spanOf_18 : decode cX7_spanOf 18 = .ok (.ldc 42, 2) := by decide +kernel
theorem dX7_spanOf_20 : decode cX7_spanOf 20 = .ok (.ireturn, 1) := by decide +kernel
theorem dX7_spanOf_21 : decode cX7_spanOf 21 = .ok (.aload_n 0, 1) := by decide +kernel
theorem dX7_spanOf_22 : decode cX7_spanOf 22 = .ok (.iload_n 1, 1) := by decide +kernel
theorem dX7_spanOf_23 : decode cX7_spanOf 23 = .ok (.iload_n 2, 1) := by decide +kernel
theorem dX7_spanOf_24 : decode cX7_spanOf 24 = .ok (.invokevirtual 76, 3) := by decide +kernel
theorem dX7_spanOf_27 : decode cX7_spanOf 27 = .ok (.iload_n 3, 1) := by decide +kernel
theorem dX7_spanOf_28 : decode cX7_spanOf 28 = .ok (.tableswitch 98 0 4 #[36, 41, 56, 76, 83], 36) := by decide +kernel
theorem dX7_spanOf_64 : decode cX7_spanOf 64 = .ok (.aload_n 0, 1) := by decide +kernel
theorem dX7_spanOf_65 : decode cX7_spanOf 65 = .ok (.invokevirtual 95, 3) := by decide +kernel
theorem dX7_spanOf_68 : decode cX7_spanOf 68 = .ok (.ireturn, 1) := by decide +kernel
theorem dX7_spanOf_69 : decode cX7_spanOf 69 = .ok (.iload_n 1, 1) := by decide +kernel
theorem dX7_spanOf_70 : decode cX7_spanOf 70 = .ok (.iload_n 2, 1) := by decide +kernel
theorem dX7_spanOf_71 : decode cX7_spanOf 71 = .ok (.if_icmp .ne 8, 3) := by decide +kernel
theorem dX7_spanOf_74 : decode cX7_spanOf 74 = .ok (.ldc 83, 2) := by decide +kernel
theorem dX7_spanOf_76 : decode cX7_spanOf 76 = .ok (.goto 7, 3) := by decide +kernel
theorem dX7_spanOf_79 : decode cX7_spanOf 79 = .ok (.aload_n 0, 1) := by decide +kernel
theorem dX7_spanOf_80 : decode cX7_spanOf 80 = .ok (.invokevirtual 98, 3) := by decide +kernel
theorem dX7_spanOf_83 : decode cX7_spanOf 83 = .ok (.ireturn, 1) := by decide +kernel
theorem dX7_spanOf_84 : decode cX7_spanOf 84 = .ok (.iload_n 1, 1) := by decide +kernel
theorem dX7_spanOf_85 : decode cX7_spanOf 85 = .ok (.iload_n 2, 1) := by decide +kernel
theorem dX7_spanOf_86 : decode cX7_spanOf 86 = .ok (.if_icmp .ne 8, 3) := by decide +kernel
theorem dX7_spanOf_89 : decode cX7_spanOf 89 = .ok (.ldc 83, 2) := by decide +kernel
theorem dX7_spanOf_91 : decode cX7_spanOf 91 = .ok (.goto 12, 3) := by decide +kernel
theorem dX7_spanOf_94 : decode cX7_spanOf 94 = .ok (.aload_n 0, 1) := by decide +kernel
theorem dX7_spanOf_95 : decode cX7_spanOf 95 = .ok (.getfield 32, 3) := by decide +kernel
theorem dX7_spanOf_98 : decode cX7_spanOf 98 = .ok (.aload_n 0, 1) := by decide +kernel
theorem dX7_spanOf_99 : decode cX7_spanOf 99 = .ok (.invokevirtual 98, 3) := by decide +kernel
theorem dX7_spanOf_102 : decode cX7_spanOf 102 = .ok (.iaload, 1) := by decide +kernel
theorem dX7_spanOf_103 : decode cX7_spanOf 103 = .ok (.ireturn, 1) := by decide +kernel
theorem dX7_spanOf_104 : decode cX7_spanOf 104 = .ok (.aload_n 0, 1) := by decide +kernel
theorem dX7_spanOf_105 : decode cX7_spanOf 105 = .ok (.iload_n 1, 1) := by decide +kernel
theorem dX7_spanOf_106 : decode cX7_spanOf 106 = .ok (.iload_n 2, 1) := by decide +kernel
theorem dX7_spanOf_107 : decode cX7_spanOf 107 = .ok (.invokevirtual 101, 3) := by decide +kernel
theorem dX7_spanOf_110 : decode cX7_spanOf 110 = .ok (.ireturn, 1) := by decide +kernel
theorem dX7_spanOf_111 : decode cX7_spanOf 111 = .ok (.aload_n 0, 1) := by decide +kernel
theorem dX7_spanOf_112 : decode cX7_spanOf 112 = .ok (.iload_n 1, 1) := by decide +kernel
theorem dX7_spanOf_113 : decode cX7_spanOf 113 = .ok (.iload_n 2, 1) := by decide +kernel
theorem dX7_spanOf_114 : decode cX7_spanOf 114 = .ok (.invokevirtual 104, 3) := by decide +kernel
theorem dX7_spanOf_117 : decode cX7_spanOf 117 = .ok (.ifCond .ne 7, 3) := by decide +kernel
theorem dX7_spanOf_120 : decode cX7_spanOf 120 = .ok (.iconst 1, 1) := by decide +kernel
theorem dX7_spanOf_121 : decode cX7_spanOf 121 = .ok (.goto 4, 3) := by decide +kernel
theorem dX7_spanOf_124 : decode cX7_spanOf 124 = .ok (.iconst 0, 1) := by decide +kernel
theorem dX7_spanOf_125 : decode cX7_spanOf 125 = .ok (.ireturn, 1) := by decide +kernel
theorem dX7_spanOf_126 : decode cX7_spanOf 126 = .ok (.aload_n 0, 1) := by decide +kernel
theorem dX7_spanOf_127 : decode cX7_spanOf 127 = .ok (.iload_n 1, 1) := by decide +kernel
theorem dX7_spanOf_128 : decode cX7_spanOf 128 = .ok (.iload_n 2, 1) := by decide +kernel
theorem dX7_spanOf_129 : decode cX7_spanOf 129 = .ok (.invokevirtual 104, 3) := by decide +kernel
theorem dX7_spanOf_132 : decode cX7_spanOf 132 = .ok (.ireturn, 1) := by decide +kernel
theorem dX7_product_0 : decode cX7_product 0 = .ok (.aload_n 0, 1) := by decide +kernel
theorem dX7_product_1 : decode cX7_product 1 = .ok (.iload_n 1, 1) := by decide +kernel
theorem dX7_product_2 : decode cX7_product 2 = .ok (.iload_n 2, 1) := by decide +kernel
theorem dX7_product_3 : decode cX7_product 3 = .ok (.invokevirtual 69, 3) := by decide +kernel
theorem dX7_product_6 : decode cX7_product 6 = .ok (.ifCond .ne 7, 3) := by decide +kernel
theorem dX7_product_9 : decode cX7_product 9 = .ok (.ldc2_w 91, 3) := by decide +kernel
theorem dX7_product_12 : decode cX7_product 12 = .ok (.lreturn, 1) := by decide +kernel
theorem dX7_product_13 : decode cX7_product 13 = .ok (.lconst 1, 1) := by decide +kernel
theorem dX7_product_14 : decode cX7_product 14 = .ok (.lstore_n 3, 1) := by decide +kernel
theorem dX7_product_15 : decode cX7_product 15 = .ok (.iload_n 1, 1) := by decide +kernel
theorem dX7_product_16 : decode cX7_product 16 = .ok (.istore 5, 2) := by decide +kernel
theorem dX7_product_18 : decode cX7_product 18 = .ok (.iload 5, 2) := by decide +kernel
theorem dX7_product_20 : decode cX7_product 20 = .ok (.iload_n 2, 1) := by decide +kernel
theorem dX7_product_21 : decode cX7_product 21 = .ok (.if_icmp .ge 44, 3) := by decide +kernel
theorem dX7_product_24 : decode cX7_product 24 = .ok (.aload_n 0, 1) := by decide +kernel
theorem dX7_product_25 : decode cX7_product 25 = .ok (.getfield 7, 3) := by decide +kernel
theorem dX7_product_28 : decode cX7_product 28 = .ok (.iconst 1, 1) := by decide +kernel
theorem dX7_product_29 : decode cX7_product 29 = .ok (.iload 5, 2) := by decide +kernel
theorem dX7_product_31 : decode cX7_product 31 = .ok (.iadd, 1) := by decide +kernel
theorem dX7_product_32 : decode cX7_product 32 = .ok (.iaload, 1) := by decide +kernel
theorem dX7_product_33 : decode cX7_product 33 = .ok (.iconst 1, 1) := by decide +kernel
theorem dX7_product_34 : decode cX7_product 34 = .ok (.iadd, 1) := by decide +kernel
theorem dX7_product_35 : decode cX7_product 35 = .ok (.istore 6, 2) := by decide +kernel
theorem dX7_product_37 : decode cX7_product 37 = .ok (.lload_n 3, 1) := by decide +kernel
theorem dX7_product_38 : decode cX7_product 38 = .ok (.ldc2_w 107, 3) := by decide +kernel
theorem dX7_product_41 : decode cX7_product 41 = .ok (.iload 6, 2) := by decide +kernel
theorem dX7_product_43 : decode cX7_product 43 = .ok (.i2l, 1) := by decide +kernel
theorem dX7_product_44 : decode cX7_product 44 = .ok (.ldiv, 1) := by decide +kernel
theorem dX7_product_45 : decode cX7_product 45 = .ok (.lcmp, 1) := by decide +kernel
theorem dX7_product_46 : decode cX7_product 46 = .ok (.ifCond .le 7, 3) := by decide +kernel
theorem dX7_product_49 : decode cX7_product 49 = .ok (.ldc2_w 109, 3) := by decide +kernel
theorem dX7_product_52 : decode cX7_product 52 = .ok (.lreturn, 1) := by decide +kernel
theorem dX7_product_53 : decode cX7_product 53 = .ok (.lload_n 3, 1) := by decide +kernel
theorem dX7_product_54 : decode cX7_product 54 = .ok (.iload 6, 2) := by decide +kernel
theorem dX7_product_56 : decode cX7_product 56 = .ok (.i2l, 1) := by decide +kernel
theorem dX7_product_57 : decode cX7_product 57 = .ok (.lmul, 1) := by decide +kernel
theorem dX7_product_58 : decode cX7_product 58 = .ok (.lstore_n 3, 1) := by decide +kernel
theorem dX7_product_59 : decode cX7_product 59 = .ok (.iinc 5 1, 3) := by decide +kernel
theorem dX7_product_62 : decode cX7_product 62 = .ok (.goto (-44), 3) := by decide +kernel
theorem dX7_product_65 : decode cX7_product 65 = .ok (.lload_n 3, 1) := by decide +kernel
theorem dX7_product_66 : decode cX7_product 66 = .ok (.lreturn, 1) := by decide +kernel
theorem dX7_common_0 : decode cX7_common 0 = .ok (.aload_n 0, 1) := by decide +kernel
theorem dX7_common_1 : decode cX7_common 1 = .ok (.iload_n 1, 1) := by decide +kernel
theorem dX7_common_2 : decode cX7_common 2 = .ok (.iload_n 2, 1) := by decide +kernel
theorem dX7_common_3 : decode cX7_common 3 = .ok (.invokevirtual 69, 3) := by decide +kernel
theorem dX7_common_6 : decode cX7_common 6 = .ok (.ifCond .eq 23, 3) := by decide +kernel
theorem dX7_common_9 : decode cX7_common 9 = .ok (.aload_n 0, 1) := by decide +kernel
theorem dX7_common_10 : decode cX7_common 10 = .ok (.iload_n 3, 1) := by decide +kernel
theorem dX7_common_11 : decode cX7_common 11 = .ok (.iload 4, 2) := by decide +kernel
theorem dX7_common_13 : decode cX7_common 13 = .ok (.invokevirtual 69, 3) := by decide +kernel
theorem dX7_common_16 : decode cX7_common 16 = .ok (.ifCond .eq 13, 3) := by decide +kernel
theorem dX7_common_19 : decode cX7_common 19 = .ok (.iload 5, 2) := by decide +kernel
theorem dX7_common_21 : decode cX7_common 21 = .ok (.iconst 0, 1) := by decide +kernel
theorem dX7_common_22 : decode cX7_common 22 = .ok (.iconst 3, 1) := by decide +kernel
theorem dX7_common_23 : decode cX7_common 23 = .ok (.invokestatic 38, 3) := by decide +kernel
theorem dX7_common_26 : decode cX7_common 26 = .ok (.ifCond .ne 6, 3) := by decide +kernel
theorem dX7_common_29 : decode cX7_common 29 = .ok (.ldc 42, 2) := by decide +kernel
theorem dX7_common_31 : decode cX7_common 31 = .ok (.ireturn, 1) := by decide +kernel
theorem dX7_common_32 : decode cX7_common 32 = .ok (.aload_n 0, 1) := by decide +kernel
theorem dX7_common_33 : decode cX7_common 33 = .ok (.iload_n 1, 1) := by decide +kernel
theorem dX7_common_34 : decode cX7_common 34 = .ok (.iload_n 2, 1) := by decide +kernel
theorem dX7_common_35 : decode cX7_common 35 = .ok (.invokevirtual 76, 3) := by decide +kernel
theorem dX7_common_38 : decode cX7_common 38 = .ok (.iconst 0, 1) := by decide +kernel
theorem dX7_common_39 : decode cX7_common 39 = .ok (.istore 6, 2) := by decide +kernel
theorem dX7_common_41 : decode cX7_common 41 = .ok (.iload 6, 2) := by decide +kernel
theorem dX7_common_43 : decode cX7_common 43 = .ok (.bipush 16, 2) := by decide +kernel
theorem dX7_common_45 : decode cX7_common 45 = .ok (.if_icmp .ge 23, 3) := by decide +kernel
theorem dX7_common_48 : decode cX7_common 48 = .ok (.aload_n 0, 1) := by decide +kernel
theorem dX7_common_49 : decode cX7_common 49 = .ok (.getfield 35, 3) := by decide +kernel
theorem dX7_common_52 : decode cX7_common 52 = .ok (.iload 6, 2) := by decide +kernel
theorem dX7_common_54 : decode cX7_common 54 = .ok (.aload_n 0, 1) := by decide +kernel
theorem dX7_common_55 : decode cX7_common 55 = .ok (.getfield 32, 3) := by decide +kernel
theorem dX7_common_58 : decode cX7_common 58 = .ok (.iload 6, 2) := by decide +kernel
theorem dX7_common_60 : decode cX7_common 60 = .ok (.iaload, 1) := by decide +kernel
theorem dX7_common_61 : decode cX7_common 61 = .ok (.iastore, 1) := by decide +kernel
theorem dX7_common_62 : decode cX7_common 62 = .ok (.iinc 6 1, 3) := by decide +kernel
theorem dX7_common_65 : decode cX7_common 65 = .ok (.goto (-24), 3) := by decide +kernel
theorem dX7_common_68 : decode cX7_common 68 = .ok (.aload_n 0, 1) := by decide +kernel
theorem dX7_common_69 : decode cX7_common 69 = .ok (.iload_n 3, 1) := by decide +kernel
theorem dX7_common_70 : decode cX7_common 70 = .ok (.iload 4, 2) := by decide +kernel
theorem dX7_common_72 : decode cX7_common 72 = .ok (.invokevirtual 76, 3) := by decide +kernel
theorem dX7_common_75 : decode cX7_common 75 = .ok (.iconst 0, 1) := by decide +kernel
theorem dX7_common_76 : decode cX7_common 76 = .ok (.istore 6, 2) := by decide +kernel
theorem dX7_common_78 : decode cX7_common 78 = .ok (.iconst 0, 1) := by decide +kernel
theorem dX7_common_79 : decode cX7_common 79 = .ok (.istore 7, 2) := by decide +kernel
theorem dX7_common_81 : decode cX7_common 81 = .ok (.ldc 83, 2) := by decide +kernel
theorem dX7_common_83 : decode cX7_common 83 = .ok (.istore 8, 2) := by decide +kernel
theorem dX7_common_85 : decode cX7_common 85 = .ok (.iconst 1, 1) := by decide +kernel
theorem dX7_common_86 : decode cX7_common 86 = .ok (.istore 9, 2) := by decide +kernel
theorem dX7_common_88 : decode cX7_common 88 = .ok (.bipush 15, 2) := by decide +kernel
theorem dX7_common_90 : decode cX7_common 90 = .ok (.istore 10, 2) := by decide +kernel
theorem dX7_common_92 : decode cX7_common 92 = .ok (.iload 10, 2) := by decide +kernel
theorem dX7_common_94 : decode cX7_common 94 = .ok (.ifCond .lt 110, 3) := by decide +kernel
theorem dX7_common_97 : decode cX7_common 97 = .ok (.aload_n 0, 1) := by decide +kernel
theorem dX7_common_98 : decode cX7_common 98 = .ok (.getfield 32, 3) := by decide +kernel
theorem dX7_common_101 : decode cX7_common 101 = .ok (.iload 10, 2) := by decide +kernel
theorem dX7_common_103 : decode cX7_common 103 = .ok (.iaload, 1) := by decide +kernel
theorem dX7_common_104 : decode cX7_common 104 = .ok (.aload_n 0, 1) := by decide +kernel
theorem dX7_common_105 : decode cX7_common 105 = .ok (.getfield 35, 3) := by decide +kernel
theorem dX7_common_108 : decode cX7_common 108 = .ok (.iload 10, 2) := by decide +kernel
theorem dX7_common_110 : decode cX7_common 110 = .ok (.iaload, 1) := by decide +kernel
theorem dX7_common_111 : decode cX7_common 111 = .ok (.if_icmp .ge 13, 3) := by decide +kernel
theorem dX7_common_114 : decode cX7_common 114 = .ok (.aload_n 0, 1) := by decide +kernel
theorem dX7_common_115 : decode cX7_common 115 = .ok (.getfield 32, 3) := by decide +kernel
theorem dX7_common_118 : decode cX7_common 118 = .ok (.iload 10, 2) := by decide +kernel
theorem dX7_common_120 : decode cX7_common 120 = .ok (.iaload, 1) := by decide +kernel
theorem dX7_common_121 : decode cX7_common 121 = .ok (.goto 10, 3) := by decide +kernel
theorem dX7_common_124 : decode cX7_common 124 = .ok (.aload_n 0, 1) := by decide +kernel
theorem dX7_common_125 : decode cX7_common 125 = .ok (.getfield 35, 3) := by decide +kernel
theorem dX7_common_128 : decode cX7_common 128 = .ok (.iload 10, 2) := by decide +kernel
theorem dX7_common_130 : decode cX7_common 130 = .ok (.iaload, 1) := by decide +kernel
theorem dX7_common_131 : decode cX7_common 131 = .ok (.istore 11, 2) := by decide +kernel
theorem dX7_common_133 : decode cX7_common 133 = .ok (.iload 6, 2) := by decide +kernel
theorem dX7_common_135 : decode cX7_common 135 = .ok (.iload 11, 2) := by decide +kernel
theorem dX7_common_137 : decode cX7_common 137 = .ok (.ifCond .le 7, 3) := by decide +kernel
theorem dX7_common_140 : decode cX7_common 140 = .ok (.iconst 1, 1) := by decide +kernel
theorem dX7_common_141 : decode cX7_common 141 = .ok (.goto 4, 3) := by decide +kernel
theorem dX7_common_144 : decode cX7_common 144 = .ok (.iconst 0, 1) := by decide +kernel
theorem dX7_common_145 : decode cX7_common 145 = .ok (.iadd, 1) := by decide +kernel
theorem dX7_common_146 : decode cX7_common 146 = .ok (.istore 6, 2) := by decide +kernel
theorem dX7_common_148 : decode cX7_common 148 = .ok (.iload 7, 2) := by decide +kernel
theorem dX7_common_150 : decode cX7_common 150 = .ok (.iload 11, 2) := by decide +kernel
theorem dX7_common_152 : decode cX7_common 152 = .ok (.iadd, 1) := by decide +kernel
theorem dX7_common_153 : decode cX7_common 153 = .ok (.istore 7, 2) := by decide +kernel
theorem dX7_common_155 : decode cX7_common 155 = .ok (.iload 11, 2) := by decide +kernel
theorem dX7_common_157 : decode cX7_common 157 = .ok (.ifCond .le 8, 3) := by decide +kernel
theorem dX7_common_160 : decode cX7_common 160 = .ok (.iload 10, 2) := by decide +kernel
theorem dX7_common_162 : decode cX7_common 162 = .ok (.goto 5, 3) := by decide +kernel
theorem dX7_common_165 : decode cX7_common 165 = .ok (.iload 8, 2) := by decide +kernel
theorem dX7_common_167 : decode cX7_common 167 = .ok (.istore 8, 2) := by decide +kernel
theorem dX7_common_169 : decode cX7_common 169 = .ok (.iload 9, 2) := by decide +kernel
theorem dX7_common_171 : decode cX7_common 171 = .ok (.ifCond .eq 24, 3) := by decide +kernel
theorem dX7_common_174 : decode cX7_common 174 = .ok (.aload_n 0, 1) := by decide +kernel
theorem dX7_common_175 : decode cX7_common 175 = .ok (.getfield 32, 3) := by decide +kernel
theorem dX7_common_178 : decode cX7_common 178 = .ok (.iload 10, 2) := by decide +kernel
theorem dX7_common_180 : decode cX7_common 180 = .ok (.iaload, 1) := by decide +kernel
theorem dX7_common_181 : decode cX7_common 181 = .ok (.aload_n 0, 1) := by decide +kernel
theorem dX7_common_182 : decode cX7_common 182 = .ok (.getfield 35, 3) := by decide +kernel
theorem dX7_common_185 : decode cX7_common 185 = .ok (.iload 10, 2) := by decide +kernel
theorem dX7_common_187 : decode cX7_common 187 = .ok (.iaload, 1) := by decide +kernel
theorem dX7_common_188 : decode cX7_common 188 = .ok (.if_icmp .ne 7, 3) := by decide +kernel
theorem dX7_common_191 : decode cX7_common 191 = .ok (.iconst 1, 1) := by decide +kernel
theorem dX7_common_192 : decode cX7_common 192 = .ok (.goto 4, 3) := by decide +kernel
theorem dX7_common_195 : decode cX7_common 195 = .ok (.iconst 0, 1) := by decide +kernel
theorem dX7_common_196 : decode cX7_common 196 = .ok (.istore 9, 2) := by decide +kernel
theorem dX7_common_198 : decode cX7_common 198 = .ok (.iinc 10 (-1), 3) := by decide +kernel
theorem dX7_common_201 : decode cX7_common 201 = .ok (.goto (-109), 3) := by decide +kernel
theorem dX7_common_204 : decode cX7_common 204 = .ok (.iload 5, 2) := by decide +kernel
theorem dX7_common_206 : decode cX7_common 206 = .ok (.ifCond .ne 8, 3) := by decide +kernel
theorem dX7_common_209 : decode cX7_common 209 = .ok (.iload 6, 2) := by decide +kernel
theorem dX7_common_211 : decode cX7_common 211 = .ok (.goto 35, 3) := by decide +kernel
theorem dX7_common_214 : decode cX7_common 214 = .ok (.iload 5, 2) := by decide +kernel
theorem dX7_common_216 : decode cX7_common 216 = .ok (.iconst 1, 1) := by decide +kernel
theorem dX7_common_217 : decode cX7_common 217 = .ok (.if_icmp .ne 8, 3) := by decide +kernel
theorem dX7_common_220 : decode cX7_common 220 = .ok (.iload 7, 2) := by decide +kernel
theorem dX7_common_222 : decode cX7_common 222 = .ok (.goto 24, 3) := by decide +kernel
theorem dX7_common_225 : decode cX7_common 225 = .ok (.iload 5, 2) := by decide +kernel
theorem dX7_common_227 : decode cX7_common 227 = .ok (.iconst 2, 1) := by decide +kernel
theorem dX7_common_228 : decode cX7_common 228 = .ok (.if_icmp .ne 8, 3) := by decide +kernel
theorem dX7_common_231 : decode cX7_common 231 = .ok (.iload 8, 2) := by decide +kernel
theorem dX7_common_233 : decode cX7_common 233 = .ok (.goto 13, 3) := by decide +kernel
theorem dX7_common_236 : decode cX7_common 236 = .ok (.iload 9, 2) := by decide +kernel
theorem dX7_common_238 : decode cX7_common 238 = .ok (.ifCond .eq 7, 3) := by decide +kernel
theorem dX7_common_241 : decode cX7_common 241 = .ok (.iconst 1, 1) := by decide +kernel
theorem dX7_common_242 : decode cX7_common 242 = .ok (.goto 4, 3) := by decide +kernel
theorem dX7_common_245 : decode cX7_common 245 = .ok (.iconst 0, 1) := by decide +kernel
theorem dX7_common_246 : decode cX7_common 246 = .ok (.ireturn, 1) := by decide +kernel
theorem dX7_heaviest_0 : decode cX7_heaviest 0 = .ok (.iload_n 1, 1) := by decide +kernel
theorem dX7_heaviest_1 : decode cX7_heaviest 1 = .ok (.iconst 1, 1) := by decide +kernel
theorem dX7_heaviest_2 : decode cX7_heaviest 2 = .ok (.bipush 60, 2) := by decide +kernel
theorem dX7_heaviest_4 : decode cX7_heaviest 4 = .ok (.invokestatic 38, 3) := by decide +kernel
theorem dX7_heaviest_7 : decode cX7_heaviest 7 = .ok (.ifCond .eq 12, 3) := by decide +kernel
theorem dX7_heaviest_10 : decode cX7_heaviest 10 = .ok (.iload_n 2, 1) := by decide +kernel
theorem dX7_heaviest_11 : decode cX7_heaviest 11 = .ok (.iconst 0, 1) := by decide +kernel
theorem dX7_heaviest_12 : decode cX7_heaviest 12 = .ok (.iconst 1, 1) := by decide +kernel
theorem dX7_heaviest_13 : decode cX7_heaviest 13 = .ok (.invokestatic 38, 3) := by decide +kernel
theorem dX7_heaviest_16 : decode cX7_heaviest 16 = .ok (.ifCond .ne 6, 3) := by decide +kernel
theorem dX7_heaviest_19 : decode cX7_heaviest 19 = .ok (.ldc 42, 2) := by decide +kernel
theorem dX7_heaviest_21 : decode cX7_heaviest 21 = .ok (.ireturn, 1) := by decide +kernel
theorem dX7_heaviest_22 : decode cX7_heaviest 22 = .ok (.ldc 83, 2) := by decide +kernel
theorem dX7_heaviest_24 : decode cX7_heaviest 24 = .ok (.istore_n 3, 1) := by decide +kernel
theorem dX7_heaviest_25 : decode cX7_heaviest 25 = .ok (.iconst (-1), 1) := by decide +kernel
theorem dX7_heaviest_26 : decode cX7_heaviest 26 = .ok (.istore 4, 2) := by decide +kernel
theorem dX7_heaviest_28 : decode cX7_heaviest 28 = .ok (.iconst 0, 1) := by decide +kernel
theorem dX7_heaviest_29 : decode cX7_heaviest 29 = .ok (.istore 5, 2) := by decide +kernel
theorem dX7_heaviest_31 : decode cX7_heaviest 31 = .ok (.iload 5, 2) := by decide +kernel
theorem dX7_heaviest_33 : decode cX7_heaviest 33 = .ok (.iload_n 1, 1) := by decide +kernel
theorem dX7_heaviest_34 : decode cX7_heaviest 34 = .ok (.iadd, 1) := by decide +kernel
theorem dX7_heaviest_35 : decode cX7_heaviest 35 = .ok (.aload_n 0, 1) := by decide +kernel
theorem dX7_heaviest_36 : decode cX7_heaviest 36 = .ok (.getfield 7, 3) := by decide +kernel
theorem dX7_heaviest_39 : decode cX7_heaviest 39 = .ok (.iconst 0, 1) := by decide +kernel
theorem dX7_heaviest_40 : decode cX7_heaviest 40 = .ok (.iaload, 1) := by decide +kernel
theorem dX7_heaviest_41 : decode cX7_heaviest 41 = .ok (.if_icmp .gt 51, 3) := by decide +kernel
theorem dX7_heaviest_44 : decode cX7_heaviest 44 = .ok (.aload_n 0, 1) := by decide +kernel
theorem dX7_heaviest_45 : decode cX7_heaviest 45 = .ok (.iload 5, 2) := by decide +kernel
theorem dX7_heaviest_47 : decode cX7_heaviest 47 = .ok (.iload 5, 2) := by decide +kernel
theorem dX7_heaviest_49 : decode cX7_heaviest 49 = .ok (.iload_n 1, 1) := by decide +kernel
theorem dX7_heaviest_50 : decode cX7_heaviest 50 = .ok (.iadd, 1) := by decide +kernel
theorem dX7_heaviest_51 : decode cX7_heaviest 51 = .ok (.invokevirtual 101, 3) := by decide +kernel
theorem dX7_heaviest_54 : decode cX7_heaviest 54 = .ok (.istore 6, 2) := by decide +kernel
theorem dX7_heaviest_56 : decode cX7_heaviest 56 = .ok (.iload 6, 2) := by decide +kernel
theorem dX7_heaviest_58 : decode cX7_heaviest 58 = .ok (.iload 4, 2) := by decide +kernel
theorem dX7_heaviest_60 : decode cX7_heaviest 60 = .ok (.if_icmp .le 8, 3) := by decide +kernel
theorem dX7_heaviest_63 : decode cX7_heaviest 63 = .ok (.iload 5, 2) := by decide +kernel
theorem dX7_heaviest_65 : decode cX7_heaviest 65 = .ok (.goto 4, 3) := by decide +kernel
theorem dX7_heaviest_68 : decode cX7_heaviest 68 = .ok (.iload_n 3, 1) := by decide +kernel
theorem dX7_heaviest_69 : decode cX7_heaviest 69 = .ok (.istore_n 3, 1) := by decide +kernel
theorem dX7_heaviest_70 : decode cX7_heaviest 70 = .ok (.iload 6, 2) := by decide +kernel
theorem dX7_heaviest_72 : decode cX7_heaviest 72 = .ok (.iload 4, 2) := by decide +kernel
theorem dX7_heaviest_74 : decode cX7_heaviest 74 = .ok (.if_icmp .le 8, 3) := by decide +kernel
theorem dX7_heaviest_77 : decode cX7_heaviest 77 = .ok (.iload 6, 2) := by decide +kernel
theorem dX7_heaviest_79 : decode cX7_heaviest 79 = .ok (.goto 5, 3) := by decide +kernel
theorem dX7_heaviest_82 : decode cX7_heaviest 82 = .ok (.iload 4, 2) := by decide +kernel
theorem dX7_heaviest_84 : decode cX7_heaviest 84 = .ok (.istore 4, 2) := by decide +kernel
theorem dX7_heaviest_86 : decode cX7_heaviest 86 = .ok (.iinc 5 1, 3) := by decide +kernel
theorem dX7_heaviest_89 : decode cX7_heaviest 89 = .ok (.goto (-58), 3) := by decide +kernel
theorem dX7_heaviest_92 : decode cX7_heaviest 92 = .ok (.iload_n 2, 1) := by decide +kernel
theorem dX7_heaviest_93 : decode cX7_heaviest 93 = .ok (.ifCond .eq 7, 3) := by decide +kernel
theorem dX7_heaviest_96 : decode cX7_heaviest 96 = .ok (.iload_n 3, 1) := by decide +kernel
theorem dX7_heaviest_97 : decode cX7_heaviest 97 = .ok (.ifCond .ge 7, 3) := by decide +kernel
theorem dX7_heaviest_100 : decode cX7_heaviest 100 = .ok (.iload_n 3, 1) := by decide +kernel
theorem dX7_heaviest_101 : decode cX7_heaviest 101 = .ok (.goto 5, 3) := by decide +kernel
theorem dX7_heaviest_104 : decode cX7_heaviest 104 = .ok (.iload 4, 2) := by decide +kernel
theorem dX7_heaviest_106 : decode cX7_heaviest 106 = .ok (.ireturn, 1) := by decide +kernel
theorem dX7_ones_0 : decode cX7_ones 0 = .ok (.iconst 0, 1) := by decide +kernel
theorem dX7_ones_1 : decode cX7_ones 1 = .ok (.istore_n 1, 1) := by decide +kernel
theorem dX7_ones_2 : decode cX7_ones 2 = .ok (.iconst 0, 1) := by decide +kernel
theorem dX7_ones_3 : decode cX7_ones 3 = .ok (.istore_n 2, 1) := by decide +kernel
theorem dX7_ones_4 : decode cX7_ones 4 = .ok (.iload_n 2, 1) := by decide +kernel
theorem dX7_ones_5 : decode cX7_ones 5 = .ok (.aload_n 0, 1) := by decide +kernel
theorem dX7_ones_6 : decode cX7_ones 6 = .ok (.getfield 7, 3) := by decide +kernel
theorem dX7_ones_9 : decode cX7_ones 9 = .ok (.iconst 0, 1) := by decide +kernel
theorem dX7_ones_10 : decode cX7_ones 10 = .ok (.iaload, 1) := by decide +kernel
theorem dX7_ones_11 : decode cX7_ones 11 = .ok (.if_icmp .ge 37, 3) := by decide +kernel
theorem dX7_ones_14 : decode cX7_ones 14 = .ok (.iconst 0, 1) := by decide +kernel
theorem dX7_ones_15 : decode cX7_ones 15 = .ok (.istore_n 3, 1) := by decide +kernel
theorem dX7_ones_16 : decode cX7_ones 16 = .ok (.iload_n 3, 1) := by decide +kernel
theorem dX7_ones_17 : decode cX7_ones 17 = .ok (.iconst 4, 1) := by decide +kernel
theorem dX7_ones_18 : decode cX7_ones 18 = .ok (.if_icmp .ge 24, 3) := by decide +kernel
theorem dX7_ones_21 : decode cX7_ones 21 = .ok (.iload_n 1, 1) := by decide +kernel
theorem dX7_ones_22 : decode cX7_ones 22 = .ok (.aload_n 0, 1) := by decide +kernel
theorem dX7_ones_23 : decode cX7_ones 23 = .ok (.getfield 7, 3) := by decide +kernel
theorem dX7_ones_26 : decode cX7_ones 26 = .ok (.iconst 1, 1) := by decide +kernel
theorem dX7_ones_27 : decode cX7_ones 27 = .ok (.iload_n 2, 1) := by decide +kernel
theorem dX7_ones_28 : decode cX7_ones 28 = .ok (.iadd, 1) := by decide +kernel
theorem dX7_ones_29 : decode cX7_ones 29 = .ok (.iaload, 1) := by decide +kernel
theorem dX7_ones_30 : decode cX7_ones 30 = .ok (.iload_n 3, 1) := by decide +kernel
theorem dX7_ones_31 : decode cX7_ones 31 = .ok (.ishr, 1) := by decide +kernel
theorem dX7_ones_32 : decode cX7_ones 32 = .ok (.iconst 1, 1) := by decide +kernel
theorem dX7_ones_33 : decode cX7_ones 33 = .ok (.iand, 1) := by decide +kernel
theorem dX7_ones_34 : decode cX7_ones 34 = .ok (.iadd, 1) := by decide +kernel
theorem dX7_ones_35 : decode cX7_ones 35 = .ok (.istore_n 1, 1) := by decide +kernel
theorem dX7_ones_36 : decode cX7_ones 36 = .ok (.iinc 3 1, 3) := by decide +kernel
theorem dX7_ones_39 : decode cX7_ones 39 = .ok (.goto (-23), 3) := by decide +kernel
theorem dX7_ones_42 : decode cX7_ones 42 = .ok (.iinc 2 1, 3) := by decide +kernel
theorem dX7_ones_45 : decode cX7_ones 45 = .ok (.goto (-41), 3) := by decide +kernel
theorem dX7_ones_48 : decode cX7_ones 48 = .ok (.iload_n 1, 1) := by decide +kernel
theorem dX7_ones_49 : decode cX7_ones 49 = .ok (.ireturn, 1) := by decide +kernel
theorem dX7_count_0 : decode cX7_count 0 = .ok (.aload_n 0, 1) := by decide +kernel
theorem dX7_count_1 : decode cX7_count 1 = .ok (.iconst 0, 1) := by decide +kernel
theorem dX7_count_2 : decode cX7_count 2 = .ok (.aload_n 0, 1) := by decide +kernel
theorem dX7_count_3 : decode cX7_count 3 = .ok (.getfield 7, 3) := by decide +kernel
theorem dX7_count_6 : decode cX7_count 6 = .ok (.iconst 0, 1) := by decide +kernel
theorem dX7_count_7 : decode cX7_count 7 = .ok (.iaload, 1) := by decide +kernel
theorem dX7_count_8 : decode cX7_count 8 = .ok (.invokevirtual 76, 3) := by decide +kernel
theorem dX7_count_11 : decode cX7_count 11 = .ok (.iload_n 1, 1) := by decide +kernel
theorem dX7_count_12 : decode cX7_count 12 = .ok (.tableswitch 72 0 5 #[40, 47, 52, 57, 62, 67], 40) := by decide +kernel
theorem dX7_count_52 : decode cX7_count 52 = .ok (.aload_n 0, 1) := by decide +kernel
theorem dX7_count_53 : decode cX7_count 53 = .ok (.getfield 7, 3) := by decide +kernel
theorem dX7_count_56 : decode cX7_count 56 = .ok (.iconst 0, 1) := by decide +kernel
theorem dX7_count_57 : decode cX7_count 57 = .ok (.iaload, 1) := by decide +kernel
theorem dX7_count_58 : decode cX7_count 58 = .ok (.ireturn, 1) := by decide +kernel
theorem dX7_count_59 : decode cX7_count 59 = .ok (.aload_n 0, 1) := by decide +kernel
theorem dX7_count_60 : decode cX7_count 60 = .ok (.invokevirtual 95, 3) := by decide +kernel
theorem dX7_count_63 : decode cX7_count 63 = .ok (.ireturn, 1) := by decide +kernel
theorem dX7_count_64 : decode cX7_count 64 = .ok (.aload_n 0, 1) := by decide +kernel
theorem dX7_count_65 : decode cX7_count 65 = .ok (.invokevirtual 111, 3) := by decide +kernel
theorem dX7_count_68 : decode cX7_count 68 = .ok (.ireturn, 1) := by decide +kernel
theorem dX7_count_69 : decode cX7_count 69 = .ok (.aload_n 0, 1) := by decide +kernel
theorem dX7_count_70 : decode cX7_count 70 = .ok (.invokevirtual 87, 3) := by decide +kernel
theorem dX7_count_73 : decode cX7_count 73 = .ok (.ireturn, 1) := by decide +kernel
theorem dX7_count_74 : decode cX7_count 74 = .ok (.aload_n 0, 1) := by decide +kernel
theorem dX7_count_75 : decode cX7_count 75 = .ok (.getfield 43, 3) := by decide +kernel
theorem dX7_count_78 : decode cX7_count 78 = .ok (.ireturn, 1) := by decide +kernel
theorem dX7_count_79 : decode cX7_count 79 = .ok (.aload_n 0, 1) := by decide +kernel
theorem dX7_count_80 : decode cX7_count 80 = .ok (.getfield 114, 3) := by decide +kernel
theorem dX7_count_83 : decode cX7_count 83 = .ok (.ireturn, 1) := by decide +kernel
theorem dX7_count_84 : decode cX7_count 84 = .ok (.ldc 42, 2) := by decide +kernel
theorem dX7_count_86 : decode cX7_count 86 = .ok (.ireturn, 1) := by decide +kernel
theorem dX7_undo_0 : decode cX7_undo 0 = .ok (.aload_n 0, 1) := by decide +kernel
theorem dX7_undo_1 : decode cX7_undo 1 = .ok (.getfield 43, 3) := by decide +kernel
theorem dX7_undo_4 : decode cX7_undo 4 = .ok (.ifCond .ne 6, 3) := by decide +kernel
theorem dX7_undo_7 : decode cX7_undo 7 = .ok (.ldc 117, 2) := by decide +kernel
theorem dX7_undo_9 : decode cX7_undo 9 = .ok (.ireturn, 1) := by decide +kernel
theorem dX7_undo_10 : decode cX7_undo 10 = .ok (.aload_n 0, 1) := by decide +kernel
theorem dX7_undo_11 : decode cX7_undo 11 = .ok (.dup, 1) := by decide +kernel
theorem dX7_undo_12 : decode cX7_undo 12 = .ok (.getfield 43, 3) := by decide +kernel
theorem dX7_undo_15 : decode cX7_undo 15 = .ok (.iconst 1, 1) := by decide +kernel
theorem dX7_undo_16 : decode cX7_undo 16 = .ok (.isub, 1) := by decide +kernel
theorem dX7_undo_17 : decode cX7_undo 17 = .ok (.putfield 43, 3) := by decide +kernel
theorem dX7_undo_20 : decode cX7_undo 20 = .ok (.iconst 0, 1) := by decide +kernel
theorem dX7_undo_21 : decode cX7_undo 21 = .ok (.istore_n 1, 1) := by decide +kernel
theorem dX7_undo_22 : decode cX7_undo 22 = .ok (.iload_n 1, 1) := by decide +kernel
theorem dX7_undo_23 : decode cX7_undo 23 = .ok (.bipush 61, 2) := by decide +kernel
theorem dX7_undo_25 : decode cX7_undo 25 = .ok (.if_icmp .ge 29, 3) := by decide +kernel
theorem dX7_undo_28 : decode cX7_undo 28 = .ok (.aload_n 0, 1) := by decide +kernel
theorem dX7_undo_29 : decode cX7_undo 29 = .ok (.getfield 7, 3) := by decide +kernel
theorem dX7_undo_32 : decode cX7_undo 32 = .ok (.iload_n 1, 1) := by decide +kernel
theorem dX7_undo_33 : decode cX7_undo 33 = .ok (.aload_n 0, 1) := by decide +kernel
theorem dX7_undo_34 : decode cX7_undo 34 = .ok (.getfield 13, 3) := by decide +kernel
theorem dX7_undo_37 : decode cX7_undo 37 = .ok (.bipush 61, 2) := by decide +kernel
theorem dX7_undo_39 : decode cX7_undo 39 = .ok (.aload_n 0, 1) := by decide +kernel
theorem dX7_undo_40 : decode cX7_undo 40 = .ok (.getfield 43, 3) := by decide +kernel
theorem dX7_undo_43 : decode cX7_undo 43 = .ok (.imul, 1) := by decide +kernel
theorem dX7_undo_44 : decode cX7_undo 44 = .ok (.iload_n 1, 1) := by decide +kernel
theorem dX7_undo_45 : decode cX7_undo 45 = .ok (.iadd, 1) := by decide +kernel
theorem dX7_undo_46 : decode cX7_undo 46 = .ok (.iaload, 1) := by decide +kernel
theorem dX7_undo_47 : decode cX7_undo 47 = .ok (.iastore, 1) := by decide +kernel
theorem dX7_undo_48 : decode cX7_undo 48 = .ok (.iinc 1 1, 3) := by decide +kernel
theorem dX7_undo_51 : decode cX7_undo 51 = .ok (.goto (-29), 3) := by decide +kernel
theorem dX7_undo_54 : decode cX7_undo 54 = .ok (.aload_n 0, 1) := by decide +kernel
theorem dX7_undo_55 : decode cX7_undo 55 = .ok (.getfield 43, 3) := by decide +kernel
theorem dX7_undo_58 : decode cX7_undo 58 = .ok (.ireturn, 1) := by decide +kernel
theorem dX7_type_0 : decode cX7_type 0 = .ok (.iload_n 1, 1) := by decide +kernel
theorem dX7_type_1 : decode cX7_type 1 = .ok (.bipush 32, 2) := by decide +kernel
theorem dX7_type_3 : decode cX7_type 3 = .ok (.bipush 126, 2) := by decide +kernel
theorem dX7_type_5 : decode cX7_type 5 = .ok (.invokestatic 38, 3) := by decide +kernel
theorem dX7_type_8 : decode cX7_type 8 = .ok (.ifCond .ne 6, 3) := by decide +kernel
theorem dX7_type_11 : decode cX7_type 11 = .ok (.ldc 42, 2) := by decide +kernel
theorem dX7_type_13 : decode cX7_type 13 = .ok (.ireturn, 1) := by decide +kernel
theorem dX7_type_14 : decode cX7_type 14 = .ok (.aload_n 0, 1) := by decide +kernel
theorem dX7_type_15 : decode cX7_type 15 = .ok (.getfield 114, 3) := by decide +kernel
theorem dX7_type_18 : decode cX7_type 18 = .ok (.bipush 60, 2) := by decide +kernel
theorem dX7_type_20 : decode cX7_type 20 = .ok (.if_icmp .ne 6, 3) := by decide +kernel
theorem dX7_type_23 : decode cX7_type 23 = .ok (.ldc 47, 2) := by decide +kernel
theorem dX7_type_25 : decode cX7_type 25 = .ok (.ireturn, 1) := by decide +kernel
theorem dX7_type_26 : decode cX7_type 26 = .ok (.aload_n 0, 1) := by decide +kernel
theorem dX7_type_27 : decode cX7_type 27 = .ok (.getfield 22, 3) := by decide +kernel
theorem dX7_type_30 : decode cX7_type 30 = .ok (.aload_n 0, 1) := by decide +kernel
theorem dX7_type_31 : decode cX7_type 31 = .ok (.getfield 114, 3) := by decide +kernel
theorem dX7_type_34 : decode cX7_type 34 = .ok (.iload_n 1, 1) := by decide +kernel
theorem dX7_type_35 : decode cX7_type 35 = .ok (.i2c, 1) := by decide +kernel
theorem dX7_type_36 : decode cX7_type 36 = .ok (.castore, 1) := by decide +kernel
theorem dX7_type_37 : decode cX7_type 37 = .ok (.aload_n 0, 1) := by decide +kernel
theorem dX7_type_38 : decode cX7_type 38 = .ok (.dup, 1) := by decide +kernel
theorem dX7_type_39 : decode cX7_type 39 = .ok (.getfield 114, 3) := by decide +kernel
theorem dX7_type_42 : decode cX7_type 42 = .ok (.iconst 1, 1) := by decide +kernel
theorem dX7_type_43 : decode cX7_type 43 = .ok (.iadd, 1) := by decide +kernel
theorem dX7_type_44 : decode cX7_type 44 = .ok (.putfield 114, 3) := by decide +kernel
theorem dX7_type_47 : decode cX7_type 47 = .ok (.aload_n 0, 1) := by decide +kernel
theorem dX7_type_48 : decode cX7_type 48 = .ok (.getfield 114, 3) := by decide +kernel
theorem dX7_type_51 : decode cX7_type 51 = .ok (.ireturn, 1) := by decide +kernel
theorem dX7_clearText_0 : decode cX7_clearText 0 = .ok (.aload_n 0, 1) := by decide +kernel
theorem dX7_clearText_1 : decode cX7_clearText 1 = .ok (.getfield 114, 3) := by decide +kernel
theorem dX7_clearText_4 : decode cX7_clearText 4 = .ok (.istore_n 1, 1) := by decide +kernel
theorem dX7_clearText_5 : decode cX7_clearText 5 = .ok (.aload_n 0, 1) := by decide +kernel
theorem dX7_clearText_6 : decode cX7_clearText 6 = .ok (.iconst 0, 1) := by decide +kernel
theorem dX7_clearText_7 : decode cX7_clearText 7 = .ok (.putfield 114, 3) := by decide +kernel
theorem dX7_clearText_10 : decode cX7_clearText 10 = .ok (.iload_n 1, 1) := by decide +kernel
theorem dX7_clearText_11 : decode cX7_clearText 11 = .ok (.ireturn, 1) := by decide +kernel
theorem dX7_sign_0 : decode cX7_sign 0 = .ok (.aload_n 0, 1) := by decide +kernel
theorem dX7_sign_1 : decode cX7_sign 1 = .ok (.getfield 118, 3) := by decide +kernel
theorem dX7_sign_4 : decode cX7_sign 4 = .ok (.aload_n 0, 1) := by decide +kernel
theorem dX7_sign_5 : decode cX7_sign 5 = .ok (.getfield 114, 3) := by decide +kernel
theorem dX7_sign_8 : decode cX7_sign 8 = .ok (.if_icmp .ge 15, 3) := by decide +kernel
theorem dX7_sign_11 : decode cX7_sign 11 = .ok (.aload_n 0, 1) := by decide +kernel
theorem dX7_sign_12 : decode cX7_sign 12 = .ok (.getfield 22, 3) := by decide +kernel
theorem dX7_sign_15 : decode cX7_sign 15 = .ok (.aload_n 0, 1) := by decide +kernel
theorem dX7_sign_16 : decode cX7_sign 16 = .ok (.getfield 118, 3) := by decide +kernel
theorem dX7_sign_19 : decode cX7_sign 19 = .ok (.caload, 1) := by decide +kernel
theorem dX7_sign_20 : decode cX7_sign 20 = .ok (.goto 4, 3) := by decide +kernel
theorem dX7_sign_23 : decode cX7_sign 23 = .ok (.iconst (-1), 1) := by decide +kernel
theorem dX7_sign_24 : decode cX7_sign 24 = .ok (.ireturn, 1) := by decide +kernel
theorem dX7_reads_0 : decode cX7_reads 0 = .ok (.aload_n 0, 1) := by decide +kernel
theorem dX7_reads_1 : decode cX7_reads 1 = .ok (.invokevirtual 121, 3) := by decide +kernel
theorem dX7_reads_4 : decode cX7_reads 4 = .ok (.iload_n 1, 1) := by decide +kernel
theorem dX7_reads_5 : decode cX7_reads 5 = .ok (.if_icmp .ne 7, 3) := by decide +kernel
theorem dX7_reads_8 : decode cX7_reads 8 = .ok (.iconst 1, 1) := by decide +kernel
theorem dX7_reads_9 : decode cX7_reads 9 = .ok (.goto 4, 3) := by decide +kernel
theorem dX7_reads_12 : decode cX7_reads 12 = .ok (.iconst 0, 1) := by decide +kernel
theorem dX7_reads_13 : decode cX7_reads 13 = .ok (.istore_n 2, 1) := by decide +kernel
theorem dX7_reads_14 : decode cX7_reads 14 = .ok (.aload_n 0, 1) := by decide +kernel
theorem dX7_reads_15 : decode cX7_reads 15 = .ok (.dup, 1) := by decide +kernel
theorem dX7_reads_16 : decode cX7_reads 16 = .ok (.getfield 118, 3) := by decide +kernel
theorem dX7_reads_19 : decode cX7_reads 19 = .ok (.iload_n 2, 1) := by decide +kernel
theorem dX7_reads_20 : decode cX7_reads 20 = .ok (.ifCond .eq 7, 3) := by decide +kernel
theorem dX7_reads_23 : decode cX7_reads 23 = .ok (.iconst 1, 1) := by decide +kernel
theorem dX7_reads_24 : decode cX7_reads 24 = .ok (.goto 4, 3) := by decide +kernel
theorem dX7_reads_27 : decode cX7_reads 27 = .ok (.iconst 0, 1) := by decide +kernel
theorem dX7_reads_28 : decode cX7_reads 28 = .ok (.iadd, 1) := by decide +kernel
theorem dX7_reads_29 : decode cX7_reads 29 = .ok (.putfield 118, 3) := by decide +kernel
theorem dX7_reads_32 : decode cX7_reads 32 = .ok (.iload_n 2, 1) := by decide +kernel
theorem dX7_reads_33 : decode cX7_reads 33 = .ok (.ireturn, 1) := by decide +kernel
theorem dX7_readsNumber_0 : decode cX7_readsNumber 0 = .ok (.aload_n 0, 1) := by decide +kernel
theorem dX7_readsNumber_1 : decode cX7_readsNumber 1 = .ok (.getfield 118, 3) := by decide +kernel
theorem dX7_readsNumber_4 : decode cX7_readsNumber 4 = .ok (.istore_n 1, 1) := by decide +kernel
theorem dX7_readsNumber_5 : decode cX7_readsNumber 5 = .ok (.aload_n 0, 1) := by decide +kernel
theorem dX7_readsNumber_6 : decode cX7_readsNumber 6 = .ok (.iconst 0, 1) := by decide +kernel
theorem dX7_readsNumber_7 : decode cX7_readsNumber 7 = .ok (.putfield 124, 3) := by decide +kernel
theorem dX7_readsNumber_10 : decode cX7_readsNumber 10 = .ok (.aload_n 0, 1) := by decide +kernel
theorem dX7_readsNumber_11 : decode cX7_readsNumber 11 = .ok (.invokevirtual 121, 3) := by decide +kernel
theorem dX7_readsNumber_14 : decode cX7_readsNumber 14 = .ok (.bipush 48, 2) := by decide +kernel
theorem dX7_readsNumber_16 : decode cX7_readsNumber 16 = .ok (.bipush 57, 2) := by decide +kernel
theorem dX7_readsNumber_18 : decode cX7_readsNumber 18 = .ok (.invokestatic 38, 3) := by decide +kernel
theorem dX7_readsNumber_21 : decode cX7_readsNumber 21 = .ok (.ifCond .eq 45, 3) := by decide +kernel
theorem dX7_readsNumber_24 : decode cX7_readsNumber 24 = .ok (.aload_n 0, 1) := by decide +kernel
theorem dX7_readsNumber_25 : decode cX7_readsNumber 25 = .ok (.getfield 118, 3) := by decide +kernel
theorem dX7_readsNumber_28 : decode cX7_readsNumber 28 = .ok (.iload_n 1, 1) := by decide +kernel
theorem dX7_readsNumber_29 : decode cX7_readsNumber 29 = .ok (.iconst 2, 1) := by decide +kernel
theorem dX7_readsNumber_30 : decode cX7_readsNumber 30 = .ok (.iadd, 1) := by decide +kernel
theorem dX7_readsNumber_31 : decode cX7_readsNumber 31 = .ok (.if_icmp .ge 35, 3) := by decide +kernel
theorem dX7_readsNumber_34 : decode cX7_readsNumber 34 = .ok (.aload_n 0, 1) := by decide +kernel
theorem dX7_readsNumber_35 : decode cX7_readsNumber 35 = .ok (.bipush 10, 2) := by decide +kernel
theorem dX7_readsNumber_37 : decode cX7_readsNumber 37 = .ok (.aload_n 0, 1) := by decide +kernel
theorem dX7_readsNumber_38 : decode cX7_readsNumber 38 = .ok (.getfield 124, 3) := by decide +kernel
theorem dX7_readsNumber_41 : decode cX7_readsNumber 41 = .ok (.imul, 1) := by decide +kernel
theorem dX7_readsNumber_42 : decode cX7_readsNumber 42 = .ok (.aload_n 0, 1) := by decide +kernel
theorem dX7_readsNumber_43 : decode cX7_readsNumber 43 = .ok (.invokevirtual 121, 3) := by decide +kernel
theorem dX7_readsNumber_46 : decode cX7_readsNumber 46 = .ok (.iadd, 1) := by decide +kernel
theorem dX7_readsNumber_47 : decode cX7_readsNumber 47 = .ok (.bipush 48, 2) := by decide +kernel
theorem dX7_readsNumber_49 : decode cX7_readsNumber 49 = .ok (.isub, 1) := by decide +kernel
theorem dX7_readsNumber_50 : decode cX7_readsNumber 50 = .ok (.putfield 124, 3) := by decide +kernel
theorem dX7_readsNumber_53 : decode cX7_readsNumber 53 = .ok (.aload_n 0, 1) := by decide +kernel
theorem dX7_readsNumber_54 : decode cX7_readsNumber 54 = .ok (.dup, 1) := by decide +kernel
theorem dX7_readsNumber_55 : decode cX7_readsNumber 55 = .ok (.getfield 118, 3) := by decide +kernel
theorem dX7_readsNumber_58 : decode cX7_readsNumber 58 = .ok (.iconst 1, 1) := by decide +kernel
theorem dX7_readsNumber_59 : decode cX7_readsNumber 59 = .ok (.iadd, 1) := by decide +kernel
theorem dX7_readsNumber_60 : decode cX7_readsNumber 60 = .ok (.putfield 118, 3) := by decide +kernel
theorem dX7_readsNumber_63 : decode cX7_readsNumber 63 = .ok (.goto (-53), 3) := by decide +kernel
theorem dX7_readsNumber_66 : decode cX7_readsNumber 66 = .ok (.aload_n 0, 1) := by decide +kernel
theorem dX7_readsNumber_67 : decode cX7_readsNumber 67 = .ok (.getfield 118, 3) := by decide +kernel
theorem dX7_readsNumber_70 : decode cX7_readsNumber 70 = .ok (.iload_n 1, 1) := by decide +kernel
theorem dX7_readsNumber_71 : decode cX7_readsNumber 71 = .ok (.if_icmp .le 7, 3) := by decide +kernel
theorem dX7_readsNumber_74 : decode cX7_readsNumber 74 = .ok (.iconst 1, 1) := by decide +kernel
theorem dX7_readsNumber_75 : decode cX7_readsNumber 75 = .ok (.goto 4, 3) := by decide +kernel
theorem dX7_readsNumber_78 : decode cX7_readsNumber 78 = .ok (.iconst 0, 1) := by decide +kernel
theorem dX7_readsNumber_79 : decode cX7_readsNumber 79 = .ok (.ireturn, 1) := by decide +kernel
theorem dX7_symbol_0 : decode cX7_symbol 0 = .ok (.aload_n 0, 1) := by decide +kernel
theorem dX7_symbol_1 : decode cX7_symbol 1 = .ok (.invokevirtual 121, 3) := by decide +kernel
theorem dX7_symbol_4 : decode cX7_symbol 4 = .ok (.istore_n 1, 1) := by decide +kernel
theorem dX7_symbol_5 : decode cX7_symbol 5 = .ok (.iload_n 1, 1) := by decide +kernel
theorem dX7_symbol_6 : decode cX7_symbol 6 = .ok (.bipush 48, 2) := by decide +kernel
theorem dX7_symbol_8 : decode cX7_symbol 8 = .ok (.bipush 57, 2) := by decide +kernel
theorem dX7_symbol_10 : decode cX7_symbol 10 = .ok (.invokestatic 38, 3) := by decide +kernel
theorem dX7_symbol_13 : decode cX7_symbol 13 = .ok (.ifCond .eq 10, 3) := by decide +kernel
theorem dX7_symbol_16 : decode cX7_symbol 16 = .ok (.iload_n 1, 1) := by decide +kernel
theorem dX7_symbol_17 : decode cX7_symbol 17 = .ok (.bipush 48, 2) := by decide +kernel
theorem dX7_symbol_19 : decode cX7_symbol 19 = .ok (.isub, 1) := by decide +kernel
theorem dX7_symbol_20 : decode cX7_symbol 20 = .ok (.goto 25, 3) := by decide +kernel
theorem dX7_symbol_23 : decode cX7_symbol 23 = .ok (.iload_n 1, 1) := by decide +kernel
theorem dX7_symbol_24 : decode cX7_symbol 24 = .ok (.bipush 97, 2) := by decide +kernel
theorem dX7_symbol_26 : decode cX7_symbol 26 = .ok (.bipush 102, 2) := by decide +kernel
theorem dX7_symbol_28 : decode cX7_symbol 28 = .ok (.invokestatic 38, 3) := by decide +kernel
theorem dX7_symbol_31 : decode cX7_symbol 31 = .ok (.ifCond .eq 13, 3) := by decide +kernel
theorem dX7_symbol_34 : decode cX7_symbol 34 = .ok (.iload_n 1, 1) := by decide +kernel
theorem dX7_symbol_35 : decode cX7_symbol 35 = .ok (.bipush 97, 2) := by decide +kernel
theorem dX7_symbol_37 : decode cX7_symbol 37 = .ok (.isub, 1) := by decide +kernel
theorem dX7_symbol_38 : decode cX7_symbol 38 = .ok (.bipush 10, 2) := by decide +kernel
theorem dX7_symbol_40 : decode cX7_symbol 40 = .ok (.iadd, 1) := by decide +kernel
theorem dX7_symbol_41 : decode cX7_symbol 41 = .ok (.goto 4, 3) := by decide +kernel
theorem dX7_symbol_44 : decode cX7_symbol 44 = .ok (.iconst (-1), 1) := by decide +kernel
theorem dX7_symbol_45 : decode cX7_symbol 45 = .ok (.ireturn, 1) := by decide +kernel
theorem dX7_readsSymbols_0 : decode cX7_readsSymbols 0 = .ok (.aload_n 0, 1) := by decide +kernel
theorem dX7_readsSymbols_1 : decode cX7_readsSymbols 1 = .ok (.getfield 118, 3) := by decide +kernel
theorem dX7_readsSymbols_4 : decode cX7_readsSymbols 4 = .ok (.istore_n 1, 1) := by decide +kernel
theorem dX7_readsSymbols_5 : decode cX7_readsSymbols 5 = .ok (.aload_n 0, 1) := by decide +kernel
theorem dX7_readsSymbols_6 : decode cX7_readsSymbols 6 = .ok (.invokevirtual 127, 3) := by decide +kernel
theorem dX7_readsSymbols_9 : decode cX7_readsSymbols 9 = .ok (.ifCond .lt 16, 3) := by decide +kernel
theorem dX7_readsSymbols_12 : decode cX7_readsSymbols 12 = .ok (.aload_n 0, 1) := by decide +kernel
theorem dX7_readsSymbols_13 : decode cX7_readsSymbols 13 = .ok (.dup, 1) := by decide +kernel
theorem dX7_readsSymbols_14 : decode cX7_readsSymbols 14 = .ok (.getfield 118, 3) := by decide +kernel
theorem dX7_readsSymbols_17 : decode cX7_readsSymbols 17 = .ok (.iconst 1, 1) := by decide +kernel
theorem dX7_readsSymbols_18 : decode cX7_readsSymbols 18 = .ok (.iadd, 1) := by decide +kernel
theorem dX7_readsSymbols_19 : decode cX7_readsSymbols 19 = .ok (.putfield 118, 3) := by decide +kernel
theorem dX7_readsSymbols_22 : decode cX7_readsSymbols 22 = .ok (.goto (-17), 3) := by decide +kernel
theorem dX7_readsSymbols_25 : decode cX7_readsSymbols 25 = .ok (.aload_n 0, 1) := by decide +kernel
theorem dX7_readsSymbols_26 : decode cX7_readsSymbols 26 = .ok (.getfield 118, 3) := by decide +kernel
theorem dX7_readsSymbols_29 : decode cX7_readsSymbols 29 = .ok (.iload_n 1, 1) := by decide +kernel
theorem dX7_readsSymbols_30 : decode cX7_readsSymbols 30 = .ok (.if_icmp .le 16, 3) := by decide +kernel
theorem dX7_readsSymbols_33 : decode cX7_readsSymbols 33 = .ok (.aload_n 0, 1) := by decide +kernel
theorem dX7_readsSymbols_34 : decode cX7_readsSymbols 34 = .ok (.bipush 59, 2) := by decide +kernel
theorem dX7_readsSymbols_36 : decode cX7_readsSymbols 36 = .ok (.invokevirtual 130, 3) := by decide +kernel
theorem dX7_readsSymbols_39 : decode cX7_readsSymbols 39 = .ok (.ifCond .eq 7, 3) := by decide +kernel
theorem dX7_readsSymbols_42 : decode cX7_readsSymbols 42 = .ok (.iconst 1, 1) := by decide +kernel
theorem dX7_readsSymbols_43 : decode cX7_readsSymbols 43 = .ok (.goto 4, 3) := by decide +kernel
theorem dX7_readsSymbols_46 : decode cX7_readsSymbols 46 = .ok (.iconst 0, 1) := by decide +kernel
theorem dX7_readsSymbols_47 : decode cX7_readsSymbols 47 = .ok (.ireturn, 1) := by decide +kernel
theorem dX7_putsAll_0 : decode cX7_putsAll 0 = .ok (.iload_n 1, 1) := by decide +kernel
theorem dX7_putsAll_1 : decode cX7_putsAll 1 = .ok (.aload_n 0, 1) := by decide +kernel
theorem dX7_putsAll_2 : decode cX7_putsAll 2 = .ok (.getfield 7, 3) := by decide +kernel
theorem dX7_putsAll_5 : decode cX7_putsAll 5 = .ok (.iconst 0, 1) := by decide +kernel
theorem dX7_putsAll_6 : decode cX7_putsAll 6 = .ok (.iaload, 1) := by decide +kernel
theorem dX7_putsAll_7 : decode cX7_putsAll 7 = .ok (.if_icmp .le 5, 3) := by decide +kernel
theorem dX7_putsAll_10 : decode cX7_putsAll 10 = .ok (.iconst 2, 1) := by decide +kernel
theorem dX7_putsAll_11 : decode cX7_putsAll 11 = .ok (.ireturn, 1) := by decide +kernel
theorem dX7_putsAll_12 : decode cX7_putsAll 12 = .ok (.aload_n 0, 1) := by decide +kernel
theorem dX7_putsAll_13 : decode cX7_putsAll 13 = .ok (.getfield 7, 3) := by decide +kernel
theorem dX7_putsAll_16 : decode cX7_putsAll 16 = .ok (.iconst 0, 1) := by decide +kernel
theorem dX7_putsAll_17 : decode cX7_putsAll 17 = .ok (.iaload, 1) := by decide +kernel
theorem dX7_putsAll_18 : decode cX7_putsAll 18 = .ok (.iload_n 3, 1) := by decide +kernel
theorem dX7_putsAll_19 : decode cX7_putsAll 19 = .ok (.iadd, 1) := by decide +kernel
theorem dX7_putsAll_20 : decode cX7_putsAll 20 = .ok (.iload_n 2, 1) := by decide +kernel
theorem dX7_putsAll_21 : decode cX7_putsAll 21 = .ok (.isub, 1) := by decide +kernel
theorem dX7_putsAll_22 : decode cX7_putsAll 22 = .ok (.bipush 60, 2) := by decide +kernel
theorem dX7_putsAll_24 : decode cX7_putsAll 24 = .ok (.if_icmp .le 5, 3) := by decide +kernel
theorem dX7_putsAll_27 : decode cX7_putsAll 27 = .ok (.iconst 3, 1) := by decide +kernel
theorem dX7_putsAll_28 : decode cX7_putsAll 28 = .ok (.ireturn, 1) := by decide +kernel
theorem dX7_putsAll_29 : decode cX7_putsAll 29 = .ok (.aload_n 0, 1) := by decide +kernel
theorem dX7_putsAll_30 : decode cX7_putsAll 30 = .ok (.getfield 118, 3) := by decide +kernel
theorem dX7_putsAll_33 : decode cX7_putsAll 33 = .ok (.istore 4, 2) := by decide +kernel
theorem dX7_putsAll_35 : decode cX7_putsAll 35 = .ok (.iload_n 2, 1) := by decide +kernel
theorem dX7_putsAll_36 : decode cX7_putsAll 36 = .ok (.istore 5, 2) := by decide +kernel
theorem dX7_putsAll_38 : decode cX7_putsAll 38 = .ok (.iload 5, 2) := by decide +kernel
theorem dX7_putsAll_40 : decode cX7_putsAll 40 = .ok (.iload_n 3, 1) := by decide +kernel
theorem dX7_putsAll_41 : decode cX7_putsAll 41 = .ok (.if_icmp .ge 30, 3) := by decide +kernel
theorem dX7_putsAll_44 : decode cX7_putsAll 44 = .ok (.aload_n 0, 1) := by decide +kernel
theorem dX7_putsAll_45 : decode cX7_putsAll 45 = .ok (.iload 5, 2) := by decide +kernel
theorem dX7_putsAll_47 : decode cX7_putsAll 47 = .ok (.putfield 118, 3) := by decide +kernel
theorem dX7_putsAll_50 : decode cX7_putsAll 50 = .ok (.aload_n 0, 1) := by decide +kernel
theorem dX7_putsAll_51 : decode cX7_putsAll 51 = .ok (.iload_n 1, 1) := by decide +kernel
theorem dX7_putsAll_52 : decode cX7_putsAll 52 = .ok (.iload 5, 2) := by decide +kernel
theorem dX7_putsAll_54 : decode cX7_putsAll 54 = .ok (.iadd, 1) := by decide +kernel
theorem dX7_putsAll_55 : decode cX7_putsAll 55 = .ok (.iload_n 2, 1) := by decide +kernel
theorem dX7_putsAll_56 : decode cX7_putsAll 56 = .ok (.isub, 1) := by decide +kernel
theorem dX7_putsAll_57 : decode cX7_putsAll 57 = .ok (.aload_n 0, 1) := by decide +kernel
theorem dX7_putsAll_58 : decode cX7_putsAll 58 = .ok (.invokevirtual 127, 3) := by decide +kernel
theorem dX7_putsAll_61 : decode cX7_putsAll 61 = .ok (.invokevirtual 51, 3) := by decide +kernel
theorem dX7_putsAll_64 : decode cX7_putsAll 64 = .ok (.pop, 1) := by decide +kernel
theorem dX7_putsAll_65 : decode cX7_putsAll 65 = .ok (.iinc 5 1, 3) := by decide +kernel
theorem dX7_putsAll_68 : decode cX7_putsAll 68 = .ok (.goto (-30), 3) := by decide +kernel
theorem dX7_putsAll_71 : decode cX7_putsAll 71 = .ok (.aload_n 0, 1) := by decide +kernel
theorem dX7_putsAll_72 : decode cX7_putsAll 72 = .ok (.iload 4, 2) := by decide +kernel
theorem dX7_putsAll_74 : decode cX7_putsAll 74 = .ok (.putfield 118, 3) := by decide +kernel
theorem dX7_putsAll_77 : decode cX7_putsAll 77 = .ok (.iconst 0, 1) := by decide +kernel
theorem dX7_putsAll_78 : decode cX7_putsAll 78 = .ok (.ireturn, 1) := by decide +kernel
theorem dX7_takesAll_0 : decode cX7_takesAll 0 = .ok (.iload_n 1, 1) := by decide +kernel
theorem dX7_takesAll_1 : decode cX7_takesAll 1 = .ok (.iload_n 2, 1) := by decide +kernel
theorem dX7_takesAll_2 : decode cX7_takesAll 2 = .ok (.iadd, 1) := by decide +kernel
theorem dX7_takesAll_3 : decode cX7_takesAll 3 = .ok (.aload_n 0, 1) := by decide +kernel
theorem dX7_takesAll_4 : decode cX7_takesAll 4 = .ok (.getfield 7, 3) := by decide +kernel
theorem dX7_takesAll_7 : decode cX7_takesAll 7 = .ok (.iconst 0, 1) := by decide +kernel
theorem dX7_takesAll_8 : decode cX7_takesAll 8 = .ok (.iaload, 1) := by decide +kernel
theorem dX7_takesAll_9 : decode cX7_takesAll 9 = .ok (.if_icmp .le 5, 3) := by decide +kernel
theorem dX7_takesAll_12 : decode cX7_takesAll 12 = .ok (.iconst 2, 1) := by decide +kernel
theorem dX7_takesAll_13 : decode cX7_takesAll 13 = .ok (.ireturn, 1) := by decide +kernel
theorem dX7_takesAll_14 : decode cX7_takesAll 14 = .ok (.iconst 0, 1) := by decide +kernel
theorem dX7_takesAll_15 : decode cX7_takesAll 15 = .ok (.istore_n 3, 1) := by decide +kernel
theorem dX7_takesAll_16 : decode cX7_takesAll 16 = .ok (.iload_n 3, 1) := by decide +kernel
theorem dX7_takesAll_17 : decode cX7_takesAll 17 = .ok (.iload_n 2, 1) := by decide +kernel
theorem dX7_takesAll_18 : decode cX7_takesAll 18 = .ok (.if_icmp .ge 15, 3) := by decide +kernel
theorem dX7_takesAll_21 : decode cX7_takesAll 21 = .ok (.aload_n 0, 1) := by decide +kernel
theorem dX7_takesAll_22 : decode cX7_takesAll 22 = .ok (.iload_n 1, 1) := by decide +kernel
theorem dX7_takesAll_23 : decode cX7_takesAll 23 = .ok (.invokevirtual 63, 3) := by decide +kernel
theorem dX7_takesAll_26 : decode cX7_takesAll 26 = .ok (.pop, 1) := by decide +kernel
theorem dX7_takesAll_27 : decode cX7_takesAll 27 = .ok (.iinc 3 1, 3) := by decide +kernel
theorem dX7_takesAll_30 : decode cX7_takesAll 30 = .ok (.goto (-14), 3) := by decide +kernel
theorem dX7_takesAll_33 : decode cX7_takesAll 33 = .ok (.iconst 0, 1) := by decide +kernel
theorem dX7_takesAll_34 : decode cX7_takesAll 34 = .ok (.ireturn, 1) := by decide +kernel
theorem dX7_doesNext_0 : decode cX7_doesNext 0 = .ok (.aload_n 0, 1) := by decide +kernel
theorem dX7_doesNext_1 : decode cX7_doesNext 1 = .ok (.getfield 118, 3) := by decide +kernel
theorem dX7_doesNext_4 : decode cX7_doesNext 4 = .ok (.istore_n 1, 1) := by decide +kernel
theorem dX7_doesNext_5 : decode cX7_doesNext 5 = .ok (.aload_n 0, 1) := by decide +kernel
theorem dX7_doesNext_6 : decode cX7_doesNext 6 = .ok (.invokevirtual 121, 3) := by decide +kernel
theorem dX7_doesNext_9 : decode cX7_doesNext 9 = .ok (.istore_n 2, 1) := by decide +kernel
theorem dX7_doesNext_10 : decode cX7_doesNext 10 = .ok (.aload_n 0, 1) := by decide +kernel
theorem dX7_doesNext_11 : decode cX7_doesNext 11 = .ok (.ldc 83, 2) := by decide +kernel
theorem dX7_doesNext_13 : decode cX7_doesNext 13 = .ok (.putfield 134, 3) := by decide +kernel
theorem dX7_doesNext_16 : decode cX7_doesNext 16 = .ok (.iload_n 2, 1) := by decide +kernel
theorem dX7_doesNext_17 : decode cX7_doesNext 17 = .ok (.bipush 43, 2) := by decide +kernel
theorem dX7_doesNext_19 : decode cX7_doesNext 19 = .ok (.if_icmp .eq 21, 3) := by decide +kernel
theorem dX7_doesNext_22 : decode cX7_doesNext 22 = .ok (.iload_n 2, 1) := by decide +kernel
theorem dX7_doesNext_23 : decode cX7_doesNext 23 = .ok (.bipush 45, 2) := by decide +kernel
theorem dX7_doesNext_25 : decode cX7_doesNext 25 = .ok (.if_icmp .eq 15, 3) := by decide +kernel
theorem dX7_doesNext_28 : decode cX7_doesNext 28 = .ok (.iload_n 2, 1) := by decide +kernel
theorem dX7_doesNext_29 : decode cX7_doesNext 29 = .ok (.bipush 120, 2) := by decide +kernel
theorem dX7_doesNext_31 : decode cX7_doesNext 31 = .ok (.if_icmp .eq 9, 3) := by decide +kernel
theorem dX7_doesNext_34 : decode cX7_doesNext 34 = .ok (.iload_n 2, 1) := by decide +kernel
theorem dX7_doesNext_35 : decode cX7_doesNext 35 = .ok (.bipush 114, 2) := by decide +kernel
theorem dX7_doesNext_37 : decode cX7_doesNext 37 = .ok (.if_icmp .ne 7, 3) := by decide +kernel
theorem dX7_doesNext_40 : decode cX7_doesNext 40 = .ok (.iconst 1, 1) := by decide +kernel
theorem dX7_doesNext_41 : decode cX7_doesNext 41 = .ok (.goto 4, 3) := by decide +kernel
theorem dX7_doesNext_44 : decode cX7_doesNext 44 = .ok (.iconst 0, 1) := by decide +kernel
theorem dX7_doesNext_45 : decode cX7_doesNext 45 = .ok (.istore_n 3, 1) := by decide +kernel
theorem dX7_doesNext_46 : decode cX7_doesNext 46 = .ok (.aload_n 0, 1) := by decide +kernel
theorem dX7_doesNext_47 : decode cX7_doesNext 47 = .ok (.dup, 1) := by decide +kernel
theorem dX7_doesNext_48 : decode cX7_doesNext 48 = .ok (.getfield 118, 3) := by decide +kernel
theorem dX7_doesNext_51 : decode cX7_doesNext 51 = .ok (.iload_n 3, 1) := by decide +kernel
theorem dX7_doesNext_52 : decode cX7_doesNext 52 = .ok (.ifCond .eq 7, 3) := by decide +kernel
theorem dX7_doesNext_55 : decode cX7_doesNext 55 = .ok (.iconst 1, 1) := by decide +kernel
theorem dX7_doesNext_56 : decode cX7_doesNext 56 = .ok (.goto 4, 3) := by decide +kernel
theorem dX7_doesNext_59 : decode cX7_doesNext 59 = .ok (.iconst 0, 1) := by decide +kernel
theorem dX7_doesNext_60 : decode cX7_doesNext 60 = .ok (.iadd, 1) := by decide +kernel
theorem dX7_doesNext_61 : decode cX7_doesNext 61 = .ok (.putfield 118, 3) := by decide +kernel
theorem dX7_doesNext_64 : decode cX7_doesNext 64 = .ok (.iload_n 3, 1) := by decide +kernel
theorem dX7_doesNext_65 : decode cX7_doesNext 65 = .ok (.ifCond .eq 14, 3) := by decide +kernel
theorem dX7_doesNext_68 : decode cX7_doesNext 68 = .ok (.aload_n 0, 1) := by decide +kernel
theorem dX7_doesNext_69 : decode cX7_doesNext 69 = .ok (.invokevirtual 137, 3) := by decide +kernel
theorem dX7_doesNext_72 : decode cX7_doesNext 72 = .ok (.ifCond .eq 7, 3) := by decide +kernel
theorem dX7_doesNext_75 : decode cX7_doesNext 75 = .ok (.iconst 1, 1) := by decide +kernel
theorem dX7_doesNext_76 : decode cX7_doesNext 76 = .ok (.goto 4, 3) := by decide +kernel
theorem dX7_doesNext_79 : decode cX7_doesNext 79 = .ok (.iconst 0, 1) := by decide +kernel
theorem dX7_doesNext_80 : decode cX7_doesNext 80 = .ok (.istore_n 3, 1) := by decide +kernel
theorem dX7_doesNext_81 : decode cX7_doesNext 81 = .ok (.aload_n 0, 1) := by decide +kernel
theorem dX7_doesNext_82 : decode cX7_doesNext 82 = .ok (.getfield 124, 3) := by decide +kernel
theorem dX7_doesNext_85 : decode cX7_doesNext 85 = .ok (.istore 4, 2) := by decide +kernel
theorem dX7_doesNext_87 : decode cX7_doesNext 87 = .ok (.iload_n 3, 1) := by decide +kernel
theorem dX7_doesNext_88 : decode cX7_doesNext 88 = .ok (.ifCond .eq 16, 3) := by decide +kernel
theorem dX7_doesNext_91 : decode cX7_doesNext 91 = .ok (.aload_n 0, 1) := by decide +kernel
theorem dX7_doesNext_92 : decode cX7_doesNext 92 = .ok (.bipush 44, 2) := by decide +kernel
theorem dX7_doesNext_94 : decode cX7_doesNext 94 = .ok (.invokevirtual 130, 3) := by decide +kernel
theorem dX7_doesNext_97 : decode cX7_doesNext 97 = .ok (.ifCond .eq 7, 3) := by decide +kernel
theorem dX7_doesNext_100 : decode cX7_doesNext 100 = .ok (.iconst 1, 1) := by decide +kernel
theorem dX7_doesNext_101 : decode cX7_doesNext 101 = .ok (.goto 4, 3) := by decide +kernel
theorem dX7_doesNext_104 : decode cX7_doesNext 104 = .ok (.iconst 0, 1) := by decide +kernel
theorem dX7_doesNext_105 : decode cX7_doesNext 105 = .ok (.istore_n 3, 1) := by decide +kernel
theorem dX7_doesNext_106 : decode cX7_doesNext 106 = .ok (.aload_n 0, 1) := by decide +kernel
theorem dX7_doesNext_107 : decode cX7_doesNext 107 = .ok (.getfield 118, 3) := by decide +kernel
theorem dX7_doesNext_110 : decode cX7_doesNext 110 = .ok (.istore 5, 2) := by decide +kernel
theorem dX7_doesNext_112 : decode cX7_doesNext 112 = .ok (.iload_n 3, 1) := by decide +kernel
theorem dX7_doesNext_113 : decode cX7_doesNext 113 = .ok (.ifCond .eq 39, 3) := by decide +kernel
theorem dX7_doesNext_116 : decode cX7_doesNext 116 = .ok (.iload_n 2, 1) := by decide +kernel
theorem dX7_doesNext_117 : decode cX7_doesNext 117 = .ok (.bipush 43, 2) := by decide +kernel
theorem dX7_doesNext_119 : decode cX7_doesNext 119 = .ok (.if_icmp .ne 13, 3) := by decide +kernel
theorem dX7_doesNext_122 : decode cX7_doesNext 122 = .ok (.aload_n 0, 1) := by decide +kernel
theorem dX7_doesNext_123 : decode cX7_doesNext 123 = .ok (.invokevirtual 141, 3) := by decide +kernel
theorem dX7_doesNext_126 : decode cX7_doesNext 126 = .ok (.ifCond .eq 26, 3) := by decide +kernel
theorem dX7_doesNext_129 : decode cX7_doesNext 129 = .ok (.goto 19, 3) := by decide +kernel
theorem dX7_doesNext_132 : decode cX7_doesNext 132 = .ok (.aload_n 0, 1) := by decide +kernel
theorem dX7_doesNext_133 : decode cX7_doesNext 133 = .ok (.invokevirtual 137, 3) := by decide +kernel
theorem dX7_doesNext_136 : decode cX7_doesNext 136 = .ok (.ifCond .eq 16, 3) := by decide +kernel
theorem dX7_doesNext_139 : decode cX7_doesNext 139 = .ok (.aload_n 0, 1) := by decide +kernel
theorem dX7_doesNext_140 : decode cX7_doesNext 140 = .ok (.bipush 59, 2) := by decide +kernel
theorem dX7_doesNext_142 : decode cX7_doesNext 142 = .ok (.invokevirtual 130, 3) := by decide +kernel
theorem dX7_doesNext_145 : decode cX7_doesNext 145 = .ok (.ifCond .eq 7, 3) := by decide +kernel
theorem dX7_doesNext_148 : decode cX7_doesNext 148 = .ok (.iconst 1, 1) := by decide +kernel
theorem dX7_doesNext_149 : decode cX7_doesNext 149 = .ok (.goto 4, 3) := by decide +kernel
theorem dX7_doesNext_152 : decode cX7_doesNext 152 = .ok (.iconst 0, 1) := by decide +kernel
theorem dX7_doesNext_153 : decode cX7_doesNext 153 = .ok (.istore_n 3, 1) := by decide +kernel
theorem dX7_doesNext_154 : decode cX7_doesNext 154 = .ok (.iload_n 3, 1) := by decide +kernel
theorem dX7_doesNext_155 : decode cX7_doesNext 155 = .ok (.ifCond .ne 15, 3) := by decide +kernel
theorem dX7_doesNext_158 : decode cX7_doesNext 158 = .ok (.aload_n 0, 1) := by decide +kernel
theorem dX7_doesNext_159 : decode cX7_doesNext 159 = .ok (.aload_n 0, 1) := by decide +kernel
theorem dX7_doesNext_160 : decode cX7_doesNext 160 = .ok (.getfield 118, 3) := by decide +kernel
theorem dX7_doesNext_163 : decode cX7_doesNext 163 = .ok (.iload_n 1, 1) := by decide +kernel
theorem dX7_doesNext_164 : decode cX7_doesNext 164 = .ok (.isub, 1) := by decide +kernel
theorem dX7_doesNext_165 : decode cX7_doesNext 165 = .ok (.putfield 134, 3) := by decide +kernel
theorem dX7_doesNext_168 : decode cX7_doesNext 168 = .ok (.iconst 1, 1) := by decide +kernel
theorem dX7_doesNext_169 : decode cX7_doesNext 169 = .ok (.ireturn, 1) := by decide +kernel
theorem dX7_doesNext_170 : decode cX7_doesNext 170 = .ok (.aload_n 0, 1) := by decide +kernel
theorem dX7_doesNext_171 : decode cX7_doesNext 171 = .ok (.getfield 124, 3) := by decide +kernel
theorem dX7_doesNext_174 : decode cX7_doesNext 174 = .ok (.istore 6, 2) := by decide +kernel
theorem dX7_doesNext_176 : decode cX7_doesNext 176 = .ok (.iload_n 2, 1) := by decide +kernel
theorem dX7_doesNext_177 : decode cX7_doesNext 177 = .ok (.lookupswitch 76 #[(43, 35), (45, 50), (120, 59)], 35) := by decide +kernel
theorem dX7_doesNext_212 : decode cX7_doesNext 212 = .ok (.aload_n 0, 1) := by decide +kernel
theorem dX7_doesNext_213 : decode cX7_doesNext 213 = .ok (.iload 4, 2) := by decide +kernel
theorem dX7_doesNext_215 : decode cX7_doesNext 215 = .ok (.iload 5, 2) := by decide +kernel
theorem dX7_doesNext_217 : decode cX7_doesNext 217 = .ok (.aload_n 0, 1) := by decide +kernel
theorem dX7_doesNext_218 : decode cX7_doesNext 218 = .ok (.getfield 118, 3) := by decide +kernel
theorem dX7_doesNext_221 : decode cX7_doesNext 221 = .ok (.iconst 1, 1) := by decide +kernel
theorem dX7_doesNext_222 : decode cX7_doesNext 222 = .ok (.isub, 1) := by decide +kernel
theorem dX7_doesNext_223 : decode cX7_doesNext 223 = .ok (.invokevirtual 144, 3) := by decide +kernel
theorem dX7_doesNext_226 : decode cX7_doesNext 226 = .ok (.ireturn, 1) := by decide +kernel
theorem dX7_doesNext_227 : decode cX7_doesNext 227 = .ok (.aload_n 0, 1) := by decide +kernel
theorem dX7_doesNext_228 : decode cX7_doesNext 228 = .ok (.iload 4, 2) := by decide +kernel
theorem dX7_doesNext_230 : decode cX7_doesNext 230 = .ok (.iload 6, 2) := by decide +kernel
theorem dX7_doesNext_232 : decode cX7_doesNext 232 = .ok (.invokevirtual 148, 3) := by decide +kernel
theorem dX7_doesNext_235 : decode cX7_doesNext 235 = .ok (.ireturn, 1) := by decide +kernel
theorem dX7_doesNext_236 : decode cX7_doesNext 236 = .ok (.aload_n 0, 1) := by decide +kernel
theorem dX7_doesNext_237 : decode cX7_doesNext 237 = .ok (.iload 4, 2) := by decide +kernel
theorem dX7_doesNext_239 : decode cX7_doesNext 239 = .ok (.iload 6, 2) := by decide +kernel
theorem dX7_doesNext_241 : decode cX7_doesNext 241 = .ok (.invokevirtual 66, 3) := by decide +kernel
theorem dX7_doesNext_244 : decode cX7_doesNext 244 = .ok (.ifCond .ge 7, 3) := by decide +kernel
theorem dX7_doesNext_247 : decode cX7_doesNext 247 = .ok (.iconst 2, 1) := by decide +kernel
theorem dX7_doesNext_248 : decode cX7_doesNext 248 = .ok (.goto 4, 3) := by decide +kernel
theorem dX7_doesNext_251 : decode cX7_doesNext 251 = .ok (.iconst 0, 1) := by decide +kernel
theorem dX7_doesNext_252 : decode cX7_doesNext 252 = .ok (.ireturn, 1) := by decide +kernel
theorem dX7_doesNext_253 : decode cX7_doesNext 253 = .ok (.aload_n 0, 1) := by decide +kernel
theorem dX7_doesNext_254 : decode cX7_doesNext 254 = .ok (.iload 4, 2) := by decide +kernel
theorem dX7_doesNext_256 : decode cX7_doesNext 256 = .ok (.iload 6, 2) := by decide +kernel
theorem dX7_doesNext_258 : decode cX7_doesNext 258 = .ok (.invokevirtual 73, 3) := by decide +kernel
theorem dX7_doesNext_261 : decode cX7_doesNext 261 = .ok (.ifCond .ge 7, 3) := by decide +kernel
theorem dX7_doesNext_264 : decode cX7_doesNext 264 = .ok (.iconst 2, 1) := by decide +kernel
theorem dX7_doesNext_265 : decode cX7_doesNext 265 = .ok (.goto 4, 3) := by decide +kernel
theorem dX7_doesNext_268 : decode cX7_doesNext 268 = .ok (.iconst 0, 1) := by decide +kernel
theorem dX7_doesNext_269 : decode cX7_doesNext 269 = .ok (.ireturn, 1) := by decide +kernel
theorem dX7_faulty_0 : decode cX7_faulty 0 = .ok (.iconst 0, 1) := by decide +kernel
theorem dX7_faulty_1 : decode cX7_faulty 1 = .ok (.istore_n 1, 1) := by decide +kernel
theorem dX7_faulty_2 : decode cX7_faulty 2 = .ok (.iload_n 1, 1) := by decide +kernel
theorem dX7_faulty_3 : decode cX7_faulty 3 = .ok (.bipush 61, 2) := by decide +kernel
theorem dX7_faulty_5 : decode cX7_faulty 5 = .ok (.if_icmp .ge 21, 3) := by decide +kernel
theorem dX7_faulty_8 : decode cX7_faulty 8 = .ok (.aload_n 0, 1) := by decide +kernel
theorem dX7_faulty_9 : decode cX7_faulty 9 = .ok (.getfield 19, 3) := by decide +kernel
theorem dX7_faulty_12 : decode cX7_faulty 12 = .ok (.iload_n 1, 1) := by decide +kernel
theorem dX7_faulty_13 : decode cX7_faulty 13 = .ok (.aload_n 0, 1) := by decide +kernel
theorem dX7_faulty_14 : decode cX7_faulty 14 = .ok (.getfield 7, 3) := by decide +kernel
theorem dX7_faulty_17 : decode cX7_faulty 17 = .ok (.iload_n 1, 1) := by decide +kernel
theorem dX7_faulty_18 : decode cX7_faulty 18 = .ok (.iaload, 1) := by decide +kernel
theorem dX7_faulty_19 : decode cX7_faulty 19 = .ok (.iastore, 1) := by decide +kernel
theorem dX7_faulty_20 : decode cX7_faulty 20 = .ok (.iinc 1 1, 3) := by decide +kernel
theorem dX7_faulty_23 : decode cX7_faulty 23 = .ok (.goto (-21), 3) := by decide +kernel
theorem dX7_faulty_26 : decode cX7_faulty 26 = .ok (.ldc 83, 2) := by decide +kernel
theorem dX7_faulty_28 : decode cX7_faulty 28 = .ok (.istore_n 1, 1) := by decide +kernel
theorem dX7_faulty_29 : decode cX7_faulty 29 = .ok (.aload_n 0, 1) := by decide +kernel
theorem dX7_faulty_30 : decode cX7_faulty 30 = .ok (.iconst 0, 1) := by decide +kernel
theorem dX7_faulty_31 : decode cX7_faulty 31 = .ok (.putfield 118, 3) := by decide +kernel
theorem dX7_faulty_34 : decode cX7_faulty 34 = .ok (.aload_n 0, 1) := by decide +kernel
theorem dX7_faulty_35 : decode cX7_faulty 35 = .ok (.getfield 118, 3) := by decide +kernel
theorem dX7_faulty_38 : decode cX7_faulty 38 = .ok (.aload_n 0, 1) := by decide +kernel
theorem dX7_faulty_39 : decode cX7_faulty 39 = .ok (.getfield 114, 3) := by decide +kernel
theorem dX7_faulty_42 : decode cX7_faulty 42 = .ok (.if_icmp .ge 38, 3) := by decide +kernel
theorem dX7_faulty_45 : decode cX7_faulty 45 = .ok (.iload_n 1, 1) := by decide +kernel
theorem dX7_faulty_46 : decode cX7_faulty 46 = .ok (.ldc 83, 2) := by decide +kernel
theorem dX7_faulty_48 : decode cX7_faulty 48 = .ok (.if_icmp .ne 32, 3) := by decide +kernel
theorem dX7_faulty_51 : decode cX7_faulty 51 = .ok (.aload_n 0, 1) := by decide +kernel
theorem dX7_faulty_52 : decode cX7_faulty 52 = .ok (.getfield 118, 3) := by decide +kernel
theorem dX7_faulty_55 : decode cX7_faulty 55 = .ok (.istore_n 2, 1) := by decide +kernel
theorem dX7_faulty_56 : decode cX7_faulty 56 = .ok (.aload_n 0, 1) := by decide +kernel
theorem dX7_faulty_57 : decode cX7_faulty 57 = .ok (.aload_n 0, 1) := by decide +kernel
theorem dX7_faulty_58 : decode cX7_faulty 58 = .ok (.invokevirtual 151, 3) := by decide +kernel
theorem dX7_faulty_61 : decode cX7_faulty 61 = .ok (.putfield 154, 3) := by decide +kernel
theorem dX7_faulty_64 : decode cX7_faulty 64 = .ok (.aload_n 0, 1) := by decide +kernel
theorem dX7_faulty_65 : decode cX7_faulty 65 = .ok (.getfield 154, 3) := by decide +kernel
theorem dX7_faulty_68 : decode cX7_faulty 68 = .ok (.ifCond .le 7, 3) := by decide +kernel
theorem dX7_faulty_71 : decode cX7_faulty 71 = .ok (.iload_n 2, 1) := by decide +kernel
theorem dX7_faulty_72 : decode cX7_faulty 72 = .ok (.goto 4, 3) := by decide +kernel
theorem dX7_faulty_75 : decode cX7_faulty 75 = .ok (.iload_n 1, 1) := by decide +kernel
theorem dX7_faulty_76 : decode cX7_faulty 76 = .ok (.istore_n 1, 1) := by decide +kernel
theorem dX7_faulty_77 : decode cX7_faulty 77 = .ok (.goto (-43), 3) := by decide +kernel
theorem dX7_faulty_80 : decode cX7_faulty 80 = .ok (.iconst 0, 1) := by decide +kernel
theorem dX7_faulty_81 : decode cX7_faulty 81 = .ok (.istore_n 2, 1) := by decide +kernel
theorem dX7_faulty_82 : decode cX7_faulty 82 = .ok (.iload_n 2, 1) := by decide +kernel
theorem dX7_faulty_83 : decode cX7_faulty 83 = .ok (.bipush 61, 2) := by decide +kernel
theorem dX7_faulty_85 : decode cX7_faulty 85 = .ok (.if_icmp .ge 21, 3) := by decide +kernel
theorem dX7_faulty_88 : decode cX7_faulty 88 = .ok (.aload_n 0, 1) := by decide +kernel
theorem dX7_faulty_89 : decode cX7_faulty 89 = .ok (.getfield 7, 3) := by decide +kernel
theorem dX7_faulty_92 : decode cX7_faulty 92 = .ok (.iload_n 2, 1) := by decide +kernel
theorem dX7_faulty_93 : decode cX7_faulty 93 = .ok (.aload_n 0, 1) := by decide +kernel
theorem dX7_faulty_94 : decode cX7_faulty 94 = .ok (.getfield 19, 3) := by decide +kernel
theorem dX7_faulty_97 : decode cX7_faulty 97 = .ok (.iload_n 2, 1) := by decide +kernel
theorem dX7_faulty_98 : decode cX7_faulty 98 = .ok (.iaload, 1) := by decide +kernel
theorem dX7_faulty_99 : decode cX7_faulty 99 = .ok (.iastore, 1) := by decide +kernel
theorem dX7_faulty_100 : decode cX7_faulty 100 = .ok (.iinc 2 1, 3) := by decide +kernel
theorem dX7_faulty_103 : decode cX7_faulty 103 = .ok (.goto (-21), 3) := by decide +kernel
theorem dX7_faulty_106 : decode cX7_faulty 106 = .ok (.iload_n 1, 1) := by decide +kernel
theorem dX7_faulty_107 : decode cX7_faulty 107 = .ok (.ireturn, 1) := by decide +kernel
theorem dX7_fault_0 : decode cX7_fault 0 = .ok (.iload_n 1, 1) := by decide +kernel
theorem dX7_fault_1 : decode cX7_fault 1 = .ok (.iconst 0, 1) := by decide +kernel
theorem dX7_fault_2 : decode cX7_fault 2 = .ok (.iconst 2, 1) := by decide +kernel
theorem dX7_fault_3 : decode cX7_fault 3 = .ok (.invokestatic 38, 3) := by decide +kernel
theorem dX7_fault_6 : decode cX7_fault 6 = .ok (.ifCond .ne 6, 3) := by decide +kernel
theorem dX7_fault_9 : decode cX7_fault 9 = .ok (.ldc 42, 2) := by decide +kernel
theorem dX7_fault_11 : decode cX7_fault 11 = .ok (.ireturn, 1) := by decide +kernel
theorem dX7_fault_12 : decode cX7_fault 12 = .ok (.aload_n 0, 1) := by decide +kernel
theorem dX7_fault_13 : decode cX7_fault 13 = .ok (.invokevirtual 157, 3) := by decide +kernel
theorem dX7_fault_16 : decode cX7_fault 16 = .ok (.istore_n 2, 1) := by decide +kernel
theorem dX7_fault_17 : decode cX7_fault 17 = .ok (.iload_n 2, 1) := by decide +kernel
theorem dX7_fault_18 : decode cX7_fault 18 = .ok (.ldc 83, 2) := by decide +kernel
theorem dX7_fault_20 : decode cX7_fault 20 = .ok (.if_icmp .eq 7, 3) := by decide +kernel
theorem dX7_fault_23 : decode cX7_fault 23 = .ok (.iload_n 1, 1) := by decide +kernel
theorem dX7_fault_24 : decode cX7_fault 24 = .ok (.ifCond .ne 7, 3) := by decide +kernel
theorem dX7_fault_27 : decode cX7_fault 27 = .ok (.iload_n 2, 1) := by decide +kernel
theorem dX7_fault_28 : decode cX7_fault 28 = .ok (.goto 19, 3) := by decide +kernel
theorem dX7_fault_31 : decode cX7_fault 31 = .ok (.iload_n 1, 1) := by decide +kernel
theorem dX7_fault_32 : decode cX7_fault 32 = .ok (.iconst 1, 1) := by decide +kernel
theorem dX7_fault_33 : decode cX7_fault 33 = .ok (.if_icmp .ne 10, 3) := by decide +kernel
theorem dX7_fault_36 : decode cX7_fault 36 = .ok (.aload_n 0, 1) := by decide +kernel
theorem dX7_fault_37 : decode cX7_fault 37 = .ok (.getfield 154, 3) := by decide +kernel
theorem dX7_fault_40 : decode cX7_fault 40 = .ok (.goto 7, 3) := by decide +kernel
theorem dX7_fault_43 : decode cX7_fault 43 = .ok (.aload_n 0, 1) := by decide +kernel
theorem dX7_fault_44 : decode cX7_fault 44 = .ok (.getfield 134, 3) := by decide +kernel
theorem dX7_fault_47 : decode cX7_fault 47 = .ok (.ireturn, 1) := by decide +kernel
theorem dX7_play_0 : decode cX7_play 0 = .ok (.aload_n 0, 1) := by decide +kernel
theorem dX7_play_1 : decode cX7_play 1 = .ok (.invokevirtual 157, 3) := by decide +kernel
theorem dX7_play_4 : decode cX7_play 4 = .ok (.ldc 83, 2) := by decide +kernel
theorem dX7_play_6 : decode cX7_play 6 = .ok (.if_icmp .eq 6, 3) := by decide +kernel
theorem dX7_play_9 : decode cX7_play 9 = .ok (.ldc 117, 2) := by decide +kernel
theorem dX7_play_11 : decode cX7_play 11 = .ok (.ireturn, 1) := by decide +kernel
theorem dX7_play_12 : decode cX7_play 12 = .ok (.aload_n 0, 1) := by decide +kernel
theorem dX7_play_13 : decode cX7_play 13 = .ok (.invokevirtual 48, 3) := by decide +kernel
theorem dX7_play_16 : decode cX7_play 16 = .ok (.aload_n 0, 1) := by decide +kernel
theorem dX7_play_17 : decode cX7_play 17 = .ok (.iconst 0, 1) := by decide +kernel
theorem dX7_play_18 : decode cX7_play 18 = .ok (.putfield 118, 3) := by decide +kernel
theorem dX7_play_21 : decode cX7_play 21 = .ok (.aload_n 0, 1) := by decide +kernel
theorem dX7_play_22 : decode cX7_play 22 = .ok (.getfield 118, 3) := by decide +kernel
theorem dX7_play_25 : decode cX7_play 25 = .ok (.aload_n 0, 1) := by decide +kernel
theorem dX7_play_26 : decode cX7_play 26 = .ok (.getfield 114, 3) := by decide +kernel
theorem dX7_play_29 : decode cX7_play 29 = .ok (.if_icmp .ge 11, 3) := by decide +kernel
theorem dX7_play_32 : decode cX7_play 32 = .ok (.aload_n 0, 1) := by decide +kernel
theorem dX7_play_33 : decode cX7_play 33 = .ok (.invokevirtual 151, 3) := by decide +kernel
theorem dX7_play_36 : decode cX7_play 36 = .ok (.pop, 1) := by decide +kernel
theorem dX7_play_37 : decode cX7_play 37 = .ok (.goto (-16), 3) := by decide +kernel
theorem dX7_play_40 : decode cX7_play 40 = .ok (.aload_n 0, 1) := by decide +kernel
theorem dX7_play_41 : decode cX7_play 41 = .ok (.aload_n 0, 1) := by decide +kernel
theorem dX7_play_42 : decode cX7_play 42 = .ok (.getfield 7, 3) := by decide +kernel
theorem dX7_play_45 : decode cX7_play 45 = .ok (.iconst 0, 1) := by decide +kernel
theorem dX7_play_46 : decode cX7_play 46 = .ok (.iaload, 1) := by decide +kernel
theorem dX7_play_47 : decode cX7_play 47 = .ok (.invokevirtual 55, 3) := by decide +kernel
theorem dX7_play_50 : decode cX7_play 50 = .ok (.ireturn, 1) := by decide +kernel
theorem dJ6_bitCount_0f7a4_0 : decode cJ6_bitCount_0f7a4 0 = .ok (.iload_n 0, 1) := by decide +kernel
theorem dJ6_bitCount_0f7a4_1 : decode cJ6_bitCount_0f7a4 1 = .ok (.iload_n 0, 1) := by decide +kernel
theorem dJ6_bitCount_0f7a4_2 : decode cJ6_bitCount_0f7a4 2 = .ok (.iconst 1, 1) := by decide +kernel
theorem dJ6_bitCount_0f7a4_3 : decode cJ6_bitCount_0f7a4 3 = .ok (.iushr, 1) := by decide +kernel
theorem dJ6_bitCount_0f7a4_4 : decode cJ6_bitCount_0f7a4 4 = .ok (.ldc_w 265, 3) := by decide +kernel
theorem dJ6_bitCount_0f7a4_7 : decode cJ6_bitCount_0f7a4 7 = .ok (.iand, 1) := by decide +kernel
theorem dJ6_bitCount_0f7a4_8 : decode cJ6_bitCount_0f7a4 8 = .ok (.isub, 1) := by decide +kernel
theorem dJ6_bitCount_0f7a4_9 : decode cJ6_bitCount_0f7a4 9 = .ok (.istore_n 0, 1) := by decide +kernel
theorem dJ6_bitCount_0f7a4_10 : decode cJ6_bitCount_0f7a4 10 = .ok (.iload_n 0, 1) := by decide +kernel
theorem dJ6_bitCount_0f7a4_11 : decode cJ6_bitCount_0f7a4 11 = .ok (.ldc_w 266, 3) := by decide +kernel
theorem dJ6_bitCount_0f7a4_14 : decode cJ6_bitCount_0f7a4 14 = .ok (.iand, 1) := by decide +kernel
theorem dJ6_bitCount_0f7a4_15 : decode cJ6_bitCount_0f7a4 15 = .ok (.iload_n 0, 1) := by decide +kernel
theorem dJ6_bitCount_0f7a4_16 : decode cJ6_bitCount_0f7a4 16 = .ok (.iconst 2, 1) := by decide +kernel
theorem dJ6_bitCount_0f7a4_17 : decode cJ6_bitCount_0f7a4 17 = .ok (.iushr, 1) := by decide +kernel
theorem dJ6_bitCount_0f7a4_18 : decode cJ6_bitCount_0f7a4 18 = .ok (.ldc_w 266, 3) := by decide +kernel
theorem dJ6_bitCount_0f7a4_21 : decode cJ6_bitCount_0f7a4 21 = .ok (.iand, 1) := by decide +kernel
theorem dJ6_bitCount_0f7a4_22 : decode cJ6_bitCount_0f7a4 22 = .ok (.iadd, 1) := by decide +kernel
theorem dJ6_bitCount_0f7a4_23 : decode cJ6_bitCount_0f7a4 23 = .ok (.istore_n 0, 1) := by decide +kernel
theorem dJ6_bitCount_0f7a4_24 : decode cJ6_bitCount_0f7a4 24 = .ok (.iload_n 0, 1) := by decide +kernel
theorem dJ6_bitCount_0f7a4_25 : decode cJ6_bitCount_0f7a4 25 = .ok (.iload_n 0, 1) := by decide +kernel
theorem dJ6_bitCount_0f7a4_26 : decode cJ6_bitCount_0f7a4 26 = .ok (.iconst 4, 1) := by decide +kernel
theorem dJ6_bitCount_0f7a4_27 : decode cJ6_bitCount_0f7a4 27 = .ok (.iushr, 1) := by decide +kernel
theorem dJ6_bitCount_0f7a4_28 : decode cJ6_bitCount_0f7a4 28 = .ok (.iadd, 1) := by decide +kernel
theorem dJ6_bitCount_0f7a4_29 : decode cJ6_bitCount_0f7a4 29 = .ok (.ldc_w 267, 3) := by decide +kernel
theorem dJ6_bitCount_0f7a4_32 : decode cJ6_bitCount_0f7a4 32 = .ok (.iand, 1) := by decide +kernel
theorem dJ6_bitCount_0f7a4_33 : decode cJ6_bitCount_0f7a4 33 = .ok (.istore_n 0, 1) := by decide +kernel
theorem dJ6_bitCount_0f7a4_34 : decode cJ6_bitCount_0f7a4 34 = .ok (.iload_n 0, 1) := by decide +kernel
theorem dJ6_bitCount_0f7a4_35 : decode cJ6_bitCount_0f7a4 35 = .ok (.iload_n 0, 1) := by decide +kernel
theorem dJ6_bitCount_0f7a4_36 : decode cJ6_bitCount_0f7a4 36 = .ok (.bipush 8, 2) := by decide +kernel
theorem dJ6_bitCount_0f7a4_38 : decode cJ6_bitCount_0f7a4 38 = .ok (.iushr, 1) := by decide +kernel
theorem dJ6_bitCount_0f7a4_39 : decode cJ6_bitCount_0f7a4 39 = .ok (.iadd, 1) := by decide +kernel
theorem dJ6_bitCount_0f7a4_40 : decode cJ6_bitCount_0f7a4 40 = .ok (.istore_n 0, 1) := by decide +kernel
theorem dJ6_bitCount_0f7a4_41 : decode cJ6_bitCount_0f7a4 41 = .ok (.iload_n 0, 1) := by decide +kernel
theorem dJ6_bitCount_0f7a4_42 : decode cJ6_bitCount_0f7a4 42 = .ok (.iload_n 0, 1) := by decide +kernel
theorem dJ6_bitCount_0f7a4_43 : decode cJ6_bitCount_0f7a4 43 = .ok (.bipush 16, 2) := by decide +kernel
theorem dJ6_bitCount_0f7a4_45 : decode cJ6_bitCount_0f7a4 45 = .ok (.iushr, 1) := by decide +kernel
theorem dJ6_bitCount_0f7a4_46 : decode cJ6_bitCount_0f7a4 46 = .ok (.iadd, 1) := by decide +kernel
theorem dJ6_bitCount_0f7a4_47 : decode cJ6_bitCount_0f7a4 47 = .ok (.istore_n 0, 1) := by decide +kernel
theorem dJ6_bitCount_0f7a4_48 : decode cJ6_bitCount_0f7a4 48 = .ok (.iload_n 0, 1) := by decide +kernel
theorem dJ6_bitCount_0f7a4_49 : decode cJ6_bitCount_0f7a4 49 = .ok (.bipush 63, 2) := by decide +kernel
theorem dJ6_bitCount_0f7a4_51 : decode cJ6_bitCount_0f7a4 51 = .ok (.iand, 1) := by decide +kernel
theorem dJ6_bitCount_0f7a4_52 : decode cJ6_bitCount_0f7a4 52 = .ok (.ireturn, 1) := by decide +kernel
theorem dJ13_bitCount_95d88_0 : decode cJ13_bitCount_95d88 0 = .ok (.lload_n 0, 1) := by decide +kernel
theorem dJ13_bitCount_95d88_1 : decode cJ13_bitCount_95d88 1 = .ok (.lload_n 0, 1) := by decide +kernel
theorem dJ13_bitCount_95d88_2 : decode cJ13_bitCount_95d88 2 = .ok (.iconst 1, 1) := by decide +kernel
theorem dJ13_bitCount_95d88_3 : decode cJ13_bitCount_95d88 3 = .ok (.lushr, 1) := by decide +kernel
theorem dJ13_bitCount_95d88_4 : decode cJ13_bitCount_95d88 4 = .ok (.ldc2_w 314, 3) := by decide +kernel
theorem dJ13_bitCount_95d88_7 : decode cJ13_bitCount_95d88 7 = .ok (.land, 1) := by decide +kernel
theorem dJ13_bitCount_95d88_8 : decode cJ13_bitCount_95d88 8 = .ok (.lsub, 1) := by decide +kernel
theorem dJ13_bitCount_95d88_9 : decode cJ13_bitCount_95d88 9 = .ok (.lstore_n 0, 1) := by decide +kernel
theorem dJ13_bitCount_95d88_10 : decode cJ13_bitCount_95d88 10 = .ok (.lload_n 0, 1) := by decide +kernel
theorem dJ13_bitCount_95d88_11 : decode cJ13_bitCount_95d88 11 = .ok (.ldc2_w 316, 3) := by decide +kernel
theorem dJ13_bitCount_95d88_14 : decode cJ13_bitCount_95d88 14 = .ok (.land, 1) := by decide +kernel
theorem dJ13_bitCount_95d88_15 : decode cJ13_bitCount_95d88 15 = .ok (.lload_n 0, 1) := by decide +kernel
theorem dJ13_bitCount_95d88_16 : decode cJ13_bitCount_95d88 16 = .ok (.iconst 2, 1) := by decide +kernel
theorem dJ13_bitCount_95d88_17 : decode cJ13_bitCount_95d88 17 = .ok (.lushr, 1) := by decide +kernel
theorem dJ13_bitCount_95d88_18 : decode cJ13_bitCount_95d88 18 = .ok (.ldc2_w 316, 3) := by decide +kernel
theorem dJ13_bitCount_95d88_21 : decode cJ13_bitCount_95d88 21 = .ok (.land, 1) := by decide +kernel
theorem dJ13_bitCount_95d88_22 : decode cJ13_bitCount_95d88 22 = .ok (.ladd, 1) := by decide +kernel
theorem dJ13_bitCount_95d88_23 : decode cJ13_bitCount_95d88 23 = .ok (.lstore_n 0, 1) := by decide +kernel
theorem dJ13_bitCount_95d88_24 : decode cJ13_bitCount_95d88 24 = .ok (.lload_n 0, 1) := by decide +kernel
theorem dJ13_bitCount_95d88_25 : decode cJ13_bitCount_95d88 25 = .ok (.lload_n 0, 1) := by decide +kernel
theorem dJ13_bitCount_95d88_26 : decode cJ13_bitCount_95d88 26 = .ok (.iconst 4, 1) := by decide +kernel
theorem dJ13_bitCount_95d88_27 : decode cJ13_bitCount_95d88 27 = .ok (.lushr, 1) := by decide +kernel
theorem dJ13_bitCount_95d88_28 : decode cJ13_bitCount_95d88 28 = .ok (.ladd, 1) := by decide +kernel
theorem dJ13_bitCount_95d88_29 : decode cJ13_bitCount_95d88 29 = .ok (.ldc2_w 318, 3) := by decide +kernel
theorem dJ13_bitCount_95d88_32 : decode cJ13_bitCount_95d88 32 = .ok (.land, 1) := by decide +kernel
theorem dJ13_bitCount_95d88_33 : decode cJ13_bitCount_95d88 33 = .ok (.lstore_n 0, 1) := by decide +kernel
theorem dJ13_bitCount_95d88_34 : decode cJ13_bitCount_95d88 34 = .ok (.lload_n 0, 1) := by decide +kernel
theorem dJ13_bitCount_95d88_35 : decode cJ13_bitCount_95d88 35 = .ok (.lload_n 0, 1) := by decide +kernel
theorem dJ13_bitCount_95d88_36 : decode cJ13_bitCount_95d88 36 = .ok (.bipush 8, 2) := by decide +kernel
theorem dJ13_bitCount_95d88_38 : decode cJ13_bitCount_95d88 38 = .ok (.lushr, 1) := by decide +kernel
theorem dJ13_bitCount_95d88_39 : decode cJ13_bitCount_95d88 39 = .ok (.ladd, 1) := by decide +kernel
theorem dJ13_bitCount_95d88_40 : decode cJ13_bitCount_95d88 40 = .ok (.lstore_n 0, 1) := by decide +kernel
theorem dJ13_bitCount_95d88_41 : decode cJ13_bitCount_95d88 41 = .ok (.lload_n 0, 1) := by decide +kernel
theorem dJ13_bitCount_95d88_42 : decode cJ13_bitCount_95d88 42 = .ok (.lload_n 0, 1) := by decide +kernel
theorem dJ13_bitCount_95d88_43 : decode cJ13_bitCount_95d88 43 = .ok (.bipush 16, 2) := by decide +kernel
theorem dJ13_bitCount_95d88_45 : decode cJ13_bitCount_95d88 45 = .ok (.lushr, 1) := by decide +kernel
theorem dJ13_bitCount_95d88_46 : decode cJ13_bitCount_95d88 46 = .ok (.ladd, 1) := by decide +kernel
theorem dJ13_bitCount_95d88_47 : decode cJ13_bitCount_95d88 47 = .ok (.lstore_n 0, 1) := by decide +kernel
theorem dJ13_bitCount_95d88_48 : decode cJ13_bitCount_95d88 48 = .ok (.lload_n 0, 1) := by decide +kernel
theorem dJ13_bitCount_95d88_49 : decode cJ13_bitCount_95d88 49 = .ok (.lload_n 0, 1) := by decide +kernel
theorem dJ13_bitCount_95d88_50 : decode cJ13_bitCount_95d88 50 = .ok (.bipush 32, 2) := by decide +kernel
theorem dJ13_bitCount_95d88_52 : decode cJ13_bitCount_95d88 52 = .ok (.lushr, 1) := by decide +kernel
theorem dJ13_bitCount_95d88_53 : decode cJ13_bitCount_95d88 53 = .ok (.ladd, 1) := by decide +kernel
theorem dJ13_bitCount_95d88_54 : decode cJ13_bitCount_95d88 54 = .ok (.lstore_n 0, 1) := by decide +kernel
theorem dJ13_bitCount_95d88_55 : decode cJ13_bitCount_95d88 55 = .ok (.lload_n 0, 1) := by decide +kernel
theorem dJ13_bitCount_95d88_56 : decode cJ13_bitCount_95d88 56 = .ok (.l2i, 1) := by decide +kernel
theorem dJ13_bitCount_95d88_57 : decode cJ13_bitCount_95d88 57 = .ok (.bipush 127, 2) := by decide +kernel
theorem dJ13_bitCount_95d88_59 : decode cJ13_bitCount_95d88 59 = .ok (.iand, 1) := by decide +kernel
theorem dJ13_bitCount_95d88_60 : decode cJ13_bitCount_95d88 60 = .ok (.ireturn, 1) := by decide +kernel
theorem dJ9_max_7cf53_0 : decode cJ9_max_7cf53 0 = .ok (.iload_n 0, 1) := by decide +kernel
theorem dJ9_max_7cf53_1 : decode cJ9_max_7cf53 1 = .ok (.iload_n 1, 1) := by decide +kernel
theorem dJ9_max_7cf53_2 : decode cJ9_max_7cf53 2 = .ok (.if_icmp .lt 7, 3) := by decide +kernel
theorem dJ9_max_7cf53_5 : decode cJ9_max_7cf53 5 = .ok (.iload_n 0, 1) := by decide +kernel
theorem dJ9_max_7cf53_6 : decode cJ9_max_7cf53 6 = .ok (.goto 4, 3) := by decide +kernel
theorem dJ9_max_7cf53_9 : decode cJ9_max_7cf53 9 = .ok (.iload_n 1, 1) := by decide +kernel
theorem dJ9_max_7cf53_10 : decode cJ9_max_7cf53 10 = .ok (.ireturn, 1) := by decide +kernel
theorem dJ9_min_7cf53_0 : decode cJ9_min_7cf53 0 = .ok (.iload_n 0, 1) := by decide +kernel
theorem dJ9_min_7cf53_1 : decode cJ9_min_7cf53 1 = .ok (.iload_n 1, 1) := by decide +kernel
theorem dJ9_min_7cf53_2 : decode cJ9_min_7cf53 2 = .ok (.if_icmp .gt 7, 3) := by decide +kernel
theorem dJ9_min_7cf53_5 : decode cJ9_min_7cf53 5 = .ok (.iload_n 0, 1) := by decide +kernel
theorem dJ9_min_7cf53_6 : decode cJ9_min_7cf53 6 = .ok (.goto 4, 3) := by decide +kernel
theorem dJ9_min_7cf53_9 : decode cJ9_min_7cf53 9 = .ok (.iload_n 1, 1) := by decide +kernel
theorem dJ9_min_7cf53_10 : decode cJ9_min_7cf53 10 = .ok (.ireturn, 1) := by decide +kernel
