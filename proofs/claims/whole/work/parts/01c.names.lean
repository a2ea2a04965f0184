set_option maxRecDepth 20000 in
theorem ggX2_init_X3_init : GoodIn wsX2_init wsX3_init := goodIn_r _ [11, 12, 2, 3, 13, 14, 15, 26, 27] (by decide +kernel) (by decide +kernel)
set_option maxRecDepth 20000 in
theorem gX2_init_X3_init : GoodIn wsX2_init (wsX3_init) := ggX2_init_X3_init
theorem dX2_init_0 : decode cX2_init 0 = .ok (.aload_n 0, 1) := by decide +kernel
theorem dX2_init_1 : decode cX2_init 1 = .ok (.invokespecial 3, 3) := by decide +kernel
theorem dX2_init_4 : decode cX2_init 4 = .ok (.aload_n 0, 1) := by decide +kernel
theorem dX2_init_5 : decode cX2_init 5 = .ok (.aload_n 1, 1) := by decide +kernel
theorem dX2_init_6 : decode cX2_init 6 = .ok (.putfield 9, 3) := by decide +kernel
theorem dX2_init_9 : decode cX2_init 9 = .ok (.aload_n 0, 1) := by decide +kernel
theorem dX2_init_10 : decode cX2_init 10 = .ok (.new 15, 3) := by decide +kernel
theorem dX2_init_13 : decode cX2_init 13 = .ok (.dup, 1) := by decide +kernel
theorem dX2_init_14 : decode cX2_init 14 = .ok (.invokespecial 17, 3) := by decide +kernel
theorem dX2_init_17 : decode cX2_init 17 = .ok (.putfield 18, 3) := by decide +kernel
theorem dX2_init_20 : decode cX2_init 20 = .ok (.return_, 1) := by decide +kernel
theorem dX2_outcome_0 : decode cX2_outcome 0 = .ok (.aload_n 0, 1) := by decide +kernel
theorem dX2_outcome_1 : decode cX2_outcome 1 = .ok (.getfield 18, 3) := by decide +kernel
theorem dX2_outcome_4 : decode cX2_outcome 4 = .ok (.areturn, 1) := by decide +kernel
theorem dX2_position_0 : decode cX2_position 0 = .ok (.aload_n 0, 1) := by decide +kernel
theorem dX2_position_1 : decode cX2_position 1 = .ok (.getfield 22, 3) := by decide +kernel
theorem dX2_position_4 : decode cX2_position 4 = .ok (.ireturn, 1) := by decide +kernel
theorem dX2_reason_0 : decode cX2_reason 0 = .ok (.aload_n 0, 1) := by decide +kernel
theorem dX2_reason_1 : decode cX2_reason 1 = .ok (.getfield 26, 3) := by decide +kernel
theorem dX2_reason_4 : decode cX2_reason 4 = .ok (.ireturn, 1) := by decide +kernel
theorem dX2_cause_0 : decode cX2_cause 0 = .ok (.aload_n 0, 1) := by decide +kernel
theorem dX2_cause_1 : decode cX2_cause 1 = .ok (.getfield 29, 3) := by decide +kernel
theorem dX2_cause_4 : decode cX2_cause 4 = .ok (.ireturn, 1) := by decide +kernel
set_option maxRecDepth 20000 in
theorem ggX2_playAll_X3_copyFrom : GoodIn wsX2_playAll wsX3_copyFrom := goodIn_r _ [9, 10, 11, 129, 130] (by decide +kernel) (by decide +kernel)
set_option maxRecDepth 20000 in
theorem gX2_playAll_X3_copyFrom : GoodIn wsX2_playAll (wsV RX2 32 RX3 yX3_copyFrom wsX3_copyFrom) := goodIn_app (goodIn_of _ (by decide +kernel)) ggX2_playAll_X3_copyFrom
set_option maxRecDepth 20000 in
theorem ggX2_playAll_X5_length : GoodIn wsX2_playAll wsX5_length := goodIn_r _ [16, 17, 131, 132] (by decide +kernel) (by decide +kernel)
set_option maxRecDepth 20000 in
theorem gX2_playAll_X5_length : GoodIn wsX2_playAll (wsV RX2 39 RX5 yX5_length wsX5_length) := goodIn_app (goodIn_of _ (by decide +kernel)) ggX2_playAll_X5_length
set_option maxRecDepth 20000 in
theorem ggX2_playAll_X2_playEdit : GoodIn wsX2_playAll wsX2_playEdit := goodIn_r _ [22, 2, 23, 3, 24, 25, 26, 27, 21, 28, 4, 29, 30, 31, 32, 33, 34, 15, 35, 17, 36, 37, 38, 39, 40, 41, 42, 43, 44, 45, 46, 47, 48, 49, 50, 51, 52, 53, 54, 55, 56, 57, 58, 59, 60, 61, 62, 63, 64, 65, 1, 66, 67, 68, 69, 70, 71, 72, 8, 73, 10, 74, 75, 76, 77, 78, 79, 80, 81, 82, 83, 84, 85, 86, 87, 88, 89, 90, 91, 92, 93, 94, 95, 96, 11, 97, 98, 99, 100, 101, 102, 103, 104, 105, 106, 107, 108, 109, 110, 111, 112, 113, 114, 115, 116, 117, 118, 119, 120, 121, 122, 123, 124, 125, 126, 127, 128, 131, 132, 129, 130] (by decide +kernel) (by decide +kernel)
set_option maxRecDepth 20000 in
theorem gX2_playAll_X2_playEdit : GoodIn wsX2_playAll (wsV RX2 45 RX2 yX2_playEdit wsX2_playEdit) := goodIn_app (goodIn_of _ (by decide +kernel)) ggX2_playAll_X2_playEdit
theorem dX2_playAll_0 : decode cX2_playAll 0 = .ok (.aload_n 0, 1) := by decide +kernel
theorem dX2_playAll_1 : decode cX2_playAll 1 = .ok (.getfield 18, 3) := by decide +kernel
theorem dX2_playAll_4 : decode cX2_playAll 4 = .ok (.aload_n 1, 1) := by decide +kernel
theorem dX2_playAll_5 : decode cX2_playAll 5 = .ok (.invokevirtual 32, 3) := by decide +kernel
theorem dX2_playAll_8 : decode cX2_playAll 8 = .ok (.aload_n 0, 1) := by decide +kernel
theorem dX2_playAll_9 : decode cX2_playAll 9 = .ok (.iconst 0, 1) := by decide +kernel
theorem dX2_playAll_10 : decode cX2_playAll 10 = .ok (.putfield 36, 3) := by decide +kernel
theorem dX2_playAll_13 : decode cX2_playAll 13 = .ok (.aload_n 0, 1) := by decide +kernel
theorem dX2_playAll_14 : decode cX2_playAll 14 = .ok (.iconst 0, 1) := by decide +kernel
theorem dX2_playAll_15 : decode cX2_playAll 15 = .ok (.putfield 26, 3) := by decide +kernel
theorem dX2_playAll_18 : decode cX2_playAll 18 = .ok (.iconst 0, 1) := by decide +kernel
theorem dX2_playAll_19 : decode cX2_playAll 19 = .ok (.istore_n 2, 1) := by decide +kernel
theorem dX2_playAll_20 : decode cX2_playAll 20 = .ok (.iload_n 2, 1) := by decide +kernel
theorem dX2_playAll_21 : decode cX2_playAll 21 = .ok (.bipush 60, 2) := by decide +kernel
theorem dX2_playAll_23 : decode cX2_playAll 23 = .ok (.if_icmp .ge 34, 3) := by decide +kernel
theorem dX2_playAll_26 : decode cX2_playAll 26 = .ok (.aload_n 0, 1) := by decide +kernel
theorem dX2_playAll_27 : decode cX2_playAll 27 = .ok (.getfield 26, 3) := by decide +kernel
theorem dX2_playAll_30 : decode cX2_playAll 30 = .ok (.ifCond .ne 27, 3) := by decide +kernel
theorem dX2_playAll_33 : decode cX2_playAll 33 = .ok (.aload_n 0, 1) := by decide +kernel
theorem dX2_playAll_34 : decode cX2_playAll 34 = .ok (.getfield 36, 3) := by decide +kernel
theorem dX2_playAll_37 : decode cX2_playAll 37 = .ok (.aload_n 0, 1) := by decide +kernel
theorem dX2_playAll_38 : decode cX2_playAll 38 = .ok (.getfield 9, 3) := by decide +kernel
theorem dX2_playAll_41 : decode cX2_playAll 41 = .ok (.invokevirtual 39, 3) := by decide +kernel
theorem dX2_playAll_44 : decode cX2_playAll 44 = .ok (.if_icmp .ge 13, 3) := by decide +kernel
theorem dX2_playAll_47 : decode cX2_playAll 47 = .ok (.aload_n 0, 1) := by decide +kernel
theorem dX2_playAll_48 : decode cX2_playAll 48 = .ok (.invokevirtual 45, 3) := by decide +kernel
theorem dX2_playAll_51 : decode cX2_playAll 51 = .ok (.iinc 2 1, 3) := by decide +kernel
theorem dX2_playAll_54 : decode cX2_playAll 54 = .ok (.goto (-34), 3) := by decide +kernel
theorem dX2_playAll_57 : decode cX2_playAll 57 = .ok (.return_, 1) := by decide +kernel
set_option maxRecDepth 20000 in
theorem ggX2_playEdit_X2_readEdit : GoodIn wsX2_playEdit wsX2_readEdit := goodIn_r _ [9, 10, 1, 11, 12, 13, 14, 15, 16, 17, 18, 19, 20, 21, 22, 23, 8, 24, 25, 26, 27, 28, 29, 30, 31, 32, 33, 34, 35, 36, 37, 38, 39, 40, 41, 42, 43, 44, 45, 107, 108, 109, 110, 111, 112, 113, 114, 115, 116, 117, 118] (by decide +kernel) (by decide +kernel)
set_option maxRecDepth 20000 in
theorem gX2_playEdit_X2_readEdit : GoodIn wsX2_playEdit (wsV RX2 48 RX2 yX2_readEdit wsX2_readEdit) := goodIn_app (goodIn_of _ (by decide +kernel)) ggX2_playEdit_X2_readEdit
set_option maxRecDepth 20000 in
theorem ggX2_playEdit_X2_reasonAgainst : GoodIn wsX2_playEdit wsX2_reasonAgainst := goodIn_r _ [49, 11, 50, 13, 51, 52, 53, 8, 54, 12, 55, 56, 57, 58, 59, 60, 61, 62, 63, 64, 65, 66, 67, 68, 69, 70, 71, 107, 108, 109, 110, 111, 112, 113, 114, 115, 116, 119, 120] (by decide +kernel) (by decide +kernel)
set_option maxRecDepth 20000 in
theorem gX2_playEdit_X2_reasonAgainst : GoodIn wsX2_playEdit (wsV RX2 52 RX2 yX2_reasonAgainst wsX2_reasonAgainst) := goodIn_app (goodIn_of _ (by decide +kernel)) ggX2_playEdit_X2_reasonAgainst
set_option maxRecDepth 20000 in
theorem ggX2_playEdit_X2_perform : GoodIn wsX2_playEdit wsX2_perform := goodIn_r _ [75, 11, 50, 12, 13, 76, 77, 78, 8, 79, 10, 41, 42, 43, 44, 17, 45, 29, 15, 16, 18, 19, 20, 30, 31, 32, 80, 81, 82, 58, 83, 60, 84, 61, 62, 63, 85, 86, 87, 88, 89, 90, 91, 92, 93, 69, 70, 71, 94, 95, 96, 97, 98, 99, 100, 101, 102, 103, 104, 105, 106, 107, 108, 109, 110, 111, 112, 113, 114, 115, 116, 117, 118, 119, 120] (by decide +kernel) (by decide +kernel)
set_option maxRecDepth 20000 in
theorem gX2_playEdit_X2_perform : GoodIn wsX2_playEdit (wsV RX2 55 RX2 yX2_perform wsX2_perform) := goodIn_app (goodIn_of _ (by decide +kernel)) ggX2_playEdit_X2_perform
theorem dX2_playEdit_0 : decode cX2_playEdit 0 = .ok (.aload_n 0, 1) := by decide +kernel
theorem dX2_playEdit_1 : decode cX2_playEdit 1 = .ok (.aload_n 0, 1) := by decide +kernel
theorem dX2_playEdit_2 : decode cX2_playEdit 2 = .ok (.getfield 36, 3) := by decide +kernel
theorem dX2_playEdit_5 : decode cX2_playEdit 5 = .ok (.putfield 22, 3) := by decide +kernel
theorem dX2_playEdit_8 : decode cX2_playEdit 8 = .ok (.aload_n 0, 1) := by decide +kernel
theorem dX2_playEdit_9 : decode cX2_playEdit 9 = .ok (.invokevirtual 48, 3) := by decide +kernel
theorem dX2_playEdit_12 : decode cX2_playEdit 12 = .ok (.ifCond .ne 22, 3) := by decide +kernel
theorem dX2_playEdit_15 : decode cX2_playEdit 15 = .ok (.aload_n 0, 1) := by decide +kernel
theorem dX2_playEdit_16 : decode cX2_playEdit 16 = .ok (.iconst 1, 1) := by decide +kernel
theorem dX2_playEdit_17 : decode cX2_playEdit 17 = .ok (.putfield 26, 3) := by decide +kernel
theorem dX2_playEdit_20 : decode cX2_playEdit 20 = .ok (.aload_n 0, 1) := by decide +kernel
theorem dX2_playEdit_21 : decode cX2_playEdit 21 = .ok (.aload_n 0, 1) := by decide +kernel
theorem dX2_playEdit_22 : decode cX2_playEdit 22 = .ok (.getfield 36, 3) := by decide +kernel
theorem dX2_playEdit_25 : decode cX2_playEdit 25 = .ok (.aload_n 0, 1) := by decide +kernel
theorem dX2_playEdit_26 : decode cX2_playEdit 26 = .ok (.getfield 22, 3) := by decide +kernel
theorem dX2_playEdit_29 : decode cX2_playEdit 29 = .ok (.isub, 1) := by decide +kernel
theorem dX2_playEdit_30 : decode cX2_playEdit 30 = .ok (.putfield 29, 3) := by decide +kernel
theorem dX2_playEdit_33 : decode cX2_playEdit 33 = .ok (.return_, 1) := by decide +kernel
theorem dX2_playEdit_34 : decode cX2_playEdit 34 = .ok (.aload_n 0, 1) := by decide +kernel
theorem dX2_playEdit_35 : decode cX2_playEdit 35 = .ok (.aload_n 0, 1) := by decide +kernel
theorem dX2_playEdit_36 : decode cX2_playEdit 36 = .ok (.invokevirtual 52, 3) := by decide +kernel
theorem dX2_playEdit_39 : decode cX2_playEdit 39 = .ok (.putfield 26, 3) := by decide +kernel
theorem dX2_playEdit_42 : decode cX2_playEdit 42 = .ok (.aload_n 0, 1) := by decide +kernel
theorem dX2_playEdit_43 : decode cX2_playEdit 43 = .ok (.getfield 26, 3) := by decide +kernel
theorem dX2_playEdit_46 : decode cX2_playEdit 46 = .ok (.ifCond .ne 7, 3) := by decide +kernel
theorem dX2_playEdit_49 : decode cX2_playEdit 49 = .ok (.aload_n 0, 1) := by decide +kernel
theorem dX2_playEdit_50 : decode cX2_playEdit 50 = .ok (.invokevirtual 55, 3) := by decide +kernel
theorem dX2_playEdit_53 : decode cX2_playEdit 53 = .ok (.return_, 1) := by decide +kernel
set_option maxRecDepth 20000 in
theorem ggX2_readEdit_X5_at : GoodIn wsX2_readEdit wsX5_at := goodIn_r _ [10, 11, 12, 49, 50] (by decide +kernel) (by decide +kernel)
set_option maxRecDepth 20000 in
theorem gX2_readEdit_X5_at : GoodIn wsX2_readEdit (wsV RX2 58 RX5 yX5_at wsX5_at) := goodIn_app (goodIn_of _ (by decide +kernel)) ggX2_readEdit_X5_at
set_option maxRecDepth 20000 in
theorem ggX2_readEdit_X2_readNumber : GoodIn wsX2_readEdit wsX2_readNumber := goodIn_r _ [17, 1, 2, 18, 19, 20, 9, 21, 22, 7, 8, 10, 11, 12, 23, 24, 25, 39, 40, 41, 42, 43, 44, 45, 46, 47, 48, 49, 50] (by decide +kernel) (by decide +kernel)
set_option maxRecDepth 20000 in
theorem gX2_readEdit_X2_readNumber : GoodIn wsX2_readEdit (wsV RX2 65 RX2 yX2_readNumber wsX2_readNumber) := goodIn_app (goodIn_of _ (by decide +kernel)) ggX2_readEdit_X2_readNumber
set_option maxRecDepth 20000 in
theorem ggX2_readEdit_X2_readSign : GoodIn wsX2_readEdit wsX2_readSign := goodIn_r _ [29, 1, 2, 6, 7, 8, 9, 10, 11, 12, 39, 40, 41, 42, 43, 44, 45, 46, 47, 48, 49, 50] (by decide +kernel) (by decide +kernel)
set_option maxRecDepth 20000 in
theorem gX2_readEdit_X2_readSign : GoodIn wsX2_readEdit (wsV RX2 71 RX2 yX2_readSign wsX2_readSign) := goodIn_app (goodIn_of _ (by decide +kernel)) ggX2_readEdit_X2_readSign
set_option maxRecDepth 20000 in
theorem ggX2_readEdit_X2_readSymbols : GoodIn wsX2_readEdit wsX2_readSymbols := goodIn_r _ [33, 2, 34, 1, 35, 36, 37, 9, 38, 22, 7, 8, 10, 11, 12, 23, 24, 25, 39, 40, 41, 42, 43, 44, 45, 46, 47, 48, 49, 50] (by decide +kernel) (by decide +kernel)
set_option maxRecDepth 20000 in
theorem gX2_readEdit_X2_readSymbols : GoodIn wsX2_readEdit (wsV RX2 75 RX2 yX2_readSymbols wsX2_readSymbols) := goodIn_app (goodIn_of _ (by decide +kernel)) ggX2_readEdit_X2_readSymbols
theorem dX2_readEdit_0 : decode cX2_readEdit 0 = .ok (.aload_n 0, 1) := by decide +kernel
theorem dX2_readEdit_1 : decode cX2_readEdit 1 = .ok (.aload_n 0, 1) := by decide +kernel
theorem dX2_readEdit_2 : decode cX2_readEdit 2 = .ok (.getfield 9, 3) := by decide +kernel
theorem dX2_readEdit_5 : decode cX2_readEdit 5 = .ok (.aload_n 0, 1) := by decide +kernel
theorem dX2_readEdit_6 : decode cX2_readEdit 6 = .ok (.getfield 36, 3) := by decide +kernel
theorem dX2_readEdit_9 : decode cX2_readEdit 9 = .ok (.invokevirtual 58, 3) := by decide +kernel
theorem dX2_readEdit_12 : decode cX2_readEdit 12 = .ok (.putfield 62, 3) := by decide +kernel
theorem dX2_readEdit_15 : decode cX2_readEdit 15 = .ok (.aload_n 0, 1) := by decide +kernel
theorem dX2_readEdit_16 : decode cX2_readEdit 16 = .ok (.getfield 62, 3) := by decide +kernel
theorem dX2_readEdit_19 : decode cX2_readEdit 19 = .ok (.bipush 43, 2) := by decide +kernel
theorem dX2_readEdit_21 : decode cX2_readEdit 21 = .ok (.if_icmp .eq 32, 3) := by decide +kernel
theorem dX2_readEdit_24 : decode cX2_readEdit 24 = .ok (.aload_n 0, 1) := by decide +kernel
theorem dX2_readEdit_25 : decode cX2_readEdit 25 = .ok (.getfield 62, 3) := by decide +kernel
theorem dX2_readEdit_28 : decode cX2_readEdit 28 = .ok (.bipush 45, 2) := by decide +kernel
theorem dX2_readEdit_30 : decode cX2_readEdit 30 = .ok (.if_icmp .eq 23, 3) := by decide +kernel
theorem dX2_readEdit_33 : decode cX2_readEdit 33 = .ok (.aload_n 0, 1) := by decide +kernel
theorem dX2_readEdit_34 : decode cX2_readEdit 34 = .ok (.getfield 62, 3) := by decide +kernel
theorem dX2_readEdit_37 : decode cX2_readEdit 37 = .ok (.bipush 120, 2) := by decide +kernel
theorem dX2_readEdit_39 : decode cX2_readEdit 39 = .ok (.if_icmp .eq 14, 3) := by decide +kernel
theorem dX2_readEdit_42 : decode cX2_readEdit 42 = .ok (.aload_n 0, 1) := by decide +kernel
theorem dX2_readEdit_43 : decode cX2_readEdit 43 = .ok (.getfield 62, 3) := by decide +kernel
theorem dX2_readEdit_46 : decode cX2_readEdit 46 = .ok (.bipush 114, 2) := by decide +kernel
theorem dX2_readEdit_48 : decode cX2_readEdit 48 = .ok (.if_icmp .eq 5, 3) := by decide +kernel
theorem dX2_readEdit_51 : decode cX2_readEdit 51 = .ok (.iconst 0, 1) := by decide +kernel
theorem dX2_readEdit_52 : decode cX2_readEdit 52 = .ok (.ireturn, 1) := by decide +kernel
theorem dX2_readEdit_53 : decode cX2_readEdit 53 = .ok (.aload_n 0, 1) := by decide +kernel
theorem dX2_readEdit_54 : decode cX2_readEdit 54 = .ok (.dup, 1) := by decide +kernel
theorem dX2_readEdit_55 : decode cX2_readEdit 55 = .ok (.getfield 36, 3) := by decide +kernel
theorem dX2_readEdit_58 : decode cX2_readEdit 58 = .ok (.iconst 1, 1) := by decide +kernel
theorem dX2_readEdit_59 : decode cX2_readEdit 59 = .ok (.iadd, 1) := by decide +kernel
theorem dX2_readEdit_60 : decode cX2_readEdit 60 = .ok (.putfield 36, 3) := by decide +kernel
theorem dX2_readEdit_63 : decode cX2_readEdit 63 = .ok (.aload_n 0, 1) := by decide +kernel
theorem dX2_readEdit_64 : decode cX2_readEdit 64 = .ok (.aload_n 0, 1) := by decide +kernel
theorem dX2_readEdit_65 : decode cX2_readEdit 65 = .ok (.invokevirtual 65, 3) := by decide +kernel
theorem dX2_readEdit_68 : decode cX2_readEdit 68 = .ok (.putfield 68, 3) := by decide +kernel
theorem dX2_readEdit_71 : decode cX2_readEdit 71 = .ok (.aload_n 0, 1) := by decide +kernel
theorem dX2_readEdit_72 : decode cX2_readEdit 72 = .ok (.getfield 68, 3) := by decide +kernel
theorem dX2_readEdit_75 : decode cX2_readEdit 75 = .ok (.iconst (-1), 1) := by decide +kernel
theorem dX2_readEdit_76 : decode cX2_readEdit 76 = .ok (.if_icmp .eq 12, 3) := by decide +kernel
theorem dX2_readEdit_79 : decode cX2_readEdit 79 = .ok (.aload_n 0, 1) := by decide +kernel
theorem dX2_readEdit_80 : decode cX2_readEdit 80 = .ok (.bipush 44, 2) := by decide +kernel
theorem dX2_readEdit_82 : decode cX2_readEdit 82 = .ok (.invokevirtual 71, 3) := by decide +kernel
theorem dX2_readEdit_85 : decode cX2_readEdit 85 = .ok (.ifCond .ne 5, 3) := by decide +kernel
theorem dX2_readEdit_88 : decode cX2_readEdit 88 = .ok (.iconst 0, 1) := by decide +kernel
theorem dX2_readEdit_89 : decode cX2_readEdit 89 = .ok (.ireturn, 1) := by decide +kernel
theorem dX2_readEdit_90 : decode cX2_readEdit 90 = .ok (.aload_n 0, 1) := by decide +kernel
theorem dX2_readEdit_91 : decode cX2_readEdit 91 = .ok (.aload_n 0, 1) := by decide +kernel
theorem dX2_readEdit_92 : decode cX2_readEdit 92 = .ok (.getfield 62, 3) := by decide +kernel
theorem dX2_readEdit_95 : decode cX2_readEdit 95 = .ok (.bipush 43, 2) := by decide +kernel
theorem dX2_readEdit_97 : decode cX2_readEdit 97 = .ok (.if_icmp .ne 10, 3) := by decide +kernel
theorem dX2_readEdit_100 : decode cX2_readEdit 100 = .ok (.aload_n 0, 1) := by decide +kernel
theorem dX2_readEdit_101 : decode cX2_readEdit 101 = .ok (.invokevirtual 75, 3) := by decide +kernel
theorem dX2_readEdit_104 : decode cX2_readEdit 104 = .ok (.goto 7, 3) := by decide +kernel
theorem dX2_readEdit_107 : decode cX2_readEdit 107 = .ok (.aload_n 0, 1) := by decide +kernel
theorem dX2_readEdit_108 : decode cX2_readEdit 108 = .ok (.invokevirtual 65, 3) := by decide +kernel
theorem dX2_readEdit_111 : decode cX2_readEdit 111 = .ok (.putfield 78, 3) := by decide +kernel
theorem dX2_readEdit_114 : decode cX2_readEdit 114 = .ok (.aload_n 0, 1) := by decide +kernel
theorem dX2_readEdit_115 : decode cX2_readEdit 115 = .ok (.getfield 78, 3) := by decide +kernel
theorem dX2_readEdit_118 : decode cX2_readEdit 118 = .ok (.iconst (-1), 1) := by decide +kernel
theorem dX2_readEdit_119 : decode cX2_readEdit 119 = .ok (.if_icmp .eq 16, 3) := by decide +kernel
theorem dX2_readEdit_122 : decode cX2_readEdit 122 = .ok (.aload_n 0, 1) := by decide +kernel
theorem dX2_readEdit_123 : decode cX2_readEdit 123 = .ok (.bipush 59, 2) := by decide +kernel
theorem dX2_readEdit_125 : decode cX2_readEdit 125 = .ok (.invokevirtual 71, 3) := by decide +kernel
theorem dX2_readEdit_128 : decode cX2_readEdit 128 = .ok (.ifCond .eq 7, 3) := by decide +kernel
theorem dX2_readEdit_131 : decode cX2_readEdit 131 = .ok (.iconst 1, 1) := by decide +kernel
theorem dX2_readEdit_132 : decode cX2_readEdit 132 = .ok (.goto 4, 3) := by decide +kernel
theorem dX2_readEdit_135 : decode cX2_readEdit 135 = .ok (.iconst 0, 1) := by decide +kernel
theorem dX2_readEdit_136 : decode cX2_readEdit 136 = .ok (.ireturn, 1) := by decide +kernel
set_option maxRecDepth 20000 in
theorem ggX2_readSign_X5_at : GoodIn wsX2_readSign wsX5_at := goodIn_r _ [7, 8, 9, 20, 21] (by decide +kernel) (by decide +kernel)
set_option maxRecDepth 20000 in
theorem gX2_readSign_X5_at : GoodIn wsX2_readSign (wsV RX2 58 RX5 yX5_at wsX5_at) := goodIn_app (goodIn_of _ (by decide +kernel)) ggX2_readSign_X5_at
theorem dX2_readSign_0 : decode cX2_readSign 0 = .ok (.aload_n 0, 1) := by decide +kernel
theorem dX2_readSign_1 : decode cX2_readSign 1 = .ok (.getfield 9, 3) := by decide +kernel
theorem dX2_readSign_4 : decode cX2_readSign 4 = .ok (.aload_n 0, 1) := by decide +kernel
theorem dX2_readSign_5 : decode cX2_readSign 5 = .ok (.getfield 36, 3) := by decide +kernel
theorem dX2_readSign_8 : decode cX2_readSign 8 = .ok (.invokevirtual 58, 3) := by decide +kernel
theorem dX2_readSign_11 : decode cX2_readSign 11 = .ok (.iload_n 1, 1) := by decide +kernel
theorem dX2_readSign_12 : decode cX2_readSign 12 = .ok (.if_icmp .eq 5, 3) := by decide +kernel
theorem dX2_readSign_15 : decode cX2_readSign 15 = .ok (.iconst 0, 1) := by decide +kernel
theorem dX2_readSign_16 : decode cX2_readSign 16 = .ok (.ireturn, 1) := by decide +kernel
theorem dX2_readSign_17 : decode cX2_readSign 17 = .ok (.aload_n 0, 1) := by decide +kernel
theorem dX2_readSign_18 : decode cX2_readSign 18 = .ok (.dup, 1) := by decide +kernel
theorem dX2_readSign_19 : decode cX2_readSign 19 = .ok (.getfield 36, 3) := by decide +kernel
theorem dX2_readSign_22 : decode cX2_readSign 22 = .ok (.iconst 1, 1) := by decide +kernel
theorem dX2_readSign_23 : decode cX2_readSign 23 = .ok (.iadd, 1) := by decide +kernel
theorem dX2_readSign_24 : decode cX2_readSign 24 = .ok (.putfield 36, 3) := by decide +kernel
theorem dX2_readSign_27 : decode cX2_readSign 27 = .ok (.iconst 1, 1) := by decide +kernel
theorem dX2_readSign_28 : decode cX2_readSign 28 = .ok (.ireturn, 1) := by decide +kernel
set_option maxRecDepth 20000 in
theorem ggX2_readNumber_X5_digitAt : GoodIn wsX2_readNumber wsX5_digitAt := goodIn_r _ [7, 8, 9, 10, 6, 11, 12, 13, 14, 15, 16, 27, 28] (by decide +kernel) (by decide +kernel)
set_option maxRecDepth 20000 in
theorem gX2_readNumber_X5_digitAt : GoodIn wsX2_readNumber (wsV RX2 81 RX5 yX5_digitAt wsX5_digitAt) := goodIn_app (goodIn_of _ (by decide +kernel)) ggX2_readNumber_X5_digitAt
theorem dX2_readNumber_0 : decode cX2_readNumber 0 = .ok (.aload_n 0, 1) := by decide +kernel
theorem dX2_readNumber_1 : decode cX2_readNumber 1 = .ok (.getfield 9, 3) := by decide +kernel
theorem dX2_readNumber_4 : decode cX2_readNumber 4 = .ok (.aload_n 0, 1) := by decide +kernel
theorem dX2_readNumber_5 : decode cX2_readNumber 5 = .ok (.getfield 36, 3) := by decide +kernel
theorem dX2_readNumber_8 : decode cX2_readNumber 8 = .ok (.invokevirtual 81, 3) := by decide +kernel
theorem dX2_readNumber_11 : decode cX2_readNumber 11 = .ok (.istore_n 1, 1) := by decide +kernel
theorem dX2_readNumber_12 : decode cX2_readNumber 12 = .ok (.iload_n 1, 1) := by decide +kernel
theorem dX2_readNumber_13 : decode cX2_readNumber 13 = .ok (.iconst (-1), 1) := by decide +kernel
theorem dX2_readNumber_14 : decode cX2_readNumber 14 = .ok (.if_icmp .ne 5, 3) := by decide +kernel
theorem dX2_readNumber_17 : decode cX2_readNumber 17 = .ok (.iconst (-1), 1) := by decide +kernel
theorem dX2_readNumber_18 : decode cX2_readNumber 18 = .ok (.ireturn, 1) := by decide +kernel
theorem dX2_readNumber_19 : decode cX2_readNumber 19 = .ok (.aload_n 0, 1) := by decide +kernel
theorem dX2_readNumber_20 : decode cX2_readNumber 20 = .ok (.dup, 1) := by decide +kernel
theorem dX2_readNumber_21 : decode cX2_readNumber 21 = .ok (.getfield 36, 3) := by decide +kernel
theorem dX2_readNumber_24 : decode cX2_readNumber 24 = .ok (.iconst 1, 1) := by decide +kernel
theorem dX2_readNumber_25 : decode cX2_readNumber 25 = .ok (.iadd, 1) := by decide +kernel
theorem dX2_readNumber_26 : decode cX2_readNumber 26 = .ok (.putfield 36, 3) := by decide +kernel
theorem dX2_readNumber_29 : decode cX2_readNumber 29 = .ok (.aload_n 0, 1) := by decide +kernel
theorem dX2_readNumber_30 : decode cX2_readNumber 30 = .ok (.getfield 9, 3) := by decide +kernel
theorem dX2_readNumber_33 : decode cX2_readNumber 33 = .ok (.aload_n 0, 1) := by decide +kernel
theorem dX2_readNumber_34 : decode cX2_readNumber 34 = .ok (.getfield 36, 3) := by decide +kernel
theorem dX2_readNumber_37 : decode cX2_readNumber 37 = .ok (.invokevirtual 81, 3) := by decide +kernel
theorem dX2_readNumber_40 : decode cX2_readNumber 40 = .ok (.istore_n 2, 1) := by decide +kernel
theorem dX2_readNumber_41 : decode cX2_readNumber 41 = .ok (.iload_n 2, 1) := by decide +kernel
theorem dX2_readNumber_42 : decode cX2_readNumber 42 = .ok (.iconst (-1), 1) := by decide +kernel
theorem dX2_readNumber_43 : decode cX2_readNumber 43 = .ok (.if_icmp .ne 5, 3) := by decide +kernel
theorem dX2_readNumber_46 : decode cX2_readNumber 46 = .ok (.iload_n 1, 1) := by decide +kernel
theorem dX2_readNumber_47 : decode cX2_readNumber 47 = .ok (.ireturn, 1) := by decide +kernel
theorem dX2_readNumber_48 : decode cX2_readNumber 48 = .ok (.aload_n 0, 1) := by decide +kernel
theorem dX2_readNumber_49 : decode cX2_readNumber 49 = .ok (.dup, 1) := by decide +kernel
theorem dX2_readNumber_50 : decode cX2_readNumber 50 = .ok (.getfield 36, 3) := by decide +kernel
theorem dX2_readNumber_53 : decode cX2_readNumber 53 = .ok (.iconst 1, 1) := by decide +kernel
theorem dX2_readNumber_54 : decode cX2_readNumber 54 = .ok (.iadd, 1) := by decide +kernel
theorem dX2_readNumber_55 : decode cX2_readNumber 55 = .ok (.putfield 36, 3) := by decide +kernel
theorem dX2_readNumber_58 : decode cX2_readNumber 58 = .ok (.iload_n 1, 1) := by decide +kernel
theorem dX2_readNumber_59 : decode cX2_readNumber 59 = .ok (.bipush 10, 2) := by decide +kernel
theorem dX2_readNumber_61 : decode cX2_readNumber 61 = .ok (.imul, 1) := by decide +kernel
theorem dX2_readNumber_62 : decode cX2_readNumber 62 = .ok (.iload_n 2, 1) := by decide +kernel
theorem dX2_readNumber_63 : decode cX2_readNumber 63 = .ok (.iadd, 1) := by decide +kernel
theorem dX2_readNumber_64 : decode cX2_readNumber 64 = .ok (.ireturn, 1) := by decide +kernel
set_option maxRecDepth 20000 in
theorem ggX2_readSymbols_X5_symbolValueAt : GoodIn wsX2_readSymbols wsX5_symbolValueAt := goodIn_r _ [8, 9, 10, 11, 7, 12, 13, 14, 15, 16, 17, 28, 29] (by decide +kernel) (by decide +kernel)
set_option maxRecDepth 20000 in
theorem gX2_readSymbols_X5_symbolValueAt : GoodIn wsX2_readSymbols (wsV RX2 87 RX5 yX5_symbolValueAt wsX5_symbolValueAt) := goodIn_app (goodIn_of _ (by decide +kernel)) ggX2_readSymbols_X5_symbolValueAt
theorem dX2_readSymbols_0 : decode cX2_readSymbols 0 = .ok (.aload_n 0, 1) := by decide +kernel
theorem dX2_readSymbols_1 : decode cX2_readSymbols 1 = .ok (.aload_n 0, 1) := by decide +kernel
theorem dX2_readSymbols_2 : decode cX2_readSymbols 2 = .ok (.getfield 36, 3) := by decide +kernel
theorem dX2_readSymbols_5 : decode cX2_readSymbols 5 = .ok (.putfield 84, 3) := by decide +kernel
theorem dX2_readSymbols_8 : decode cX2_readSymbols 8 = .ok (.iconst 0, 1) := by decide +kernel
theorem dX2_readSymbols_9 : decode cX2_readSymbols 9 = .ok (.istore_n 1, 1) := by decide +kernel
theorem dX2_readSymbols_10 : decode cX2_readSymbols 10 = .ok (.iload_n 1, 1) := by decide +kernel
theorem dX2_readSymbols_11 : decode cX2_readSymbols 11 = .ok (.bipush 60, 2) := by decide +kernel
theorem dX2_readSymbols_13 : decode cX2_readSymbols 13 = .ok (.if_icmp .ge 34, 3) := by decide +kernel
theorem dX2_readSymbols_16 : decode cX2_readSymbols 16 = .ok (.aload_n 0, 1) := by decide +kernel
theorem dX2_readSymbols_17 : decode cX2_readSymbols 17 = .ok (.getfield 9, 3) := by decide +kernel
theorem dX2_readSymbols_20 : decode cX2_readSymbols 20 = .ok (.aload_n 0, 1) := by decide +kernel
theorem dX2_readSymbols_21 : decode cX2_readSymbols 21 = .ok (.getfield 36, 3) := by decide +kernel
theorem dX2_readSymbols_24 : decode cX2_readSymbols 24 = .ok (.invokevirtual 87, 3) := by decide +kernel
theorem dX2_readSymbols_27 : decode cX2_readSymbols 27 = .ok (.iconst (-1), 1) := by decide +kernel
theorem dX2_readSymbols_28 : decode cX2_readSymbols 28 = .ok (.if_icmp .eq 19, 3) := by decide +kernel
theorem dX2_readSymbols_31 : decode cX2_readSymbols 31 = .ok (.aload_n 0, 1) := by decide +kernel
theorem dX2_readSymbols_32 : decode cX2_readSymbols 32 = .ok (.dup, 1) := by decide +kernel
theorem dX2_readSymbols_33 : decode cX2_readSymbols 33 = .ok (.getfield 36, 3) := by decide +kernel
theorem dX2_readSymbols_36 : decode cX2_readSymbols 36 = .ok (.iconst 1, 1) := by decide +kernel
theorem dX2_readSymbols_37 : decode cX2_readSymbols 37 = .ok (.iadd, 1) := by decide +kernel
theorem dX2_readSymbols_38 : decode cX2_readSymbols 38 = .ok (.putfield 36, 3) := by decide +kernel
theorem dX2_readSymbols_41 : decode cX2_readSymbols 41 = .ok (.iinc 1 1, 3) := by decide +kernel
theorem dX2_readSymbols_44 : decode cX2_readSymbols 44 = .ok (.goto (-34), 3) := by decide +kernel
theorem dX2_readSymbols_47 : decode cX2_readSymbols 47 = .ok (.aload_n 0, 1) := by decide +kernel
theorem dX2_readSymbols_48 : decode cX2_readSymbols 48 = .ok (.getfield 36, 3) := by decide +kernel
theorem dX2_readSymbols_51 : decode cX2_readSymbols 51 = .ok (.aload_n 0, 1) := by decide +kernel
theorem dX2_readSymbols_52 : decode cX2_readSymbols 52 = .ok (.getfield 84, 3) := by decide +kernel
theorem dX2_readSymbols_55 : decode cX2_readSymbols 55 = .ok (.if_icmp .le 15, 3) := by decide +kernel
theorem dX2_readSymbols_58 : decode cX2_readSymbols 58 = .ok (.aload_n 0, 1) := by decide +kernel
theorem dX2_readSymbols_59 : decode cX2_readSymbols 59 = .ok (.getfield 36, 3) := by decide +kernel
theorem dX2_readSymbols_62 : decode cX2_readSymbols 62 = .ok (.aload_n 0, 1) := by decide +kernel
theorem dX2_readSymbols_63 : decode cX2_readSymbols 63 = .ok (.getfield 84, 3) := by decide +kernel
theorem dX2_readSymbols_66 : decode cX2_readSymbols 66 = .ok (.isub, 1) := by decide +kernel
theorem dX2_readSymbols_67 : decode cX2_readSymbols 67 = .ok (.goto 4, 3) := by decide +kernel
theorem dX2_readSymbols_70 : decode cX2_readSymbols 70 = .ok (.iconst (-1), 1) := by decide +kernel
theorem dX2_readSymbols_71 : decode cX2_readSymbols 71 = .ok (.ireturn, 1) := by decide +kernel
set_option maxRecDepth 20000 in
theorem ggX2_reasonAgainst_X2_hasPlaces : GoodIn wsX2_reasonAgainst wsX2_hasPlaces := goodIn_r _ [8, 1, 9, 2, 3, 10, 11, 12, 13, 14, 15, 16, 17, 18, 19, 20, 21, 22, 23, 24, 25, 26, 27, 28, 29, 30, 31, 32, 33, 34, 35, 36, 37, 38] (by decide +kernel) (by decide +kernel)
set_option maxRecDepth 20000 in
theorem gX2_reasonAgainst_X2_hasPlaces : GoodIn wsX2_reasonAgainst (wsV RX2 90 RX2 yX2_hasPlaces wsX2_hasPlaces) := goodIn_app (goodIn_of _ (by decide +kernel)) ggX2_reasonAgainst_X2_hasPlaces
set_option maxRecDepth 20000 in
theorem ggX2_reasonAgainst_X3_size : GoodIn wsX2_reasonAgainst wsX3_size := goodIn_r _ [14, 15, 37, 38] (by decide +kernel) (by decide +kernel)
set_option maxRecDepth 20000 in
theorem gX2_reasonAgainst_X3_size : GoodIn wsX2_reasonAgainst (wsV RX2 93 RX3 yX3_size wsX3_size) := goodIn_app (goodIn_of _ (by decide +kernel)) ggX2_reasonAgainst_X3_size
theorem dX2_reasonAgainst_0 : decode cX2_reasonAgainst 0 = .ok (.aload_n 0, 1) := by decide +kernel
theorem dX2_reasonAgainst_1 : decode cX2_reasonAgainst 1 = .ok (.invokevirtual 90, 3) := by decide +kernel
theorem dX2_reasonAgainst_4 : decode cX2_reasonAgainst 4 = .ok (.ifCond .ne 5, 3) := by decide +kernel
theorem dX2_reasonAgainst_7 : decode cX2_reasonAgainst 7 = .ok (.iconst 2, 1) := by decide +kernel
theorem dX2_reasonAgainst_8 : decode cX2_reasonAgainst 8 = .ok (.ireturn, 1) := by decide +kernel
theorem dX2_reasonAgainst_9 : decode cX2_reasonAgainst 9 = .ok (.aload_n 0, 1) := by decide +kernel
theorem dX2_reasonAgainst_10 : decode cX2_reasonAgainst 10 = .ok (.getfield 62, 3) := by decide +kernel
theorem dX2_reasonAgainst_13 : decode cX2_reasonAgainst 13 = .ok (.bipush 43, 2) := by decide +kernel
theorem dX2_reasonAgainst_15 : decode cX2_reasonAgainst 15 = .ok (.if_icmp .ne 24, 3) := by decide +kernel
theorem dX2_reasonAgainst_18 : decode cX2_reasonAgainst 18 = .ok (.aload_n 0, 1) := by decide +kernel
theorem dX2_reasonAgainst_19 : decode cX2_reasonAgainst 19 = .ok (.getfield 18, 3) := by decide +kernel
theorem dX2_reasonAgainst_22 : decode cX2_reasonAgainst 22 = .ok (.invokevirtual 93, 3) := by decide +kernel
theorem dX2_reasonAgainst_25 : decode cX2_reasonAgainst 25 = .ok (.aload_n 0, 1) := by decide +kernel
theorem dX2_reasonAgainst_26 : decode cX2_reasonAgainst 26 = .ok (.getfield 78, 3) := by decide +kernel
theorem dX2_reasonAgainst_29 : decode cX2_reasonAgainst 29 = .ok (.iadd, 1) := by decide +kernel
theorem dX2_reasonAgainst_30 : decode cX2_reasonAgainst 30 = .ok (.bipush 60, 2) := by decide +kernel
theorem dX2_reasonAgainst_32 : decode cX2_reasonAgainst 32 = .ok (.if_icmp .le 7, 3) := by decide +kernel
theorem dX2_reasonAgainst_35 : decode cX2_reasonAgainst 35 = .ok (.iconst 3, 1) := by decide +kernel
theorem dX2_reasonAgainst_36 : decode cX2_reasonAgainst 36 = .ok (.goto 4, 3) := by decide +kernel
theorem dX2_reasonAgainst_39 : decode cX2_reasonAgainst 39 = .ok (.iconst 0, 1) := by decide +kernel
theorem dX2_reasonAgainst_40 : decode cX2_reasonAgainst 40 = .ok (.ireturn, 1) := by decide +kernel
set_option maxRecDepth 20000 in
theorem ggX2_hasPlaces_X3_size : GoodIn wsX2_hasPlaces wsX3_size := goodIn_r _ [9, 10, 32, 33] (by decide +kernel) (by decide +kernel)
set_option maxRecDepth 20000 in
theorem gX2_hasPlaces_X3_size : GoodIn wsX2_hasPlaces (wsV RX2 93 RX3 yX3_size wsX3_size) := goodIn_app (goodIn_of _ (by decide +kernel)) ggX2_hasPlaces_X3_size
set_option maxRecDepth 20000 in
theorem ggX2_hasPlaces_X6_isAtMost : GoodIn wsX2_hasPlaces wsX6_isAtMost := goodIn_r _ [13] (by decide +kernel) (by decide +kernel)
set_option maxRecDepth 20000 in
theorem gX2_hasPlaces_X6_isAtMost_n96 : GoodIn wsX2_hasPlaces (wsX6_isAtMost) := ggX2_hasPlaces_X6_isAtMost
set_option maxRecDepth 20000 in
theorem ggX2_hasPlaces_X3_hasSpan : GoodIn wsX2_hasPlaces wsX3_hasSpan := goodIn_r _ [17, 10, 32, 33] (by decide +kernel) (by decide +kernel)
set_option maxRecDepth 20000 in
theorem gX2_hasPlaces_X3_hasSpan : GoodIn wsX2_hasPlaces (wsV RX2 100 RX3 yX3_hasSpan wsX3_hasSpan) := goodIn_app (goodIn_of _ (by decide +kernel)) ggX2_hasPlaces_X3_hasSpan
set_option maxRecDepth 20000 in
theorem ggX2_hasPlaces_X3_hasPlace : GoodIn wsX2_hasPlaces wsX3_hasPlace := goodIn_r _ [21, 10, 32, 33] (by decide +kernel) (by decide +kernel)
set_option maxRecDepth 20000 in
theorem gX2_hasPlaces_X3_hasPlace : GoodIn wsX2_hasPlaces (wsV RX2 103 RX3 yX3_hasPlace wsX3_hasPlace) := goodIn_app (goodIn_of _ (by decide +kernel)) ggX2_hasPlaces_X3_hasPlace
theorem dX2_hasPlaces_0 : decode cX2_hasPlaces 0 = .ok (.aload_n 0, 1) := by decide +kernel
theorem dX2_hasPlaces_1 : decode cX2_hasPlaces 1 = .ok (.getfield 62, 3) := by decide +kernel
theorem dX2_hasPlaces_4 : decode cX2_hasPlaces 4 = .ok (.lookupswitch 106 #[(43, 36), (45, 51), (120, 72)], 36) := by decide +kernel
theorem dX2_hasPlaces_40 : decode cX2_hasPlaces 40 = .ok (.aload_n 0, 1) := by decide +kernel
theorem dX2_hasPlaces_41 : decode cX2_hasPlaces 41 = .ok (.getfield 68, 3) := by decide +kernel
theorem dX2_hasPlaces_44 : decode cX2_hasPlaces 44 = .ok (.aload_n 0, 1) := by decide +kernel
theorem dX2_hasPlaces_45 : decode cX2_hasPlaces 45 = .ok (.getfield 18, 3) := by decide +kernel
theorem dX2_hasPlaces_48 : decode cX2_hasPlaces 48 = .ok (.invokevirtual 93, 3) := by decide +kernel
theorem dX2_hasPlaces_51 : decode cX2_hasPlaces 51 = .ok (.invokestatic 96, 3) := by decide +kernel
theorem dX2_hasPlaces_54 : decode cX2_hasPlaces 54 = .ok (.ireturn, 1) := by decide +kernel
theorem dX2_hasPlaces_55 : decode cX2_hasPlaces 55 = .ok (.aload_n 0, 1) := by decide +kernel
theorem dX2_hasPlaces_56 : decode cX2_hasPlaces 56 = .ok (.getfield 18, 3) := by decide +kernel
theorem dX2_hasPlaces_59 : decode cX2_hasPlaces 59 = .ok (.aload_n 0, 1) := by decide +kernel
theorem dX2_hasPlaces_60 : decode cX2_hasPlaces 60 = .ok (.getfield 68, 3) := by decide +kernel
theorem dX2_hasPlaces_63 : decode cX2_hasPlaces 63 = .ok (.aload_n 0, 1) := by decide +kernel
theorem dX2_hasPlaces_64 : decode cX2_hasPlaces 64 = .ok (.getfield 68, 3) := by decide +kernel
theorem dX2_hasPlaces_67 : decode cX2_hasPlaces 67 = .ok (.aload_n 0, 1) := by decide +kernel
theorem dX2_hasPlaces_68 : decode cX2_hasPlaces 68 = .ok (.getfield 78, 3) := by decide +kernel
theorem dX2_hasPlaces_71 : decode cX2_hasPlaces 71 = .ok (.iadd, 1) := by decide +kernel
theorem dX2_hasPlaces_72 : decode cX2_hasPlaces 72 = .ok (.invokevirtual 100, 3) := by decide +kernel
theorem dX2_hasPlaces_75 : decode cX2_hasPlaces 75 = .ok (.ireturn, 1) := by decide +kernel
theorem dX2_hasPlaces_76 : decode cX2_hasPlaces 76 = .ok (.aload_n 0, 1) := by decide +kernel
theorem dX2_hasPlaces_77 : decode cX2_hasPlaces 77 = .ok (.getfield 18, 3) := by decide +kernel
theorem dX2_hasPlaces_80 : decode cX2_hasPlaces 80 = .ok (.aload_n 0, 1) := by decide +kernel
theorem dX2_hasPlaces_81 : decode cX2_hasPlaces 81 = .ok (.getfield 68, 3) := by decide +kernel
theorem dX2_hasPlaces_84 : decode cX2_hasPlaces 84 = .ok (.invokevirtual 103, 3) := by decide +kernel
theorem dX2_hasPlaces_87 : decode cX2_hasPlaces 87 = .ok (.ifCond .eq 21, 3) := by decide +kernel
theorem dX2_hasPlaces_90 : decode cX2_hasPlaces 90 = .ok (.aload_n 0, 1) := by decide +kernel
theorem dX2_hasPlaces_91 : decode cX2_hasPlaces 91 = .ok (.getfield 18, 3) := by decide +kernel
theorem dX2_hasPlaces_94 : decode cX2_hasPlaces 94 = .ok (.aload_n 0, 1) := by decide +kernel
theorem dX2_hasPlaces_95 : decode cX2_hasPlaces 95 = .ok (.getfield 78, 3) := by decide +kernel
theorem dX2_hasPlaces_98 : decode cX2_hasPlaces 98 = .ok (.invokevirtual 103, 3) := by decide +kernel
theorem dX2_hasPlaces_101 : decode cX2_hasPlaces 101 = .ok (.ifCond .eq 7, 3) := by decide +kernel
theorem dX2_hasPlaces_104 : decode cX2_hasPlaces 104 = .ok (.iconst 1, 1) := by decide +kernel
theorem dX2_hasPlaces_105 : decode cX2_hasPlaces 105 = .ok (.goto 4, 3) := by decide +kernel
theorem dX2_hasPlaces_108 : decode cX2_hasPlaces 108 = .ok (.iconst 0, 1) := by decide +kernel
theorem dX2_hasPlaces_109 : decode cX2_hasPlaces 109 = .ok (.ireturn, 1) := by decide +kernel
theorem dX2_hasPlaces_110 : decode cX2_hasPlaces 110 = .ok (.aload_n 0, 1) := by decide +kernel
theorem dX2_hasPlaces_111 : decode cX2_hasPlaces 111 = .ok (.getfield 18, 3) := by decide +kernel
theorem dX2_hasPlaces_114 : decode cX2_hasPlaces 114 = .ok (.aload_n 0, 1) := by decide +kernel
theorem dX2_hasPlaces_115 : decode cX2_hasPlaces 115 = .ok (.getfield 68, 3) := by decide +kernel
theorem dX2_hasPlaces_118 : decode cX2_hasPlaces 118 = .ok (.aload_n 0, 1) := by decide +kernel
theorem dX2_hasPlaces_119 : decode cX2_hasPlaces 119 = .ok (.getfield 78, 3) := by decide +kernel
theorem dX2_hasPlaces_122 : decode cX2_hasPlaces 122 = .ok (.invokevirtual 100, 3) := by decide +kernel
theorem dX2_hasPlaces_125 : decode cX2_hasPlaces 125 = .ok (.ireturn, 1) := by decide +kernel
set_option maxRecDepth 20000 in
theorem ggX2_perform_X2_putSymbolsIn : GoodIn wsX2_perform wsX2_putSymbolsIn := goodIn_r _ [9, 4, 2, 3, 10, 11, 12, 13, 14, 15, 16, 17, 18, 19, 20, 21, 22, 23, 24, 25, 26, 27, 28, 29, 30, 31, 32, 33, 34, 35, 61, 62, 63, 64, 65, 66, 67, 68, 69, 70, 71, 72, 73, 74] (by decide +kernel) (by decide +kernel)
set_option maxRecDepth 20000 in
theorem gX2_perform_X2_putSymbolsIn : GoodIn wsX2_perform (wsV RX2 107 RX2 yX2_putSymbolsIn wsX2_putSymbolsIn) := goodIn_app (goodIn_of _ (by decide +kernel)) ggX2_perform_X2_putSymbolsIn
set_option maxRecDepth 20000 in
theorem ggX2_perform_X2_takeSpanOut : GoodIn wsX2_perform wsX2_takeSpanOut := goodIn_r _ [39, 4, 2, 3, 40, 41, 42, 29, 43, 31, 32, 44, 45, 46, 47, 61, 62, 63, 64, 65, 66, 67, 68, 69, 70, 73, 74] (by decide +kernel) (by decide +kernel)
set_option maxRecDepth 20000 in
theorem gX2_perform_X2_takeSpanOut : GoodIn wsX2_perform (wsV RX2 110 RX2 yX2_takeSpanOut wsX2_takeSpanOut) := goodIn_app (goodIn_of _ (by decide +kernel)) ggX2_perform_X2_takeSpanOut
set_option maxRecDepth 20000 in
theorem ggX2_perform_X3_exchange : GoodIn wsX2_perform wsX3_exchange := goodIn_r _ [51, 32, 52, 53, 54, 29, 55, 44, 45, 46, 47, 31, 73, 74] (by decide +kernel) (by decide +kernel)
set_option maxRecDepth 20000 in
theorem gX2_perform_X3_exchange : GoodIn wsX2_perform (wsV RX2 113 RX3 yX3_exchange wsX3_exchange) := goodIn_app (goodIn_of _ (by decide +kernel)) ggX2_perform_X3_exchange
set_option maxRecDepth 20000 in
theorem ggX2_perform_X3_reverse : GoodIn wsX2_perform wsX3_reverse := goodIn_r _ [59, 52, 53, 54, 29, 55, 32, 44, 45, 46, 47, 31, 60, 49, 50, 51, 73, 74] (by decide +kernel) (by decide +kernel)
set_option maxRecDepth 20000 in
theorem gX2_perform_X3_reverse : GoodIn wsX2_perform (wsV RX2 117 RX3 yX3_reverse wsX3_reverse) := goodIn_app (goodIn_of _ (by decide +kernel)) ggX2_perform_X3_reverse
theorem dX2_perform_0 : decode cX2_perform 0 = .ok (.aload_n 0, 1) := by decide +kernel
theorem dX2_perform_1 : decode cX2_perform 1 = .ok (.getfield 62, 3) := by decide +kernel
theorem dX2_perform_4 : decode cX2_perform 4 = .ok (.lookupswitch 68 #[(43, 36), (45, 43), (120, 50)], 36) := by decide +kernel
theorem dX2_perform_40 : decode cX2_perform 40 = .ok (.aload_n 0, 1) := by decide +kernel
theorem dX2_perform_41 : decode cX2_perform 41 = .ok (.invokevirtual 107, 3) := by decide +kernel
theorem dX2_perform_44 : decode cX2_perform 44 = .ok (.goto 44, 3) := by decide +kernel
theorem dX2_perform_47 : decode cX2_perform 47 = .ok (.aload_n 0, 1) := by decide +kernel
theorem dX2_perform_48 : decode cX2_perform 48 = .ok (.invokevirtual 110, 3) := by decide +kernel
theorem dX2_perform_51 : decode cX2_perform 51 = .ok (.goto 37, 3) := by decide +kernel
theorem dX2_perform_54 : decode cX2_perform 54 = .ok (.aload_n 0, 1) := by decide +kernel
theorem dX2_perform_55 : decode cX2_perform 55 = .ok (.getfield 18, 3) := by decide +kernel
theorem dX2_perform_58 : decode cX2_perform 58 = .ok (.aload_n 0, 1) := by decide +kernel
theorem dX2_perform_59 : decode cX2_perform 59 = .ok (.getfield 68, 3) := by decide +kernel
theorem dX2_perform_62 : decode cX2_perform 62 = .ok (.aload_n 0, 1) := by decide +kernel
theorem dX2_perform_63 : decode cX2_perform 63 = .ok (.getfield 78, 3) := by decide +kernel
theorem dX2_perform_66 : decode cX2_perform 66 = .ok (.invokevirtual 113, 3) := by decide +kernel
theorem dX2_perform_69 : decode cX2_perform 69 = .ok (.goto 19, 3) := by decide +kernel
theorem dX2_perform_72 : decode cX2_perform 72 = .ok (.aload_n 0, 1) := by decide +kernel
theorem dX2_perform_73 : decode cX2_perform 73 = .ok (.getfield 18, 3) := by decide +kernel
theorem dX2_perform_76 : decode cX2_perform 76 = .ok (.aload_n 0, 1) := by decide +kernel
theorem dX2_perform_77 : decode cX2_perform 77 = .ok (.getfield 68, 3) := by decide +kernel
theorem dX2_perform_80 : decode cX2_perform 80 = .ok (.aload_n 0, 1) := by decide +kernel
theorem dX2_perform_81 : decode cX2_perform 81 = .ok (.getfield 78, 3) := by decide +kernel
theorem dX2_perform_84 : decode cX2_perform 84 = .ok (.invokevirtual 117, 3) := by decide +kernel
theorem dX2_perform_87 : decode cX2_perform 87 = .ok (.pop, 1) := by decide +kernel
theorem dX2_perform_88 : decode cX2_perform 88 = .ok (.return_, 1) := by decide +kernel
set_option maxRecDepth 20000 in
theorem ggX2_putSymbolsIn_X5_symbolValueAt : GoodIn wsX2_putSymbolsIn wsX5_symbolValueAt := goodIn_r _ [10, 11, 12, 13, 9, 14, 15, 16, 17, 18, 19, 40, 41] (by decide +kernel) (by decide +kernel)
set_option maxRecDepth 20000 in
theorem gX2_putSymbolsIn_X5_symbolValueAt : GoodIn wsX2_putSymbolsIn (wsV RX2 87 RX5 yX5_symbolValueAt wsX5_symbolValueAt) := goodIn_app (goodIn_of _ (by decide +kernel)) ggX2_putSymbolsIn_X5_symbolValueAt
set_option maxRecDepth 20000 in
theorem ggX2_putSymbolsIn_X3_insert : GoodIn wsX2_putSymbolsIn wsX3_insert := goodIn_r _ [24, 25, 26, 27, 28, 29, 42, 43] (by decide +kernel) (by decide +kernel)
set_option maxRecDepth 20000 in
theorem gX2_putSymbolsIn_X3_insert : GoodIn wsX2_putSymbolsIn (wsV RX2 121 RX3 yX3_insert wsX3_insert) := goodIn_app (goodIn_of _ (by decide +kernel)) ggX2_putSymbolsIn_X3_insert
theorem dX2_putSymbolsIn_0 : decode cX2_putSymbolsIn 0 = .ok (.iconst 0, 1) := by decide +kernel
theorem dX2_putSymbolsIn_1 : decode cX2_putSymbolsIn 1 = .ok (.istore_n 1, 1) := by decide +kernel
theorem dX2_putSymbolsIn_2 : decode cX2_putSymbolsIn 2 = .ok (.iload_n 1, 1) := by decide +kernel
theorem dX2_putSymbolsIn_3 : decode cX2_putSymbolsIn 3 = .ok (.aload_n 0, 1) := by decide +kernel
theorem dX2_putSymbolsIn_4 : decode cX2_putSymbolsIn 4 = .ok (.getfield 78, 3) := by decide +kernel
theorem dX2_putSymbolsIn_7 : decode cX2_putSymbolsIn 7 = .ok (.if_icmp .ge 35, 3) := by decide +kernel
theorem dX2_putSymbolsIn_10 : decode cX2_putSymbolsIn 10 = .ok (.aload_n 0, 1) := by decide +kernel
theorem dX2_putSymbolsIn_11 : decode cX2_putSymbolsIn 11 = .ok (.getfield 18, 3) := by decide +kernel
theorem dX2_putSymbolsIn_14 : decode cX2_putSymbolsIn 14 = .ok (.aload_n 0, 1) := by decide +kernel
theorem dX2_putSymbolsIn_15 : decode cX2_putSymbolsIn 15 = .ok (.getfield 68, 3) := by decide +kernel
theorem dX2_putSymbolsIn_18 : decode cX2_putSymbolsIn 18 = .ok (.iload_n 1, 1) := by decide +kernel
theorem dX2_putSymbolsIn_19 : decode cX2_putSymbolsIn 19 = .ok (.iadd, 1) := by decide +kernel
theorem dX2_putSymbolsIn_20 : decode cX2_putSymbolsIn 20 = .ok (.aload_n 0, 1) := by decide +kernel
theorem dX2_putSymbolsIn_21 : decode cX2_putSymbolsIn 21 = .ok (.getfield 9, 3) := by decide +kernel
theorem dX2_putSymbolsIn_24 : decode cX2_putSymbolsIn 24 = .ok (.aload_n 0, 1) := by decide +kernel
theorem dX2_putSymbolsIn_25 : decode cX2_putSymbolsIn 25 = .ok (.getfield 84, 3) := by decide +kernel
theorem dX2_putSymbolsIn_28 : decode cX2_putSymbolsIn 28 = .ok (.iload_n 1, 1) := by decide +kernel
theorem dX2_putSymbolsIn_29 : decode cX2_putSymbolsIn 29 = .ok (.iadd, 1) := by decide +kernel
theorem dX2_putSymbolsIn_30 : decode cX2_putSymbolsIn 30 = .ok (.invokevirtual 87, 3) := by decide +kernel
theorem dX2_putSymbolsIn_33 : decode cX2_putSymbolsIn 33 = .ok (.invokevirtual 121, 3) := by decide +kernel
theorem dX2_putSymbolsIn_36 : decode cX2_putSymbolsIn 36 = .ok (.iinc 1 1, 3) := by decide +kernel
theorem dX2_putSymbolsIn_39 : decode cX2_putSymbolsIn 39 = .ok (.goto (-37), 3) := by decide +kernel
theorem dX2_putSymbolsIn_42 : decode cX2_putSymbolsIn 42 = .ok (.return_, 1) := by decide +kernel
set_option maxRecDepth 20000 in
theorem ggX2_takeSpanOut_X3_remove : GoodIn wsX2_takeSpanOut wsX3_remove := goodIn_r _ [8, 9, 10, 11, 12, 13, 7, 14, 25, 26] (by decide +kernel) (by decide +kernel)
set_option maxRecDepth 20000 in
theorem gX2_takeSpanOut_X3_remove : GoodIn wsX2_takeSpanOut (wsV RX2 124 RX3 yX3_remove wsX3_remove) := goodIn_app (goodIn_of _ (by decide +kernel)) ggX2_takeSpanOut_X3_remove
theorem dX2_takeSpanOut_0 : decode cX2_takeSpanOut 0 = .ok (.iconst 0, 1) := by decide +kernel
theorem dX2_takeSpanOut_1 : decode cX2_takeSpanOut 1 = .ok (.istore_n 1, 1) := by decide +kernel
theorem dX2_takeSpanOut_2 : decode cX2_takeSpanOut 2 = .ok (.iload_n 1, 1) := by decide +kernel
theorem dX2_takeSpanOut_3 : decode cX2_takeSpanOut 3 = .ok (.aload_n 0, 1) := by decide +kernel
theorem dX2_takeSpanOut_4 : decode cX2_takeSpanOut 4 = .ok (.getfield 78, 3) := by decide +kernel
theorem dX2_takeSpanOut_7 : decode cX2_takeSpanOut 7 = .ok (.if_icmp .ge 20, 3) := by decide +kernel
theorem dX2_takeSpanOut_10 : decode cX2_takeSpanOut 10 = .ok (.aload_n 0, 1) := by decide +kernel
theorem dX2_takeSpanOut_11 : decode cX2_takeSpanOut 11 = .ok (.getfield 18, 3) := by decide +kernel
theorem dX2_takeSpanOut_14 : decode cX2_takeSpanOut 14 = .ok (.aload_n 0, 1) := by decide +kernel
theorem dX2_takeSpanOut_15 : decode cX2_takeSpanOut 15 = .ok (.getfield 68, 3) := by decide +kernel
theorem dX2_takeSpanOut_18 : decode cX2_takeSpanOut 18 = .ok (.invokevirtual 124, 3) := by decide +kernel
theorem dX2_takeSpanOut_21 : decode cX2_takeSpanOut 21 = .ok (.iinc 1 1, 3) := by decide +kernel
theorem dX2_takeSpanOut_24 : decode cX2_takeSpanOut 24 = .ok (.goto (-22), 3) := by decide +kernel
theorem dX2_takeSpanOut_27 : decode cX2_takeSpanOut 27 = .ok (.return_, 1) := by decide +kernel
theorem dX3_init_0 : decode cX3_init 0 = .ok (.aload_n 0, 1) := by decide +kernel
theorem dX3_init_1 : decode cX3_init 1 = .ok (.invokespecial 3, 3) := by decide +kernel
theorem dX3_init_4 : decode cX3_init 4 = .ok (.aload_n 0, 1) := by decide +kernel
theorem dX3_init_5 : decode cX3_init 5 = .ok (.bipush 60, 2) := by decide +kernel
theorem dX3_init_7 : decode cX3_init 7 = .ok (.newarray .int, 2) := by decide +kernel
theorem dX3_init_9 : decode cX3_init 9 = .ok (.putfield 9, 3) := by decide +kernel
theorem dX3_init_12 : decode cX3_init 12 = .ok (.aload_n 0, 1) := by decide +kernel
theorem dX3_init_13 : decode cX3_init 13 = .ok (.iconst 0, 1) := by decide +kernel
theorem dX3_init_14 : decode cX3_init 14 = .ok (.putfield 15, 3) := by decide +kernel
theorem dX3_init_17 : decode cX3_init 17 = .ok (.return_, 1) := by decide +kernel
theorem dX3_size_0 : decode cX3_size 0 = .ok (.aload_n 0, 1) := by decide +kernel
theorem dX3_size_1 : decode cX3_size 1 = .ok (.getfield 15, 3) := by decide +kernel
theorem dX3_size_4 : decode cX3_size 4 = .ok (.ireturn, 1) := by decide +kernel
theorem dX3_hasPlace_0 : decode cX3_hasPlace 0 = .ok (.iload_n 1, 1) := by decide +kernel
theorem dX3_hasPlace_1 : decode cX3_hasPlace 1 = .ok (.ifCond .lt 15, 3) := by decide +kernel
theorem dX3_hasPlace_4 : decode cX3_hasPlace 4 = .ok (.iload_n 1, 1) := by decide +kernel
theorem dX3_hasPlace_5 : decode cX3_hasPlace 5 = .ok (.aload_n 0, 1) := by decide +kernel
theorem dX3_hasPlace_6 : decode cX3_hasPlace 6 = .ok (.getfield 15, 3) := by decide +kernel
theorem dX3_hasPlace_9 : decode cX3_hasPlace 9 = .ok (.if_icmp .ge 7, 3) := by decide +kernel
theorem dX3_hasPlace_12 : decode cX3_hasPlace 12 = .ok (.iconst 1, 1) := by decide +kernel
theorem dX3_hasPlace_13 : decode cX3_hasPlace 13 = .ok (.goto 4, 3) := by decide +kernel
theorem dX3_hasPlace_16 : decode cX3_hasPlace 16 = .ok (.iconst 0, 1) := by decide +kernel
theorem dX3_hasPlace_17 : decode cX3_hasPlace 17 = .ok (.ireturn, 1) := by decide +kernel
theorem dX3_hasSpan_0 : decode cX3_hasSpan 0 = .ok (.iload_n 1, 1) := by decide +kernel
theorem dX3_hasSpan_1 : decode cX3_hasSpan 1 = .ok (.ifCond .lt 20, 3) := by decide +kernel
theorem dX3_hasSpan_4 : decode cX3_hasSpan 4 = .ok (.iload_n 1, 1) := by decide +kernel
theorem dX3_hasSpan_5 : decode cX3_hasSpan 5 = .ok (.iload_n 2, 1) := by decide +kernel
theorem dX3_hasSpan_6 : decode cX3_hasSpan 6 = .ok (.if_icmp .gt 15, 3) := by decide +kernel
theorem dX3_hasSpan_9 : decode cX3_hasSpan 9 = .ok (.iload_n 2, 1) := by decide +kernel
theorem dX3_hasSpan_10 : decode cX3_hasSpan 10 = .ok (.aload_n 0, 1) := by decide +kernel
theorem dX3_hasSpan_11 : decode cX3_hasSpan 11 = .ok (.getfield 15, 3) := by decide +kernel
theorem dX3_hasSpan_14 : decode cX3_hasSpan 14 = .ok (.if_icmp .gt 7, 3) := by decide +kernel
theorem dX3_hasSpan_17 : decode cX3_hasSpan 17 = .ok (.iconst 1, 1) := by decide +kernel
theorem dX3_hasSpan_18 : decode cX3_hasSpan 18 = .ok (.goto 4, 3) := by decide +kernel
theorem dX3_hasSpan_21 : decode cX3_hasSpan 21 = .ok (.iconst 0, 1) := by decide +kernel
theorem dX3_hasSpan_22 : decode cX3_hasSpan 22 = .ok (.ireturn, 1) := by decide +kernel
set_option maxRecDepth 20000 in
theorem ggX3_at_X3_hasPlace : GoodIn wsX3_at wsX3_hasPlace := goodIn_r _ [6, 7, 8, 9] (by decide +kernel) (by decide +kernel)
set_option maxRecDepth 20000 in
theorem gX3_at_X3_hasPlace : GoodIn wsX3_at (wsV RX3 19 RX3 yX3_hasPlace wsX3_hasPlace) := goodIn_app (goodIn_of _ (by decide +kernel)) ggX3_at_X3_hasPlace
theorem dX3_at_0 : decode cX3_at 0 = .ok (.aload_n 0, 1) := by decide +kernel
theorem dX3_at_1 : decode cX3_at 1 = .ok (.iload_n 1, 1) := by decide +kernel
theorem dX3_at_2 : decode cX3_at 2 = .ok (.invokevirtual 19, 3) := by decide +kernel
theorem dX3_at_5 : decode cX3_at 5 = .ok (.ifCond .eq 12, 3) := by decide +kernel
theorem dX3_at_8 : decode cX3_at 8 = .ok (.aload_n 0, 1) := by decide +kernel
theorem dX3_at_9 : decode cX3_at 9 = .ok (.getfield 9, 3) := by decide +kernel
theorem dX3_at_12 : decode cX3_at 12 = .ok (.iload_n 1, 1) := by decide +kernel
theorem dX3_at_13 : decode cX3_at 13 = .ok (.iaload, 1) := by decide +kernel
theorem dX3_at_14 : decode cX3_at 14 = .ok (.goto 4, 3) := by decide +kernel
theorem dX3_at_17 : decode cX3_at 17 = .ok (.iconst (-1), 1) := by decide +kernel
theorem dX3_at_18 : decode cX3_at 18 = .ok (.ireturn, 1) := by decide +kernel
set_option maxRecDepth 20000 in
theorem ggX3_insert_X6_isAtMost : GoodIn wsX3_insert wsX6_isAtMost := goodIn_r _ [5] (by decide +kernel) (by decide +kernel)
set_option maxRecDepth 20000 in
theorem gX3_insert_X6_isAtMost_n23 : GoodIn wsX3_insert (wsX6_isAtMost) := ggX3_insert_X6_isAtMost
theorem dX3_insert_0 : decode cX3_insert 0 = .ok (.iload_n 1, 1) := by decide +kernel
theorem dX3_insert_1 : decode cX3_insert 1 = .ok (.aload_n 0, 1) := by decide +kernel
theorem dX3_insert_2 : decode cX3_insert 2 = .ok (.getfield 15, 3) := by decide +kernel
theorem dX3_insert_5 : decode cX3_insert 5 = .ok (.invokestatic 23, 3) := by decide +kernel
theorem dX3_insert_8 : decode cX3_insert 8 = .ok (.ifCond .eq 12, 3) := by decide +kernel
theorem dX3_insert_11 : decode cX3_insert 11 = .ok (.aload_n 0, 1) := by decide +kernel
theorem dX3_insert_12 : decode cX3_insert 12 = .ok (.getfield 15, 3) := by decide +kernel
theorem dX3_insert_15 : decode cX3_insert 15 = .ok (.bipush 60, 2) := by decide +kernel
theorem dX3_insert_17 : decode cX3_insert 17 = .ok (.if_icmp .lt 4, 3) := by decide +kernel
theorem dX3_insert_20 : decode cX3_insert 20 = .ok (.return_, 1) := by decide +kernel
theorem dX3_insert_21 : decode cX3_insert 21 = .ok (.aload_n 0, 1) := by decide +kernel
theorem dX3_insert_22 : decode cX3_insert 22 = .ok (.getfield 15, 3) := by decide +kernel
theorem dX3_insert_25 : decode cX3_insert 25 = .ok (.istore_n 3, 1) := by decide +kernel
theorem dX3_insert_26 : decode cX3_insert 26 = .ok (.iload_n 3, 1) := by decide +kernel
theorem dX3_insert_27 : decode cX3_insert 27 = .ok (.iload_n 1, 1) := by decide +kernel
theorem dX3_insert_28 : decode cX3_insert 28 = .ok (.if_icmp .le 23, 3) := by decide +kernel
theorem dX3_insert_31 : decode cX3_insert 31 = .ok (.aload_n 0, 1) := by decide +kernel
theorem dX3_insert_32 : decode cX3_insert 32 = .ok (.getfield 9, 3) := by decide +kernel
theorem dX3_insert_35 : decode cX3_insert 35 = .ok (.iload_n 3, 1) := by decide +kernel
theorem dX3_insert_36 : decode cX3_insert 36 = .ok (.aload_n 0, 1) := by decide +kernel
theorem dX3_insert_37 : decode cX3_insert 37 = .ok (.getfield 9, 3) := by decide +kernel
theorem dX3_insert_40 : decode cX3_insert 40 = .ok (.iload_n 3, 1) := by decide +kernel
theorem dX3_insert_41 : decode cX3_insert 41 = .ok (.iconst 1, 1) := by decide +kernel
theorem dX3_insert_42 : decode cX3_insert 42 = .ok (.isub, 1) := by decide +kernel
theorem dX3_insert_43 : decode cX3_insert 43 = .ok (.iaload, 1) := by decide +kernel
theorem dX3_insert_44 : decode cX3_insert 44 = .ok (.iastore, 1) := by decide +kernel
theorem dX3_insert_45 : decode cX3_insert 45 = .ok (.iinc 3 (-1), 3) := by decide +kernel
theorem dX3_insert_48 : decode cX3_insert 48 = .ok (.goto (-22), 3) := by decide +kernel
theorem dX3_insert_51 : decode cX3_insert 51 = .ok (.aload_n 0, 1) := by decide +kernel
theorem dX3_insert_52 : decode cX3_insert 52 = .ok (.getfield 9, 3) := by decide +kernel
theorem dX3_insert_55 : decode cX3_insert 55 = .ok (.iload_n 1, 1) := by decide +kernel
theorem dX3_insert_56 : decode cX3_insert 56 = .ok (.iload_n 2, 1) := by decide +kernel
theorem dX3_insert_57 : decode cX3_insert 57 = .ok (.iastore, 1) := by decide +kernel
theorem dX3_insert_58 : decode cX3_insert 58 = .ok (.aload_n 0, 1) := by decide +kernel
theorem dX3_insert_59 : decode cX3_insert 59 = .ok (.dup, 1) := by decide +kernel
theorem dX3_insert_60 : decode cX3_insert 60 = .ok (.getfield 15, 3) := by decide +kernel
theorem dX3_insert_63 : decode cX3_insert 63 = .ok (.iconst 1, 1) := by decide +kernel
theorem dX3_insert_64 : decode cX3_insert 64 = .ok (.iadd, 1) := by decide +kernel
theorem dX3_insert_65 : decode cX3_insert 65 = .ok (.putfield 15, 3) := by decide +kernel
theorem dX3_insert_68 : decode cX3_insert 68 = .ok (.return_, 1) := by decide +kernel
set_option maxRecDepth 20000 in
theorem ggX3_remove_X3_hasPlace : GoodIn wsX3_remove wsX3_hasPlace := goodIn_r _ [7, 1, 8, 9] (by decide +kernel) (by decide +kernel)
set_option maxRecDepth 20000 in
theorem gX3_remove_X3_hasPlace : GoodIn wsX3_remove (wsV RX3 19 RX3 yX3_hasPlace wsX3_hasPlace) := goodIn_app (goodIn_of _ (by decide +kernel)) ggX3_remove_X3_hasPlace
theorem dX3_remove_0 : decode cX3_remove 0 = .ok (.aload_n 0, 1) := by decide +kernel
theorem dX3_remove_1 : decode cX3_remove 1 = .ok (.iload_n 1, 1) := by decide +kernel
theorem dX3_remove_2 : decode cX3_remove 2 = .ok (.invokevirtual 19, 3) := by decide +kernel
theorem dX3_remove_5 : decode cX3_remove 5 = .ok (.ifCond .ne 4, 3) := by decide +kernel
theorem dX3_remove_8 : decode cX3_remove 8 = .ok (.return_, 1) := by decide +kernel
theorem dX3_remove_9 : decode cX3_remove 9 = .ok (.iload_n 1, 1) := by decide +kernel
theorem dX3_remove_10 : decode cX3_remove 10 = .ok (.iconst 1, 1) := by decide +kernel
theorem dX3_remove_11 : decode cX3_remove 11 = .ok (.iadd, 1) := by decide +kernel
theorem dX3_remove_12 : decode cX3_remove 12 = .ok (.istore_n 2, 1) := by decide +kernel
theorem dX3_remove_13 : decode cX3_remove 13 = .ok (.iload_n 2, 1) := by decide +kernel
theorem dX3_remove_14 : decode cX3_remove 14 = .ok (.aload_n 0, 1) := by decide +kernel
theorem dX3_remove_15 : decode cX3_remove 15 = .ok (.getfield 15, 3) := by decide +kernel
theorem dX3_remove_18 : decode cX3_remove 18 = .ok (.if_icmp .ge 23, 3) := by decide +kernel
theorem dX3_remove_21 : decode cX3_remove 21 = .ok (.aload_n 0, 1) := by decide +kernel
theorem dX3_remove_22 : decode cX3_remove 22 = .ok (.getfield 9, 3) := by decide +kernel
theorem dX3_remove_25 : decode cX3_remove 25 = .ok (.iload_n 2, 1) := by decide +kernel
theorem dX3_remove_26 : decode cX3_remove 26 = .ok (.iconst 1, 1) := by decide +kernel
theorem dX3_remove_27 : decode cX3_remove 27 = .ok (.isub, 1) := by decide +kernel
theorem dX3_remove_28 : decode cX3_remove 28 = .ok (.aload_n 0, 1) := by decide +kernel
theorem dX3_remove_29 : decode cX3_remove 29 = .ok (.getfield 9, 3) := by decide +kernel
theorem dX3_remove_32 : decode cX3_remove 32 = .ok (.iload_n 2, 1) := by decide +kernel
theorem dX3_remove_33 : decode cX3_remove 33 = .ok (.iaload, 1) := by decide +kernel
theorem dX3_remove_34 : decode cX3_remove 34 = .ok (.iastore, 1) := by decide +kernel
theorem dX3_remove_35 : decode cX3_remove 35 = .ok (.iinc 2 1, 3) := by decide +kernel
theorem dX3_remove_38 : decode cX3_remove 38 = .ok (.goto (-25), 3) := by decide +kernel
theorem dX3_remove_41 : decode cX3_remove 41 = .ok (.aload_n 0, 1) := by decide +kernel
theorem dX3_remove_42 : decode cX3_remove 42 = .ok (.dup, 1) := by decide +kernel
theorem dX3_remove_43 : decode cX3_remove 43 = .ok (.getfield 15, 3) := by decide +kernel
theorem dX3_remove_46 : decode cX3_remove 46 = .ok (.iconst 1, 1) := by decide +kernel
theorem dX3_remove_47 : decode cX3_remove 47 = .ok (.isub, 1) := by decide +kernel
theorem dX3_remove_48 : decode cX3_remove 48 = .ok (.putfield 15, 3) := by decide +kernel
theorem dX3_remove_51 : decode cX3_remove 51 = .ok (.return_, 1) := by decide +kernel
set_option maxRecDepth 20000 in
theorem ggX3_replace_X3_hasPlace : GoodIn wsX3_replace wsX3_hasPlace := goodIn_r _ [6, 7, 8, 9] (by decide +kernel) (by decide +kernel)
set_option maxRecDepth 20000 in
theorem gX3_replace_X3_hasPlace : GoodIn wsX3_replace (wsV RX3 19 RX3 yX3_hasPlace wsX3_hasPlace) := goodIn_app (goodIn_of _ (by decide +kernel)) ggX3_replace_X3_hasPlace
theorem dX3_replace_0 : decode cX3_replace 0 = .ok (.aload_n 0, 1) := by decide +kernel
theorem dX3_replace_1 : decode cX3_replace 1 = .ok (.iload_n 1, 1) := by decide +kernel
theorem dX3_replace_2 : decode cX3_replace 2 = .ok (.invokevirtual 19, 3) := by decide +kernel
theorem dX3_replace_5 : decode cX3_replace 5 = .ok (.ifCond .eq 10, 3) := by decide +kernel
theorem dX3_replace_8 : decode cX3_replace 8 = .ok (.aload_n 0, 1) := by decide +kernel
theorem dX3_replace_9 : decode cX3_replace 9 = .ok (.getfield 9, 3) := by decide +kernel
theorem dX3_replace_12 : decode cX3_replace 12 = .ok (.iload_n 1, 1) := by decide +kernel
theorem dX3_replace_13 : decode cX3_replace 13 = .ok (.iload_n 2, 1) := by decide +kernel
theorem dX3_replace_14 : decode cX3_replace 14 = .ok (.iastore, 1) := by decide +kernel
theorem dX3_replace_15 : decode cX3_replace 15 = .ok (.return_, 1) := by decide +kernel
set_option maxRecDepth 20000 in
theorem ggX3_exchange_X3_at : GoodIn wsX3_exchange wsX3_at := goodIn_r _ [6, 1, 7, 8, 9, 5, 10, 11, 12, 13] (by decide +kernel) (by decide +kernel)
set_option maxRecDepth 20000 in
theorem gX3_exchange_X3_at : GoodIn wsX3_exchange (wsV RX3 27 RX3 yX3_at wsX3_at) := goodIn_app (goodIn_of _ (by decide +kernel)) ggX3_exchange_X3_at
set_option maxRecDepth 20000 in
theorem ggX3_exchange_X3_hasPlace : GoodIn wsX3_exchange wsX3_hasPlace := goodIn_r _ [10, 11, 12, 13] (by decide +kernel) (by decide +kernel)
set_option maxRecDepth 20000 in
theorem gX3_exchange_X3_hasPlace : GoodIn wsX3_exchange (wsV RX3 19 RX3 yX3_hasPlace wsX3_hasPlace) := goodIn_app (goodIn_of _ (by decide +kernel)) ggX3_exchange_X3_hasPlace
theorem dX3_exchange_0 : decode cX3_exchange 0 = .ok (.aload_n 0, 1) := by decide +kernel
theorem dX3_exchange_1 : decode cX3_exchange 1 = .ok (.iload_n 1, 1) := by decide +kernel
theorem dX3_exchange_2 : decode cX3_exchange 2 = .ok (.invokevirtual 27, 3) := by decide +kernel
theorem dX3_exchange_5 : decode cX3_exchange 5 = .ok (.istore_n 3, 1) := by decide +kernel
theorem dX3_exchange_6 : decode cX3_exchange 6 = .ok (.aload_n 0, 1) := by decide +kernel
theorem dX3_exchange_7 : decode cX3_exchange 7 = .ok (.iload_n 1, 1) := by decide +kernel
theorem dX3_exchange_8 : decode cX3_exchange 8 = .ok (.invokevirtual 19, 3) := by decide +kernel
theorem dX3_exchange_11 : decode cX3_exchange 11 = .ok (.ifCond .eq 30, 3) := by decide +kernel
theorem dX3_exchange_14 : decode cX3_exchange 14 = .ok (.aload_n 0, 1) := by decide +kernel
theorem dX3_exchange_15 : decode cX3_exchange 15 = .ok (.iload_n 2, 1) := by decide +kernel
theorem dX3_exchange_16 : decode cX3_exchange 16 = .ok (.invokevirtual 19, 3) := by decide +kernel
theorem dX3_exchange_19 : decode cX3_exchange 19 = .ok (.ifCond .eq 22, 3) := by decide +kernel
theorem dX3_exchange_22 : decode cX3_exchange 22 = .ok (.aload_n 0, 1) := by decide +kernel
theorem dX3_exchange_23 : decode cX3_exchange 23 = .ok (.getfield 9, 3) := by decide +kernel
theorem dX3_exchange_26 : decode cX3_exchange 26 = .ok (.iload_n 1, 1) := by decide +kernel
theorem dX3_exchange_27 : decode cX3_exchange 27 = .ok (.aload_n 0, 1) := by decide +kernel
theorem dX3_exchange_28 : decode cX3_exchange 28 = .ok (.getfield 9, 3) := by decide +kernel
theorem dX3_exchange_31 : decode cX3_exchange 31 = .ok (.iload_n 2, 1) := by decide +kernel
theorem dX3_exchange_32 : decode cX3_exchange 32 = .ok (.iaload, 1) := by decide +kernel
theorem dX3_exchange_33 : decode cX3_exchange 33 = .ok (.iastore, 1) := by decide +kernel
theorem dX3_exchange_34 : decode cX3_exchange 34 = .ok (.aload_n 0, 1) := by decide +kernel
theorem dX3_exchange_35 : decode cX3_exchange 35 = .ok (.getfield 9, 3) := by decide +kernel
theorem dX3_exchange_38 : decode cX3_exchange 38 = .ok (.iload_n 2, 1) := by decide +kernel
theorem dX3_exchange_39 : decode cX3_exchange 39 = .ok (.iload_n 3, 1) := by decide +kernel
theorem dX3_exchange_40 : decode cX3_exchange 40 = .ok (.iastore, 1) := by decide +kernel
theorem dX3_exchange_41 : decode cX3_exchange 41 = .ok (.return_, 1) := by decide +kernel
set_option maxRecDepth 20000 in
theorem ggX3_reverse_X3_at : GoodIn wsX3_reverse wsX3_at := goodIn_r _ [5, 6, 7, 8, 9, 4, 10, 11, 16, 17] (by decide +kernel) (by decide +kernel)
set_option maxRecDepth 20000 in
theorem gX3_reverse_X3_at : GoodIn wsX3_reverse (wsV RX3 27 RX3 yX3_at wsX3_at) := goodIn_app (goodIn_of _ (by decide +kernel)) ggX3_reverse_X3_at
set_option maxRecDepth 20000 in
theorem ggX3_reverse_X3_exchange : GoodIn wsX3_reverse wsX3_exchange := goodIn_r _ [15, 6, 1, 2, 3, 4, 5, 7, 8, 9, 10, 11, 16, 17] (by decide +kernel) (by decide +kernel)
set_option maxRecDepth 20000 in
theorem gX3_reverse_X3_exchange : GoodIn wsX3_reverse (wsV RX3 31 RX3 yX3_exchange wsX3_exchange) := goodIn_app (goodIn_of _ (by decide +kernel)) ggX3_reverse_X3_exchange
theorem dX3_reverse_0 : decode cX3_reverse 0 = .ok (.iconst 0, 1) := by decide +kernel
theorem dX3_reverse_1 : decode cX3_reverse 1 = .ok (.istore_n 3, 1) := by decide +kernel
theorem dX3_reverse_2 : decode cX3_reverse 2 = .ok (.iload_n 2, 1) := by decide +kernel
theorem dX3_reverse_3 : decode cX3_reverse 3 = .ok (.iconst 1, 1) := by decide +kernel
theorem dX3_reverse_4 : decode cX3_reverse 4 = .ok (.isub, 1) := by decide +kernel
theorem dX3_reverse_5 : decode cX3_reverse 5 = .ok (.istore 4, 2) := by decide +kernel
theorem dX3_reverse_7 : decode cX3_reverse 7 = .ok (.iload_n 1, 1) := by decide +kernel
theorem dX3_reverse_8 : decode cX3_reverse 8 = .ok (.istore 5, 2) := by decide +kernel
theorem dX3_reverse_10 : decode cX3_reverse 10 = .ok (.iload 5, 2) := by decide +kernel
theorem dX3_reverse_12 : decode cX3_reverse 12 = .ok (.iload 4, 2) := by decide +kernel
theorem dX3_reverse_14 : decode cX3_reverse 14 = .ok (.if_icmp .ge 38, 3) := by decide +kernel
theorem dX3_reverse_17 : decode cX3_reverse 17 = .ok (.aload_n 0, 1) := by decide +kernel
theorem dX3_reverse_18 : decode cX3_reverse 18 = .ok (.iload 5, 2) := by decide +kernel
theorem dX3_reverse_20 : decode cX3_reverse 20 = .ok (.invokevirtual 27, 3) := by decide +kernel
theorem dX3_reverse_23 : decode cX3_reverse 23 = .ok (.aload_n 0, 1) := by decide +kernel
theorem dX3_reverse_24 : decode cX3_reverse 24 = .ok (.iload 4, 2) := by decide +kernel
theorem dX3_reverse_26 : decode cX3_reverse 26 = .ok (.invokevirtual 27, 3) := by decide +kernel
theorem dX3_reverse_29 : decode cX3_reverse 29 = .ok (.if_icmp .eq 6, 3) := by decide +kernel
theorem dX3_reverse_32 : decode cX3_reverse 32 = .ok (.iinc 3 2, 3) := by decide +kernel
theorem dX3_reverse_35 : decode cX3_reverse 35 = .ok (.aload_n 0, 1) := by decide +kernel
theorem dX3_reverse_36 : decode cX3_reverse 36 = .ok (.iload 5, 2) := by decide +kernel
theorem dX3_reverse_38 : decode cX3_reverse 38 = .ok (.iload 4, 2) := by decide +kernel
theorem dX3_reverse_40 : decode cX3_reverse 40 = .ok (.invokevirtual 31, 3) := by decide +kernel
theorem dX3_reverse_43 : decode cX3_reverse 43 = .ok (.iinc 4 (-1), 3) := by decide +kernel
theorem dX3_reverse_46 : decode cX3_reverse 46 = .ok (.iinc 5 1, 3) := by decide +kernel
theorem dX3_reverse_49 : decode cX3_reverse 49 = .ok (.goto (-39), 3) := by decide +kernel
theorem dX3_reverse_52 : decode cX3_reverse 52 = .ok (.iload_n 3, 1) := by decide +kernel
theorem dX3_reverse_53 : decode cX3_reverse 53 = .ok (.ireturn, 1) := by decide +kernel
set_option maxRecDepth 20000 in
theorem ggX3_layOut_X4_symbolAtSorted : GoodIn wsX3_layOut wsX4_symbolAtSorted := goodIn_r _ [5, 6, 22] (by decide +kernel) (by decide +kernel)
set_option maxRecDepth 20000 in
theorem gX3_layOut_X4_symbolAtSorted : GoodIn wsX3_layOut (wsV RX3 35 RX4 yX4_symbolAtSorted wsX4_symbolAtSorted) := goodIn_app (goodIn_of _ (by decide +kernel)) ggX3_layOut_X4_symbolAtSorted
set_option maxRecDepth 20000 in
theorem ggX3_layOut_X3_at : GoodIn wsX3_layOut wsX3_at := goodIn_r _ [11, 12, 13, 14, 15, 10, 16, 17, 23, 24] (by decide +kernel) (by decide +kernel)
set_option maxRecDepth 20000 in
theorem gX3_layOut_X3_at : GoodIn wsX3_layOut (wsV RX3 27 RX3 yX3_at wsX3_at) := goodIn_app (goodIn_of _ (by decide +kernel)) ggX3_layOut_X3_at
set_option maxRecDepth 20000 in
theorem ggX3_layOut_X3_replace : GoodIn wsX3_layOut wsX3_replace := goodIn_r _ [21, 12, 13, 14, 15, 10, 16, 17, 23, 24] (by decide +kernel) (by decide +kernel)
set_option maxRecDepth 20000 in
theorem gX3_layOut_X3_replace : GoodIn wsX3_layOut (wsV RX3 40 RX3 yX3_replace wsX3_replace) := goodIn_app (goodIn_of _ (by decide +kernel)) ggX3_layOut_X3_replace
theorem dX3_layOut_0 : decode cX3_layOut 0 = .ok (.iconst 0, 1) := by decide +kernel
theorem dX3_layOut_1 : decode cX3_layOut 1 = .ok (.istore 4, 2) := by decide +kernel
theorem dX3_layOut_3 : decode cX3_layOut 3 = .ok (.iload_n 1, 1) := by decide +kernel
theorem dX3_layOut_4 : decode cX3_layOut 4 = .ok (.istore 5, 2) := by decide +kernel
theorem dX3_layOut_6 : decode cX3_layOut 6 = .ok (.iload 5, 2) := by decide +kernel
theorem dX3_layOut_8 : decode cX3_layOut 8 = .ok (.iload_n 2, 1) := by decide +kernel
theorem dX3_layOut_9 : decode cX3_layOut 9 = .ok (.if_icmp .ge 41, 3) := by decide +kernel
theorem dX3_layOut_12 : decode cX3_layOut 12 = .ok (.aload_n 3, 1) := by decide +kernel
theorem dX3_layOut_13 : decode cX3_layOut 13 = .ok (.iload 5, 2) := by decide +kernel
theorem dX3_layOut_15 : decode cX3_layOut 15 = .ok (.iload_n 1, 1) := by decide +kernel
theorem dX3_layOut_16 : decode cX3_layOut 16 = .ok (.isub, 1) := by decide +kernel
theorem dX3_layOut_17 : decode cX3_layOut 17 = .ok (.invokevirtual 35, 3) := by decide +kernel
theorem dX3_layOut_20 : decode cX3_layOut 20 = .ok (.istore 6, 2) := by decide +kernel
theorem dX3_layOut_22 : decode cX3_layOut 22 = .ok (.iload 6, 2) := by decide +kernel
theorem dX3_layOut_24 : decode cX3_layOut 24 = .ok (.aload_n 0, 1) := by decide +kernel
theorem dX3_layOut_25 : decode cX3_layOut 25 = .ok (.iload 5, 2) := by decide +kernel
theorem dX3_layOut_27 : decode cX3_layOut 27 = .ok (.invokevirtual 27, 3) := by decide +kernel
theorem dX3_layOut_30 : decode cX3_layOut 30 = .ok (.if_icmp .eq 6, 3) := by decide +kernel
theorem dX3_layOut_33 : decode cX3_layOut 33 = .ok (.iinc 4 1, 3) := by decide +kernel
theorem dX3_layOut_36 : decode cX3_layOut 36 = .ok (.aload_n 0, 1) := by decide +kernel
theorem dX3_layOut_37 : decode cX3_layOut 37 = .ok (.iload 5, 2) := by decide +kernel
theorem dX3_layOut_39 : decode cX3_layOut 39 = .ok (.iload 6, 2) := by decide +kernel
theorem dX3_layOut_41 : decode cX3_layOut 41 = .ok (.invokevirtual 40, 3) := by decide +kernel
theorem dX3_layOut_44 : decode cX3_layOut 44 = .ok (.iinc 5 1, 3) := by decide +kernel
theorem dX3_layOut_47 : decode cX3_layOut 47 = .ok (.goto (-41), 3) := by decide +kernel
theorem dX3_layOut_50 : decode cX3_layOut 50 = .ok (.iload 4, 2) := by decide +kernel
theorem dX3_layOut_52 : decode cX3_layOut 52 = .ok (.ireturn, 1) := by decide +kernel
set_option maxRecDepth 20000 in
theorem ggX3_sum_X3_at : GoodIn wsX3_sum wsX3_at := goodIn_r _ [5, 6, 7, 8, 9, 4, 10, 11, 12, 13] (by decide +kernel) (by decide +kernel)
set_option maxRecDepth 20000 in
theorem gX3_sum_X3_at : GoodIn wsX3_sum (wsV RX3 27 RX3 yX3_at wsX3_at) := goodIn_app (goodIn_of _ (by decide +kernel)) ggX3_sum_X3_at
theorem dX3_sum_0 : decode cX3_sum 0 = .ok (.iconst 0, 1) := by decide +kernel
theorem dX3_sum_1 : decode cX3_sum 1 = .ok (.istore_n 3, 1) := by decide +kernel
theorem dX3_sum_2 : decode cX3_sum 2 = .ok (.iload_n 1, 1) := by decide +kernel
theorem dX3_sum_3 : decode cX3_sum 3 = .ok (.istore 4, 2) := by decide +kernel
theorem dX3_sum_5 : decode cX3_sum 5 = .ok (.iload 4, 2) := by decide +kernel
theorem dX3_sum_7 : decode cX3_sum 7 = .ok (.iload_n 2, 1) := by decide +kernel
theorem dX3_sum_8 : decode cX3_sum 8 = .ok (.if_icmp .ge 18, 3) := by decide +kernel
theorem dX3_sum_11 : decode cX3_sum 11 = .ok (.iload_n 3, 1) := by decide +kernel
theorem dX3_sum_12 : decode cX3_sum 12 = .ok (.aload_n 0, 1) := by decide +kernel
theorem dX3_sum_13 : decode cX3_sum 13 = .ok (.iload 4, 2) := by decide +kernel
theorem dX3_sum_15 : decode cX3_sum 15 = .ok (.invokevirtual 27, 3) := by decide +kernel
theorem dX3_sum_18 : decode cX3_sum 18 = .ok (.iadd, 1) := by decide +kernel
theorem dX3_sum_19 : decode cX3_sum 19 = .ok (.istore_n 3, 1) := by decide +kernel
theorem dX3_sum_20 : decode cX3_sum 20 = .ok (.iinc 4 1, 3) := by decide +kernel
theorem dX3_sum_23 : decode cX3_sum 23 = .ok (.goto (-18), 3) := by decide +kernel
theorem dX3_sum_26 : decode cX3_sum 26 = .ok (.iload_n 3, 1) := by decide +kernel
theorem dX3_sum_27 : decode cX3_sum 27 = .ok (.ireturn, 1) := by decide +kernel
set_option maxRecDepth 20000 in
theorem ggX3_wrongPairs_X3_at : GoodIn wsX3_wrongPairs wsX3_at := goodIn_r _ [5, 6, 7, 8, 9, 4, 10, 11, 12, 13] (by decide +kernel) (by decide +kernel)
set_option maxRecDepth 20000 in
theorem gX3_wrongPairs_X3_at : GoodIn wsX3_wrongPairs (wsV RX3 27 RX3 yX3_at wsX3_at) := goodIn_app (goodIn_of _ (by decide +kernel)) ggX3_wrongPairs_X3_at
theorem dX3_wrongPairs_0 : decode cX3_wrongPairs 0 = .ok (.iconst 0, 1) := by decide +kernel
theorem dX3_wrongPairs_1 : decode cX3_wrongPairs 1 = .ok (.istore_n 3, 1) := by decide +kernel
theorem dX3_wrongPairs_2 : decode cX3_wrongPairs 2 = .ok (.iload_n 1, 1) := by decide +kernel
theorem dX3_wrongPairs_3 : decode cX3_wrongPairs 3 = .ok (.istore 4, 2) := by decide +kernel
theorem dX3_wrongPairs_5 : decode cX3_wrongPairs 5 = .ok (.iload 4, 2) := by decide +kernel
theorem dX3_wrongPairs_7 : decode cX3_wrongPairs 7 = .ok (.iload_n 2, 1) := by decide +kernel
theorem dX3_wrongPairs_8 : decode cX3_wrongPairs 8 = .ok (.if_icmp .ge 45, 3) := by decide +kernel
theorem dX3_wrongPairs_11 : decode cX3_wrongPairs 11 = .ok (.iload 4, 2) := by decide +kernel
theorem dX3_wrongPairs_13 : decode cX3_wrongPairs 13 = .ok (.iconst 1, 1) := by decide +kernel
theorem dX3_wrongPairs_14 : decode cX3_wrongPairs 14 = .ok (.iadd, 1) := by decide +kernel
theorem dX3_wrongPairs_15 : decode cX3_wrongPairs 15 = .ok (.istore 5, 2) := by decide +kernel
theorem dX3_wrongPairs_17 : decode cX3_wrongPairs 17 = .ok (.iload 5, 2) := by decide +kernel
theorem dX3_wrongPairs_19 : decode cX3_wrongPairs 19 = .ok (.iload_n 2, 1) := by decide +kernel
theorem dX3_wrongPairs_20 : decode cX3_wrongPairs 20 = .ok (.if_icmp .ge 27, 3) := by decide +kernel
theorem dX3_wrongPairs_23 : decode cX3_wrongPairs 23 = .ok (.aload_n 0, 1) := by decide +kernel
theorem dX3_wrongPairs_24 : decode cX3_wrongPairs 24 = .ok (.iload 4, 2) := by decide +kernel
theorem dX3_wrongPairs_26 : decode cX3_wrongPairs 26 = .ok (.invokevirtual 27, 3) := by decide +kernel
theorem dX3_wrongPairs_29 : decode cX3_wrongPairs 29 = .ok (.aload_n 0, 1) := by decide +kernel
theorem dX3_wrongPairs_30 : decode cX3_wrongPairs 30 = .ok (.iload 5, 2) := by decide +kernel
theorem dX3_wrongPairs_32 : decode cX3_wrongPairs 32 = .ok (.invokevirtual 27, 3) := by decide +kernel
theorem dX3_wrongPairs_35 : decode cX3_wrongPairs 35 = .ok (.if_icmp .le 6, 3) := by decide +kernel
theorem dX3_wrongPairs_38 : decode cX3_wrongPairs 38 = .ok (.iinc 3 1, 3) := by decide +kernel
theorem dX3_wrongPairs_41 : decode cX3_wrongPairs 41 = .ok (.iinc 5 1, 3) := by decide +kernel
theorem dX3_wrongPairs_44 : decode cX3_wrongPairs 44 = .ok (.goto (-27), 3) := by decide +kernel
theorem dX3_wrongPairs_47 : decode cX3_wrongPairs 47 = .ok (.iinc 4 1, 3) := by decide +kernel
theorem dX3_wrongPairs_50 : decode cX3_wrongPairs 50 = .ok (.goto (-45), 3) := by decide +kernel
theorem dX3_wrongPairs_53 : decode cX3_wrongPairs 53 = .ok (.iload_n 3, 1) := by decide +kernel
theorem dX3_wrongPairs_54 : decode cX3_wrongPairs 54 = .ok (.ireturn, 1) := by decide +kernel
set_option maxRecDepth 20000 in
theorem ggX3_ones_X3_at : GoodIn wsX3_ones wsX3_at := goodIn_r _ [6, 7, 8, 9, 10, 5, 11, 1, 19, 20] (by decide +kernel) (by decide +kernel)
set_option maxRecDepth 20000 in
theorem gX3_ones_X3_at : GoodIn wsX3_ones (wsV RX3 27 RX3 yX3_at wsX3_at) := goodIn_app (goodIn_of _ (by decide +kernel)) ggX3_ones_X3_at
set_option maxRecDepth 20000 in
theorem ggX3_ones_J6_bitCount_0f7a4 : GoodIn wsX3_ones wsJ6_bitCount_0f7a4 := goodIn_r _ [15, 16, 17, 18] (by decide +kernel) (by decide +kernel)
set_option maxRecDepth 20000 in
theorem gX3_ones_J6_bitCount_0f7a4 : GoodIn wsX3_ones (va_wsS RX3 43 yJ6_bitCount_0f7a4 wsJ6_bitCount_0f7a4) := goodIn_app (goodIn_of _ (by decide +kernel)) ggX3_ones_J6_bitCount_0f7a4
theorem dX3_ones_0 : decode cX3_ones 0 = .ok (.iconst 0, 1) := by decide +kernel
theorem dX3_ones_1 : decode cX3_ones 1 = .ok (.istore_n 1, 1) := by decide +kernel
theorem dX3_ones_2 : decode cX3_ones 2 = .ok (.iconst 0, 1) := by decide +kernel
theorem dX3_ones_3 : decode cX3_ones 3 = .ok (.istore_n 2, 1) := by decide +kernel
theorem dX3_ones_4 : decode cX3_ones 4 = .ok (.iload_n 2, 1) := by decide +kernel
theorem dX3_ones_5 : decode cX3_ones 5 = .ok (.aload_n 0, 1) := by decide +kernel
theorem dX3_ones_6 : decode cX3_ones 6 = .ok (.getfield 15, 3) := by decide +kernel
theorem dX3_ones_9 : decode cX3_ones 9 = .ok (.if_icmp .ge 20, 3) := by decide +kernel
theorem dX3_ones_12 : decode cX3_ones 12 = .ok (.iload_n 1, 1) := by decide +kernel
theorem dX3_ones_13 : decode cX3_ones 13 = .ok (.aload_n 0, 1) := by decide +kernel
theorem dX3_ones_14 : decode cX3_ones 14 = .ok (.iload_n 2, 1) := by decide +kernel
theorem dX3_ones_15 : decode cX3_ones 15 = .ok (.invokevirtual 27, 3) := by decide +kernel
theorem dX3_ones_18 : decode cX3_ones 18 = .ok (.invokestatic 43, 3) := by decide +kernel
theorem dX3_ones_21 : decode cX3_ones 21 = .ok (.iadd, 1) := by decide +kernel
theorem dX3_ones_22 : decode cX3_ones 22 = .ok (.istore_n 1, 1) := by decide +kernel
theorem dX3_ones_23 : decode cX3_ones 23 = .ok (.iinc 2 1, 3) := by decide +kernel
theorem dX3_ones_26 : decode cX3_ones 26 = .ok (.goto (-22), 3) := by decide +kernel
theorem dX3_ones_29 : decode cX3_ones 29 = .ok (.iload_n 1, 1) := by decide +kernel
theorem dX3_ones_30 : decode cX3_ones 30 = .ok (.ireturn, 1) := by decide +kernel
theorem dX3_copyFrom_0 : decode cX3_copyFrom 0 = .ok (.aload_n 0, 1) := by decide +kernel
theorem dX3_copyFrom_1 : decode cX3_copyFrom 1 = .ok (.aload_n 1, 1) := by decide +kernel
theorem dX3_copyFrom_2 : decode cX3_copyFrom 2 = .ok (.getfield 15, 3) := by decide +kernel
theorem dX3_copyFrom_5 : decode cX3_copyFrom 5 = .ok (.putfield 15, 3) := by decide +kernel
theorem dX3_copyFrom_8 : decode cX3_copyFrom 8 = .ok (.iconst 0, 1) := by decide +kernel
theorem dX3_copyFrom_9 : decode cX3_copyFrom 9 = .ok (.istore_n 2, 1) := by decide +kernel
theorem dX3_copyFrom_10 : decode cX3_copyFrom 10 = .ok (.iload_n 2, 1) := by decide +kernel
theorem dX3_copyFrom_11 : decode cX3_copyFrom 11 = .ok (.aload_n 0, 1) := by decide +kernel
theorem dX3_copyFrom_12 : decode cX3_copyFrom 12 = .ok (.getfield 15, 3) := by decide +kernel
theorem dX3_copyFrom_15 : decode cX3_copyFrom 15 = .ok (.if_icmp .ge 21, 3) := by decide +kernel
theorem dX3_copyFrom_18 : decode cX3_copyFrom 18 = .ok (.aload_n 0, 1) := by decide +kernel
theorem dX3_copyFrom_19 : decode cX3_copyFrom 19 = .ok (.getfield 9, 3) := by decide +kernel
theorem dX3_copyFrom_22 : decode cX3_copyFrom 22 = .ok (.iload_n 2, 1) := by decide +kernel
theorem dX3_copyFrom_23 : decode cX3_copyFrom 23 = .ok (.aload_n 1, 1) := by decide +kernel
theorem dX3_copyFrom_24 : decode cX3_copyFrom 24 = .ok (.getfield 9, 3) := by decide +kernel
theorem dX3_copyFrom_27 : decode cX3_copyFrom 27 = .ok (.iload_n 2, 1) := by decide +kernel
theorem dX3_copyFrom_28 : decode cX3_copyFrom 28 = .ok (.iaload, 1) := by decide +kernel
theorem dX3_copyFrom_29 : decode cX3_copyFrom 29 = .ok (.iastore, 1) := by decide +kernel
theorem dX3_copyFrom_30 : decode cX3_copyFrom 30 = .ok (.iinc 2 1, 3) := by decide +kernel
theorem dX3_copyFrom_33 : decode cX3_copyFrom 33 = .ok (.goto (-23), 3) := by decide +kernel
theorem dX3_copyFrom_36 : decode cX3_copyFrom 36 = .ok (.return_, 1) := by decide +kernel
theorem dX4_init_0 : decode cX4_init 0 = .ok (.aload_n 0, 1) := by decide +kernel
theorem dX4_init_1 : decode cX4_init 1 = .ok (.invokespecial 3, 3) := by decide +kernel
theorem dX4_init_4 : decode cX4_init 4 = .ok (.aload_n 0, 1) := by decide +kernel
theorem dX4_init_5 : decode cX4_init 5 = .ok (.bipush 16, 2) := by decide +kernel
theorem dX4_init_7 : decode cX4_init 7 = .ok (.newarray .int, 2) := by decide +kernel
theorem dX4_init_9 : decode cX4_init 9 = .ok (.putfield 9, 3) := by decide +kernel
theorem dX4_init_12 : decode cX4_init 12 = .ok (.return_, 1) := by decide +kernel
set_option maxRecDepth 20000 in
theorem ggX4_fill_X3_at : GoodIn wsX4_fill wsX3_at := goodIn_r _ [6, 7, 8, 9, 10, 5, 11, 12, 17, 18] (by decide +kernel) (by decide +kernel)
set_option maxRecDepth 20000 in
theorem gX4_fill_X3_at : GoodIn wsX4_fill (wsV RX4 15 RX3 yX3_at wsX3_at) := goodIn_app (goodIn_of _ (by decide +kernel)) ggX4_fill_X3_at
set_option maxRecDepth 20000 in
theorem ggX4_fill_X6_isSymbol : GoodIn wsX4_fill wsX6_isSymbol := goodIn_r _ [15] (by decide +kernel) (by decide +kernel)
set_option maxRecDepth 20000 in
theorem gX4_fill_X6_isSymbol_n21 : GoodIn wsX4_fill (wsX6_isSymbol) := ggX4_fill_X6_isSymbol
theorem dX4_fill_0 : decode cX4_fill 0 = .ok (.iconst 0, 1) := by decide +kernel
theorem dX4_fill_1 : decode cX4_fill 1 = .ok (.istore 4, 2) := by decide +kernel
theorem dX4_fill_3 : decode cX4_fill 3 = .ok (.iload 4, 2) := by decide +kernel
theorem dX4_fill_5 : decode cX4_fill 5 = .ok (.bipush 16, 2) := by decide +kernel
theorem dX4_fill_7 : decode cX4_fill 7 = .ok (.if_icmp .ge 17, 3) := by decide +kernel
theorem dX4_fill_10 : decode cX4_fill 10 = .ok (.aload_n 0, 1) := by decide +kernel
theorem dX4_fill_11 : decode cX4_fill 11 = .ok (.getfield 9, 3) := by decide +kernel
theorem dX4_fill_14 : decode cX4_fill 14 = .ok (.iload 4, 2) := by decide +kernel
theorem dX4_fill_16 : decode cX4_fill 16 = .ok (.iconst 0, 1) := by decide +kernel
theorem dX4_fill_17 : decode cX4_fill 17 = .ok (.iastore, 1) := by decide +kernel
theorem dX4_fill_18 : decode cX4_fill 18 = .ok (.iinc 4 1, 3) := by decide +kernel
theorem dX4_fill_21 : decode cX4_fill 21 = .ok (.goto (-18), 3) := by decide +kernel
theorem dX4_fill_24 : decode cX4_fill 24 = .ok (.iload_n 2, 1) := by decide +kernel
theorem dX4_fill_25 : decode cX4_fill 25 = .ok (.istore 4, 2) := by decide +kernel
theorem dX4_fill_27 : decode cX4_fill 27 = .ok (.iload 4, 2) := by decide +kernel
theorem dX4_fill_29 : decode cX4_fill 29 = .ok (.iload_n 3, 1) := by decide +kernel
theorem dX4_fill_30 : decode cX4_fill 30 = .ok (.if_icmp .ge 36, 3) := by decide +kernel
theorem dX4_fill_33 : decode cX4_fill 33 = .ok (.aload_n 1, 1) := by decide +kernel
theorem dX4_fill_34 : decode cX4_fill 34 = .ok (.iload 4, 2) := by decide +kernel
theorem dX4_fill_36 : decode cX4_fill 36 = .ok (.invokevirtual 15, 3) := by decide +kernel
theorem dX4_fill_39 : decode cX4_fill 39 = .ok (.istore 5, 2) := by decide +kernel
theorem dX4_fill_41 : decode cX4_fill 41 = .ok (.iload 5, 2) := by decide +kernel
theorem dX4_fill_43 : decode cX4_fill 43 = .ok (.invokestatic 21, 3) := by decide +kernel
theorem dX4_fill_46 : decode cX4_fill 46 = .ok (.ifCond .eq 14, 3) := by decide +kernel
theorem dX4_fill_49 : decode cX4_fill 49 = .ok (.aload_n 0, 1) := by decide +kernel
theorem dX4_fill_50 : decode cX4_fill 50 = .ok (.getfield 9, 3) := by decide +kernel
theorem dX4_fill_53 : decode cX4_fill 53 = .ok (.iload 5, 2) := by decide +kernel
theorem dX4_fill_55 : decode cX4_fill 55 = .ok (.dup2, 1) := by decide +kernel
theorem dX4_fill_56 : decode cX4_fill 56 = .ok (.iaload, 1) := by decide +kernel
theorem dX4_fill_57 : decode cX4_fill 57 = .ok (.iconst 1, 1) := by decide +kernel
theorem dX4_fill_58 : decode cX4_fill 58 = .ok (.iadd, 1) := by decide +kernel
theorem dX4_fill_59 : decode cX4_fill 59 = .ok (.iastore, 1) := by decide +kernel
theorem dX4_fill_60 : decode cX4_fill 60 = .ok (.iinc 4 1, 3) := by decide +kernel
theorem dX4_fill_63 : decode cX4_fill 63 = .ok (.goto (-36), 3) := by decide +kernel
theorem dX4_fill_66 : decode cX4_fill 66 = .ok (.return_, 1) := by decide +kernel
set_option maxRecDepth 20000 in
theorem ggX4_times_X6_isSymbol : GoodIn wsX4_times wsX6_isSymbol := goodIn_r _ [4] (by decide +kernel) (by decide +kernel)
set_option maxRecDepth 20000 in
theorem gX4_times_X6_isSymbol_n21 : GoodIn wsX4_times (wsX6_isSymbol) := ggX4_times_X6_isSymbol
theorem dX4_times_0 : decode cX4_times 0 = .ok (.iload_n 1, 1) := by decide +kernel
theorem dX4_times_1 : decode cX4_times 1 = .ok (.invokestatic 21, 3) := by decide +kernel
theorem dX4_times_4 : decode cX4_times 4 = .ok (.ifCond .eq 12, 3) := by decide +kernel
theorem dX4_times_7 : decode cX4_times 7 = .ok (.aload_n 0, 1) := by decide +kernel
theorem dX4_times_8 : decode cX4_times 8 = .ok (.getfield 9, 3) := by decide +kernel
theorem dX4_times_11 : decode cX4_times 11 = .ok (.iload_n 1, 1) := by decide +kernel
theorem dX4_times_12 : decode cX4_times 12 = .ok (.iaload, 1) := by decide +kernel
theorem dX4_times_13 : decode cX4_times 13 = .ok (.goto 4, 3) := by decide +kernel
theorem dX4_times_16 : decode cX4_times 16 = .ok (.iconst 0, 1) := by decide +kernel
theorem dX4_times_17 : decode cX4_times 17 = .ok (.ireturn, 1) := by decide +kernel
theorem dX4_timesBelow_0 : decode cX4_timesBelow 0 = .ok (.iconst 0, 1) := by decide +kernel
theorem dX4_timesBelow_1 : decode cX4_timesBelow 1 = .ok (.istore_n 2, 1) := by decide +kernel
theorem dX4_timesBelow_2 : decode cX4_timesBelow 2 = .ok (.iconst 0, 1) := by decide +kernel
theorem dX4_timesBelow_3 : decode cX4_timesBelow 3 = .ok (.istore_n 3, 1) := by decide +kernel
theorem dX4_timesBelow_4 : decode cX4_timesBelow 4 = .ok (.iload_n 3, 1) := by decide +kernel
theorem dX4_timesBelow_5 : decode cX4_timesBelow 5 = .ok (.iload_n 1, 1) := by decide +kernel
theorem dX4_timesBelow_6 : decode cX4_timesBelow 6 = .ok (.if_icmp .ge 24, 3) := by decide +kernel
theorem dX4_timesBelow_9 : decode cX4_timesBelow 9 = .ok (.iload_n 3, 1) := by decide +kernel
theorem dX4_timesBelow_10 : decode cX4_timesBelow 10 = .ok (.bipush 16, 2) := by decide +kernel
theorem dX4_timesBelow_12 : decode cX4_timesBelow 12 = .ok (.if_icmp .ge 18, 3) := by decide +kernel
theorem dX4_timesBelow_15 : decode cX4_timesBelow 15 = .ok (.iload_n 2, 1) := by decide +kernel
theorem dX4_timesBelow_16 : decode cX4_timesBelow 16 = .ok (.aload_n 0, 1) := by decide +kernel
theorem dX4_timesBelow_17 : decode cX4_timesBelow 17 = .ok (.getfield 9, 3) := by decide +kernel
theorem dX4_timesBelow_20 : decode cX4_timesBelow 20 = .ok (.iload_n 3, 1) := by decide +kernel
theorem dX4_timesBelow_21 : decode cX4_timesBelow 21 = .ok (.iaload, 1) := by decide +kernel
theorem dX4_timesBelow_22 : decode cX4_timesBelow 22 = .ok (.iadd, 1) := by decide +kernel
theorem dX4_timesBelow_23 : decode cX4_timesBelow 23 = .ok (.istore_n 2, 1) := by decide +kernel
theorem dX4_timesBelow_24 : decode cX4_timesBelow 24 = .ok (.iinc 3 1, 3) := by decide +kernel
theorem dX4_timesBelow_27 : decode cX4_timesBelow 27 = .ok (.goto (-23), 3) := by decide +kernel
theorem dX4_timesBelow_30 : decode cX4_timesBelow 30 = .ok (.iload_n 2, 1) := by decide +kernel
theorem dX4_timesBelow_31 : decode cX4_timesBelow 31 = .ok (.ireturn, 1) := by decide +kernel
theorem dX4_unlike_0 : decode cX4_unlike 0 = .ok (.iconst 0, 1) := by decide +kernel
theorem dX4_unlike_1 : decode cX4_unlike 1 = .ok (.istore_n 1, 1) := by decide +kernel
theorem dX4_unlike_2 : decode cX4_unlike 2 = .ok (.iconst 0, 1) := by decide +kernel
theorem dX4_unlike_3 : decode cX4_unlike 3 = .ok (.istore_n 2, 1) := by decide +kernel
theorem dX4_unlike_4 : decode cX4_unlike 4 = .ok (.iload_n 2, 1) := by decide +kernel
theorem dX4_unlike_5 : decode cX4_unlike 5 = .ok (.bipush 16, 2) := by decide +kernel
theorem dX4_unlike_7 : decode cX4_unlike 7 = .ok (.if_icmp .ge 21, 3) := by decide +kernel
theorem dX4_unlike_10 : decode cX4_unlike 10 = .ok (.aload_n 0, 1) := by decide +kernel
theorem dX4_unlike_11 : decode cX4_unlike 11 = .ok (.getfield 9, 3) := by decide +kernel
theorem dX4_unlike_14 : decode cX4_unlike 14 = .ok (.iload_n 2, 1) := by decide +kernel
theorem dX4_unlike_15 : decode cX4_unlike 15 = .ok (.iaload, 1) := by decide +kernel
theorem dX4_unlike_16 : decode cX4_unlike 16 = .ok (.ifCond .le 6, 3) := by decide +kernel
theorem dX4_unlike_19 : decode cX4_unlike 19 = .ok (.iinc 1 1, 3) := by decide +kernel
theorem dX4_unlike_22 : decode cX4_unlike 22 = .ok (.iinc 2 1, 3) := by decide +kernel
theorem dX4_unlike_25 : decode cX4_unlike 25 = .ok (.goto (-21), 3) := by decide +kernel
theorem dX4_unlike_28 : decode cX4_unlike 28 = .ok (.iload_n 1, 1) := by decide +kernel
theorem dX4_unlike_29 : decode cX4_unlike 29 = .ok (.ireturn, 1) := by decide +kernel
theorem dX4_leastFrom_0 : decode cX4_leastFrom 0 = .ok (.iload_n 1, 1) := by decide +kernel
theorem dX4_leastFrom_1 : decode cX4_leastFrom 1 = .ok (.iconst 0, 1) := by decide +kernel
theorem dX4_leastFrom_2 : decode cX4_leastFrom 2 = .ok (.invokestatic 25, 3) := by decide +kernel
theorem dX4_leastFrom_5 : decode cX4_leastFrom 5 = .ok (.istore_n 2, 1) := by decide +kernel
theorem dX4_leastFrom_6 : decode cX4_leastFrom 6 = .ok (.iload_n 2, 1) := by decide +kernel
theorem dX4_leastFrom_7 : decode cX4_leastFrom 7 = .ok (.bipush 16, 2) := by decide +kernel
theorem dX4_leastFrom_9 : decode cX4_leastFrom 9 = .ok (.if_icmp .ge 20, 3) := by decide +kernel
theorem dX4_leastFrom_12 : decode cX4_leastFrom 12 = .ok (.aload_n 0, 1) := by decide +kernel
theorem dX4_leastFrom_13 : decode cX4_leastFrom 13 = .ok (.getfield 9, 3) := by decide +kernel
theorem dX4_leastFrom_16 : decode cX4_leastFrom 16 = .ok (.iload_n 2, 1) := by decide +kernel
theorem dX4_leastFrom_17 : decode cX4_leastFrom 17 = .ok (.iaload, 1) := by decide +kernel
theorem dX4_leastFrom_18 : decode cX4_leastFrom 18 = .ok (.ifCond .le 5, 3) := by decide +kernel
theorem dX4_leastFrom_21 : decode cX4_leastFrom 21 = .ok (.iload_n 2, 1) := by decide +kernel
theorem dX4_leastFrom_22 : decode cX4_leastFrom 22 = .ok (.ireturn, 1) := by decide +kernel
theorem dX4_leastFrom_23 : decode cX4_leastFrom 23 = .ok (.iinc 2 1, 3) := by decide +kernel
theorem dX4_leastFrom_26 : decode cX4_leastFrom 26 = .ok (.goto (-20), 3) := by decide +kernel
theorem dX4_leastFrom_29 : decode cX4_leastFrom 29 = .ok (.iconst (-1), 1) := by decide +kernel
theorem dX4_leastFrom_30 : decode cX4_leastFrom 30 = .ok (.ireturn, 1) := by decide +kernel
theorem dX4_symbolAtSorted_0 : decode cX4_symbolAtSorted 0 = .ok (.iload_n 1, 1) := by decide +kernel
theorem dX4_symbolAtSorted_1 : decode cX4_symbolAtSorted 1 = .ok (.istore_n 2, 1) := by decide +kernel
theorem dX4_symbolAtSorted_2 : decode cX4_symbolAtSorted 2 = .ok (.iconst 0, 1) := by decide +kernel
theorem dX4_symbolAtSorted_3 : decode cX4_symbolAtSorted 3 = .ok (.istore_n 3, 1) := by decide +kernel
theorem dX4_symbolAtSorted_4 : decode cX4_symbolAtSorted 4 = .ok (.iload_n 3, 1) := by decide +kernel
theorem dX4_symbolAtSorted_5 : decode cX4_symbolAtSorted 5 = .ok (.bipush 16, 2) := by decide +kernel
theorem dX4_symbolAtSorted_7 : decode cX4_symbolAtSorted 7 = .ok (.if_icmp .ge 30, 3) := by decide +kernel
theorem dX4_symbolAtSorted_10 : decode cX4_symbolAtSorted 10 = .ok (.iload_n 2, 1) := by decide +kernel
theorem dX4_symbolAtSorted_11 : decode cX4_symbolAtSorted 11 = .ok (.aload_n 0, 1) := by decide +kernel
theorem dX4_symbolAtSorted_12 : decode cX4_symbolAtSorted 12 = .ok (.getfield 9, 3) := by decide +kernel
theorem dX4_symbolAtSorted_15 : decode cX4_symbolAtSorted 15 = .ok (.iload_n 3, 1) := by decide +kernel
theorem dX4_symbolAtSorted_16 : decode cX4_symbolAtSorted 16 = .ok (.iaload, 1) := by decide +kernel
theorem dX4_symbolAtSorted_17 : decode cX4_symbolAtSorted 17 = .ok (.if_icmp .ge 5, 3) := by decide +kernel
theorem dX4_symbolAtSorted_20 : decode cX4_symbolAtSorted 20 = .ok (.iload_n 3, 1) := by decide +kernel
theorem dX4_symbolAtSorted_21 : decode cX4_symbolAtSorted 21 = .ok (.ireturn, 1) := by decide +kernel
theorem dX4_symbolAtSorted_22 : decode cX4_symbolAtSorted 22 = .ok (.iload_n 2, 1) := by decide +kernel
theorem dX4_symbolAtSorted_23 : decode cX4_symbolAtSorted 23 = .ok (.aload_n 0, 1) := by decide +kernel
theorem dX4_symbolAtSorted_24 : decode cX4_symbolAtSorted 24 = .ok (.getfield 9, 3) := by decide +kernel
theorem dX4_symbolAtSorted_27 : decode cX4_symbolAtSorted 27 = .ok (.iload_n 3, 1) := by decide +kernel
theorem dX4_symbolAtSorted_28 : decode cX4_symbolAtSorted 28 = .ok (.iaload, 1) := by decide +kernel
theorem dX4_symbolAtSorted_29 : decode cX4_symbolAtSorted 29 = .ok (.isub, 1) := by decide +kernel
theorem dX4_symbolAtSorted_30 : decode cX4_symbolAtSorted 30 = .ok (.istore_n 2, 1) := by decide +kernel
theorem dX4_symbolAtSorted_31 : decode cX4_symbolAtSorted 31 = .ok (.iinc 3 1, 3) := by decide +kernel
theorem dX4_symbolAtSorted_34 : decode cX4_symbolAtSorted 34 = .ok (.goto (-30), 3) := by decide +kernel
theorem dX4_symbolAtSorted_37 : decode cX4_symbolAtSorted 37 = .ok (.iconst (-1), 1) := by decide +kernel
theorem dX4_symbolAtSorted_38 : decode cX4_symbolAtSorted 38 = .ok (.ireturn, 1) := by decide +kernel
set_option maxRecDepth 20000 in
theorem ggX4_mostFrequent_X4_times : GoodIn wsX4_mostFrequent wsX4_times := goodIn_r _ [6, 1, 7, 8, 9, 10] (by decide +kernel) (by decide +kernel)
set_option maxRecDepth 20000 in
theorem gX4_mostFrequent_X4_times : GoodIn wsX4_mostFrequent (wsV RX4 31 RX4 yX4_times wsX4_times) := goodIn_app (goodIn_of _ (by decide +kernel)) ggX4_mostFrequent_X4_times
theorem dX4_mostFrequent_0 : decode cX4_mostFrequent 0 = .ok (.iconst (-1), 1) := by decide +kernel
theorem dX4_mostFrequent_1 : decode cX4_mostFrequent 1 = .ok (.istore_n 1, 1) := by decide +kernel
theorem dX4_mostFrequent_2 : decode cX4_mostFrequent 2 = .ok (.iconst 0, 1) := by decide +kernel
theorem dX4_mostFrequent_3 : decode cX4_mostFrequent 3 = .ok (.istore_n 2, 1) := by decide +kernel
theorem dX4_mostFrequent_4 : decode cX4_mostFrequent 4 = .ok (.iload_n 2, 1) := by decide +kernel
theorem dX4_mostFrequent_5 : decode cX4_mostFrequent 5 = .ok (.bipush 16, 2) := by decide +kernel
theorem dX4_mostFrequent_7 : decode cX4_mostFrequent 7 = .ok (.if_icmp .ge 25, 3) := by decide +kernel
theorem dX4_mostFrequent_10 : decode cX4_mostFrequent 10 = .ok (.aload_n 0, 1) := by decide +kernel
theorem dX4_mostFrequent_11 : decode cX4_mostFrequent 11 = .ok (.getfield 9, 3) := by decide +kernel
theorem dX4_mostFrequent_14 : decode cX4_mostFrequent 14 = .ok (.iload_n 2, 1) := by decide +kernel
theorem dX4_mostFrequent_15 : decode cX4_mostFrequent 15 = .ok (.iaload, 1) := by decide +kernel
theorem dX4_mostFrequent_16 : decode cX4_mostFrequent 16 = .ok (.aload_n 0, 1) := by decide +kernel
theorem dX4_mostFrequent_17 : decode cX4_mostFrequent 17 = .ok (.iload_n 1, 1) := by decide +kernel
theorem dX4_mostFrequent_18 : decode cX4_mostFrequent 18 = .ok (.invokevirtual 31, 3) := by decide +kernel
theorem dX4_mostFrequent_21 : decode cX4_mostFrequent 21 = .ok (.if_icmp .le 5, 3) := by decide +kernel
theorem dX4_mostFrequent_24 : decode cX4_mostFrequent 24 = .ok (.iload_n 2, 1) := by decide +kernel
theorem dX4_mostFrequent_25 : decode cX4_mostFrequent 25 = .ok (.istore_n 1, 1) := by decide +kernel
theorem dX4_mostFrequent_26 : decode cX4_mostFrequent 26 = .ok (.iinc 2 1, 3) := by decide +kernel
theorem dX4_mostFrequent_29 : decode cX4_mostFrequent 29 = .ok (.goto (-25), 3) := by decide +kernel
theorem dX4_mostFrequent_32 : decode cX4_mostFrequent 32 = .ok (.iload_n 1, 1) := by decide +kernel
theorem dX4_mostFrequent_33 : decode cX4_mostFrequent 33 = .ok (.ireturn, 1) := by decide +kernel
theorem dX4_isLike_0 : decode cX4_isLike 0 = .ok (.iconst 0, 1) := by decide +kernel
theorem dX4_isLike_1 : decode cX4_isLike 1 = .ok (.istore_n 2, 1) := by decide +kernel
theorem dX4_isLike_2 : decode cX4_isLike 2 = .ok (.iload_n 2, 1) := by decide +kernel
theorem dX4_isLike_3 : decode cX4_isLike 3 = .ok (.bipush 16, 2) := by decide +kernel
theorem dX4_isLike_5 : decode cX4_isLike 5 = .ok (.if_icmp .ge 26, 3) := by decide +kernel
theorem dX4_isLike_8 : decode cX4_isLike 8 = .ok (.aload_n 0, 1) := by decide +kernel
theorem dX4_isLike_9 : decode cX4_isLike 9 = .ok (.getfield 9, 3) := by decide +kernel
theorem dX4_isLike_12 : decode cX4_isLike 12 = .ok (.iload_n 2, 1) := by decide +kernel
theorem dX4_isLike_13 : decode cX4_isLike 13 = .ok (.iaload, 1) := by decide +kernel
theorem dX4_isLike_14 : decode cX4_isLike 14 = .ok (.aload_n 1, 1) := by decide +kernel
theorem dX4_isLike_15 : decode cX4_isLike 15 = .ok (.getfield 9, 3) := by decide +kernel
theorem dX4_isLike_18 : decode cX4_isLike 18 = .ok (.iload_n 2, 1) := by decide +kernel
theorem dX4_isLike_19 : decode cX4_isLike 19 = .ok (.iaload, 1) := by decide +kernel
theorem dX4_isLike_20 : decode cX4_isLike 20 = .ok (.if_icmp .eq 5, 3) := by decide +kernel
theorem dX4_isLike_23 : decode cX4_isLike 23 = .ok (.iconst 0, 1) := by decide +kernel
theorem dX4_isLike_24 : decode cX4_isLike 24 = .ok (.ireturn, 1) := by decide +kernel
theorem dX4_isLike_25 : decode cX4_isLike 25 = .ok (.iinc 2 1, 3) := by decide +kernel
theorem dX4_isLike_28 : decode cX4_isLike 28 = .ok (.goto (-26), 3) := by decide +kernel
theorem dX4_isLike_31 : decode cX4_isLike 31 = .ok (.iconst 1, 1) := by decide +kernel
theorem dX4_isLike_32 : decode cX4_isLike 32 = .ok (.ireturn, 1) := by decide +kernel
theorem dX4_keepCommon_0 : decode cX4_keepCommon 0 = .ok (.iconst 0, 1) := by decide +kernel
theorem dX4_keepCommon_1 : decode cX4_keepCommon 1 = .ok (.istore_n 2, 1) := by decide +kernel
theorem dX4_keepCommon_2 : decode cX4_keepCommon 2 = .ok (.iload_n 2, 1) := by decide +kernel
theorem dX4_keepCommon_3 : decode cX4_keepCommon 3 = .ok (.bipush 16, 2) := by decide +kernel
theorem dX4_keepCommon_5 : decode cX4_keepCommon 5 = .ok (.if_icmp .ge 30, 3) := by decide +kernel
theorem dX4_keepCommon_8 : decode cX4_keepCommon 8 = .ok (.aload_n 0, 1) := by decide +kernel
theorem dX4_keepCommon_9 : decode cX4_keepCommon 9 = .ok (.getfield 9, 3) := by decide +kernel
theorem dX4_keepCommon_12 : decode cX4_keepCommon 12 = .ok (.iload_n 2, 1) := by decide +kernel
theorem dX4_keepCommon_13 : decode cX4_keepCommon 13 = .ok (.aload_n 0, 1) := by decide +kernel
theorem dX4_keepCommon_14 : decode cX4_keepCommon 14 = .ok (.getfield 9, 3) := by decide +kernel
theorem dX4_keepCommon_17 : decode cX4_keepCommon 17 = .ok (.iload_n 2, 1) := by decide +kernel
theorem dX4_keepCommon_18 : decode cX4_keepCommon 18 = .ok (.iaload, 1) := by decide +kernel
theorem dX4_keepCommon_19 : decode cX4_keepCommon 19 = .ok (.aload_n 1, 1) := by decide +kernel
theorem dX4_keepCommon_20 : decode cX4_keepCommon 20 = .ok (.getfield 9, 3) := by decide +kernel
theorem dX4_keepCommon_23 : decode cX4_keepCommon 23 = .ok (.iload_n 2, 1) := by decide +kernel
theorem dX4_keepCommon_24 : decode cX4_keepCommon 24 = .ok (.iaload, 1) := by decide +kernel
theorem dX4_keepCommon_25 : decode cX4_keepCommon 25 = .ok (.invokestatic 33, 3) := by decide +kernel
theorem dX4_keepCommon_28 : decode cX4_keepCommon 28 = .ok (.iastore, 1) := by decide +kernel
theorem dX4_keepCommon_29 : decode cX4_keepCommon 29 = .ok (.iinc 2 1, 3) := by decide +kernel
theorem dX4_keepCommon_32 : decode cX4_keepCommon 32 = .ok (.goto (-30), 3) := by decide +kernel
theorem dX4_keepCommon_35 : decode cX4_keepCommon 35 = .ok (.return_, 1) := by decide +kernel
theorem dX5_init_0 : decode cX5_init 0 = .ok (.aload_n 0, 1) := by decide +kernel
theorem dX5_init_1 : decode cX5_init 1 = .ok (.invokespecial 3, 3) := by decide +kernel
theorem dX5_init_4 : decode cX5_init 4 = .ok (.aload_n 0, 1) := by decide +kernel
theorem dX5_init_5 : decode cX5_init 5 = .ok (.bipush 60, 2) := by decide +kernel
theorem dX5_init_7 : decode cX5_init 7 = .ok (.newarray .char, 2) := by decide +kernel
theorem dX5_init_9 : decode cX5_init 9 = .ok (.putfield 9, 3) := by decide +kernel
theorem dX5_init_12 : decode cX5_init 12 = .ok (.aload_n 0, 1) := by decide +kernel
theorem dX5_init_13 : decode cX5_init 13 = .ok (.iconst 0, 1) := by decide +kernel
theorem dX5_init_14 : decode cX5_init 14 = .ok (.putfield 15, 3) := by decide +kernel
theorem dX5_init_17 : decode cX5_init 17 = .ok (.return_, 1) := by decide +kernel
theorem dX5_length_0 : decode cX5_length 0 = .ok (.aload_n 0, 1) := by decide +kernel
theorem dX5_length_1 : decode cX5_length 1 = .ok (.getfield 15, 3) := by decide +kernel
theorem dX5_length_4 : decode cX5_length 4 = .ok (.ireturn, 1) := by decide +kernel
theorem dX5_at_0 : decode cX5_at 0 = .ok (.iload_n 1, 1) := by decide +kernel
theorem dX5_at_1 : decode cX5_at 1 = .ok (.ifCond .lt 20, 3) := by decide +kernel
theorem dX5_at_4 : decode cX5_at 4 = .ok (.iload_n 1, 1) := by decide +kernel
theorem dX5_at_5 : decode cX5_at 5 = .ok (.aload_n 0, 1) := by decide +kernel
theorem dX5_at_6 : decode cX5_at 6 = .ok (.getfield 15, 3) := by decide +kernel
theorem dX5_at_9 : decode cX5_at 9 = .ok (.if_icmp .ge 12, 3) := by decide +kernel
theorem dX5_at_12 : decode cX5_at 12 = .ok (.aload_n 0, 1) := by decide +kernel
theorem dX5_at_13 : decode cX5_at 13 = .ok (.getfield 9, 3) := by decide +kernel
theorem dX5_at_16 : decode cX5_at 16 = .ok (.iload_n 1, 1) := by decide +kernel
theorem dX5_at_17 : decode cX5_at 17 = .ok (.caload, 1) := by decide +kernel
theorem dX5_at_18 : decode cX5_at 18 = .ok (.goto 4, 3) := by decide +kernel
theorem dX5_at_21 : decode cX5_at 21 = .ok (.iconst (-1), 1) := by decide +kernel
theorem dX5_at_22 : decode cX5_at 22 = .ok (.ireturn, 1) := by decide +kernel
set_option maxRecDepth 20000 in
theorem ggX5_digitAt_X5_at : GoodIn wsX5_digitAt wsX5_at := goodIn_r _ [5, 6, 7, 11, 12] (by decide +kernel) (by decide +kernel)
set_option maxRecDepth 20000 in
theorem gX5_digitAt_X5_at : GoodIn wsX5_digitAt (wsV RX5 19 RX5 yX5_at wsX5_at) := goodIn_app (goodIn_of _ (by decide +kernel)) ggX5_digitAt_X5_at
set_option maxRecDepth 20000 in
theorem ggX5_digitAt_X5_digitOf : GoodIn wsX5_digitAt wsX5_digitOf := goodIn_r _ [10] (by decide +kernel) (by decide +kernel)
set_option maxRecDepth 20000 in
theorem gX5_digitAt_X5_digitOf : GoodIn wsX5_digitAt (va_wsS RX5 23 yX5_digitOf wsX5_digitOf) := goodIn_app (goodIn_of _ (by decide +kernel)) ggX5_digitAt_X5_digitOf
theorem dX5_digitAt_0 : decode cX5_digitAt 0 = .ok (.aload_n 0, 1) := by decide +kernel
theorem dX5_digitAt_1 : decode cX5_digitAt 1 = .ok (.iload_n 1, 1) := by decide +kernel
theorem dX5_digitAt_2 : decode cX5_digitAt 2 = .ok (.invokevirtual 19, 3) := by decide +kernel
theorem dX5_digitAt_5 : decode cX5_digitAt 5 = .ok (.invokestatic 23, 3) := by decide +kernel
theorem dX5_digitAt_8 : decode cX5_digitAt 8 = .ok (.ireturn, 1) := by decide +kernel
set_option maxRecDepth 20000 in
theorem ggX5_symbolValueAt_X5_at : GoodIn wsX5_symbolValueAt wsX5_at := goodIn_r _ [5, 6, 7, 11, 12] (by decide +kernel) (by decide +kernel)
set_option maxRecDepth 20000 in
theorem gX5_symbolValueAt_X5_at : GoodIn wsX5_symbolValueAt (wsV RX5 19 RX5 yX5_at wsX5_at) := goodIn_app (goodIn_of _ (by decide +kernel)) ggX5_symbolValueAt_X5_at
set_option maxRecDepth 20000 in
theorem ggX5_symbolValueAt_X5_digitOf : GoodIn wsX5_symbolValueAt wsX5_digitOf := goodIn_r _ [10] (by decide +kernel) (by decide +kernel)
set_option maxRecDepth 20000 in
theorem gX5_symbolValueAt_X5_digitOf : GoodIn wsX5_symbolValueAt (va_wsS RX5 23 yX5_digitOf wsX5_digitOf) := goodIn_app (goodIn_of _ (by decide +kernel)) ggX5_symbolValueAt_X5_digitOf
theorem dX5_symbolValueAt_0 : decode cX5_symbolValueAt 0 = .ok (.aload_n 0, 1) := by decide +kernel
theorem dX5_symbolValueAt_1 : decode cX5_symbolValueAt 1 = .ok (.iload_n 1, 1) := by decide +kernel
theorem dX5_symbolValueAt_2 : decode cX5_symbolValueAt 2 = .ok (.invokevirtual 19, 3) := by decide +kernel
theorem dX5_symbolValueAt_5 : decode cX5_symbolValueAt 5 = .ok (.istore_n 2, 1) := by decide +kernel
theorem dX5_symbolValueAt_6 : decode cX5_symbolValueAt 6 = .ok (.iload_n 2, 1) := by decide +kernel
theorem dX5_symbolValueAt_7 : decode cX5_symbolValueAt 7 = .ok (.bipush 97, 2) := by decide +kernel
theorem dX5_symbolValueAt_9 : decode cX5_symbolValueAt 9 = .ok (.if_icmp .lt 19, 3) := by decide +kernel
theorem dX5_symbolValueAt_12 : decode cX5_symbolValueAt 12 = .ok (.iload_n 2, 1) := by decide +kernel
theorem dX5_symbolValueAt_13 : decode cX5_symbolValueAt 13 = .ok (.bipush 102, 2) := by decide +kernel
theorem dX5_symbolValueAt_15 : decode cX5_symbolValueAt 15 = .ok (.if_icmp .gt 13, 3) := by decide +kernel
theorem dX5_symbolValueAt_18 : decode cX5_symbolValueAt 18 = .ok (.iload_n 2, 1) := by decide +kernel
theorem dX5_symbolValueAt_19 : decode cX5_symbolValueAt 19 = .ok (.bipush 97, 2) := by decide +kernel
theorem dX5_symbolValueAt_21 : decode cX5_symbolValueAt 21 = .ok (.isub, 1) := by decide +kernel
theorem dX5_symbolValueAt_22 : decode cX5_symbolValueAt 22 = .ok (.bipush 10, 2) := by decide +kernel
theorem dX5_symbolValueAt_24 : decode cX5_symbolValueAt 24 = .ok (.iadd, 1) := by decide +kernel
theorem dX5_symbolValueAt_25 : decode cX5_symbolValueAt 25 = .ok (.goto 7, 3) := by decide +kernel
theorem dX5_symbolValueAt_28 : decode cX5_symbolValueAt 28 = .ok (.iload_n 2, 1) := by decide +kernel
theorem dX5_symbolValueAt_29 : decode cX5_symbolValueAt 29 = .ok (.invokestatic 23, 3) := by decide +kernel
theorem dX5_symbolValueAt_32 : decode cX5_symbolValueAt 32 = .ok (.ireturn, 1) := by decide +kernel
theorem dX5_digitOf_0 : decode cX5_digitOf 0 = .ok (.iload_n 0, 1) := by decide +kernel
theorem dX5_digitOf_1 : decode cX5_digitOf 1 = .ok (.bipush 48, 2) := by decide +kernel
theorem dX5_digitOf_3 : decode cX5_digitOf 3 = .ok (.if_icmp .lt 16, 3) := by decide +kernel
theorem dX5_digitOf_6 : decode cX5_digitOf 6 = .ok (.iload_n 0, 1) := by decide +kernel
theorem dX5_digitOf_7 : decode cX5_digitOf 7 = .ok (.bipush 57, 2) := by decide +kernel
theorem dX5_digitOf_9 : decode cX5_digitOf 9 = .ok (.if_icmp .gt 10, 3) := by decide +kernel
theorem dX5_digitOf_12 : decode cX5_digitOf 12 = .ok (.iload_n 0, 1) := by decide +kernel
theorem dX5_digitOf_13 : decode cX5_digitOf 13 = .ok (.bipush 48, 2) := by decide +kernel
theorem dX5_digitOf_15 : decode cX5_digitOf 15 = .ok (.isub, 1) := by decide +kernel
theorem dX5_digitOf_16 : decode cX5_digitOf 16 = .ok (.goto 4, 3) := by decide +kernel
theorem dX5_digitOf_19 : decode cX5_digitOf 19 = .ok (.iconst (-1), 1) := by decide +kernel
theorem dX5_digitOf_20 : decode cX5_digitOf 20 = .ok (.ireturn, 1) := by decide +kernel
theorem dX5_append_0 : decode cX5_append 0 = .ok (.aload_n 0, 1) := by decide +kernel
theorem dX5_append_1 : decode cX5_append 1 = .ok (.getfield 15, 3) := by decide +kernel
theorem dX5_append_4 : decode cX5_append 4 = .ok (.bipush 60, 2) := by decide +kernel
theorem dX5_append_6 : decode cX5_append 6 = .ok (.if_icmp .ge 23, 3) := by decide +kernel
theorem dX5_append_9 : decode cX5_append 9 = .ok (.aload_n 0, 1) := by decide +kernel
theorem dX5_append_10 : decode cX5_append 10 = .ok (.getfield 9, 3) := by decide +kernel
theorem dX5_append_13 : decode cX5_append 13 = .ok (.aload_n 0, 1) := by decide +kernel
theorem dX5_append_14 : decode cX5_append 14 = .ok (.getfield 15, 3) := by decide +kernel
theorem dX5_append_17 : decode cX5_append 17 = .ok (.iload_n 1, 1) := by decide +kernel
theorem dX5_append_18 : decode cX5_append 18 = .ok (.castore, 1) := by decide +kernel
theorem dX5_append_19 : decode cX5_append 19 = .ok (.aload_n 0, 1) := by decide +kernel
theorem dX5_append_20 : decode cX5_append 20 = .ok (.dup, 1) := by decide +kernel
theorem dX5_append_21 : decode cX5_append 21 = .ok (.getfield 15, 3) := by decide +kernel
theorem dX5_append_24 : decode cX5_append 24 = .ok (.iconst 1, 1) := by decide +kernel
theorem dX5_append_25 : decode cX5_append 25 = .ok (.iadd, 1) := by decide +kernel
theorem dX5_append_26 : decode cX5_append 26 = .ok (.putfield 15, 3) := by decide +kernel
theorem dX5_append_29 : decode cX5_append 29 = .ok (.return_, 1) := by decide +kernel
theorem dX5_empty_0 : decode cX5_empty 0 = .ok (.aload_n 0, 1) := by decide +kernel
theorem dX5_empty_1 : decode cX5_empty 1 = .ok (.iconst 0, 1) := by decide +kernel
theorem dX5_empty_2 : decode cX5_empty 2 = .ok (.putfield 15, 3) := by decide +kernel
theorem dX5_empty_5 : decode cX5_empty 5 = .ok (.return_, 1) := by decide +kernel
