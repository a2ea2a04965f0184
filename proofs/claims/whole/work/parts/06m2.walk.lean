def rm_X7_faulty : Room := { frames := 5, cells := 0, slots := 0, locals := 116 }
def f_X7_faulty (F : Nat) (M : Mm) : Option (Int32 × Mm) :=
  lpf (fun z1 : Int32 × Mm => if (nI 61) ≤ z1.1 then (lpf (fun z2 : Int32 × Mm => jn (if (z2.2 40 6) ≤ (z2.2 40 7) then (some (.inl (z2.1, z2.2))) else (if z2.1 = (-1000004 : Int32) then ((f_X7_doesNext F z2.2).bind fun r4 => if ((up r4.2 40 8 r4.1) 40 8) ≤ 0 then (some (.inr (.inl (z2.1, (up r4.2 40 8 r4.1))))) else (some (.inr (.inl ((z2.2 40 7), (up r4.2 40 8 r4.1)))))) else (some (.inl (z2.1, z2.2))))) (fun z3 : Int32 × Mm => lpf (fun z6 : Int32 × Mm => if (nI 61) ≤ z6.1 then (some (.inr (.inr (.inr (z3.1, z6.2))))) else (if inb z6.1 61 = true then if inb z6.1 61 = true then some (.inl ((z6.1 + (nI 1)), (up z6.2 41 (Int32.toNatClampNeg z6.1) (z6.2 44 (Int32.toNatClampNeg z6.1))))) else none else none)) F ((nI 0), z3.2))) F ((-1000004 : Int32), (up z1.2 40 7 (nI 0)))) else (if inb z1.1 61 = true then if inb z1.1 61 = true then some (.inl ((z1.1 + (nI 1)), (up z1.2 44 (Int32.toNatClampNeg z1.1) (z1.2 41 (Int32.toNatClampNeg z1.1))))) else none else none)) F ((nI 0), M)
set_option maxRecDepth 100000 in
set_option maxHeartbeats 4000000 in
theorem k_X7_faulty (l : Launch) (D : va_G) (cy : Nat → ClassId) (q : Nat → Nat) (F : Nat) (M : Mm) (rv : Int32) (M' : Mm) (h0 : f_X7_faulty F M = some (rv, M')) : KI l yX7_faulty (Cond.code yX7_faulty cX7_faulty 3 (Option.some FieldType.int) :: gw) rm_X7_faulty D cy q [.ref (q 40)] M rv M' := by
  refine KI.mk (L0 := [(0, .ref (q 40))]) (by decide +kernel) rfl (Nat.le_of_ble_eq_true rfl) rfl rfl rfl ?_
  intro p e s m below meth c X0 hr hlk
  have X := Fx.gw (own := RX7) X0
  clear X0
  have h : Ok (f_X7_faulty F M) (fun r => r = (rv, M')) := Ok.of h0 rfl
  clear h0
  delta f_X7_faulty at h
  refine V_iconst (v := (nI 0)) X dX7_faulty_0 (by decide) ?_
  refine V_istore_n (L' := [(1, .int (nI 0)), (0, .ref (q 40))]) X dX7_faulty_1 rfl (by decide) rfl ?_
  refine V_sub (L' := [(0, .ref (q 40)), (1, .int (nI 0))]) [1, 0] rfl ?_
  refine V_loop X h (fun z1 => z1.2) (fun z1 => [(0, .ref (q 40)), (1, .int z1.1)]) rfl rfl (fun z1 h => ?_)
  refine V_iload_n X dX7_faulty_2 1 rfl rfl ?_
  refine V_bipush (v := (nI 61)) X dX7_faulty_3 (by decide) ?_
  refine B_icmp_ge X 26 dX7_faulty_5 (by decide) h (fun h => ?_) (fun h => ?_)
  · refine V_ldc X wKI_X7_83 dX7_faulty_26 ?_
    refine V_istore_n (L' := [(1, .int (-1000004 : Int32)), (0, .ref (q 40))]) X dX7_faulty_28 rfl (by decide) rfl ?_
    refine V_aload_n X dX7_faulty_29 1 rfl rfl ?_
    refine V_iconst (v := (nI 0)) X dX7_faulty_30 (by decide) ?_
    refine P_7_7 X inX7 wFL_X7_118 dX7_faulty_31 ?_
    refine V_sub (L' := [(0, .ref (q 40)), (1, .int (-1000004 : Int32))]) [1, 0] rfl ?_
    refine V_loop X h (fun z2 => z2.2) (fun z2 => [(0, .ref (q 40)), (1, .int z2.1)]) rfl rfl (fun z2 h => ?_)
    refine V_aload_n X dX7_faulty_34 0 rfl rfl ?_
    refine G_7_7 X inX7 wFL_X7_118 dX7_faulty_35 ?_
    refine V_aload_n X dX7_faulty_38 0 rfl rfl ?_
    refine G_7_6 X inX7 wFL_X7_114 dX7_faulty_39 ?_
    refine V_join X h (fun z3 => z3.2) (fun z3 => [(0, .ref (q 40)), (1, .int z3.1)]) (fun z3 => []) 80 (fun z3 h => ?_) (fun h => ?_)
    · refine V_iconst (v := (nI 0)) X dX7_faulty_80 (by decide) ?_
      refine V_istore_n (L' := [(2, .int (nI 0)), (0, .ref (q 40)), (1, .int z3.1)]) X dX7_faulty_81 rfl (by decide) rfl ?_
      refine V_sub (L' := [(0, .ref (q 40)), (1, .int z3.1), (2, .int (nI 0))]) [1, 2, 0] rfl ?_
      refine V_loop X h (fun z6 => z6.2) (fun z6 => [(0, .ref (q 40)), (1, .int z3.1), (2, .int z6.1)]) rfl rfl (fun z6 h => ?_)
      refine V_iload_n X dX7_faulty_82 2 rfl rfl ?_
      refine V_bipush (v := (nI 61)) X dX7_faulty_83 (by decide) ?_
      refine B_icmp_ge X 106 dX7_faulty_85 (by decide) h (fun h => ?_) (fun h => ?_)
      · refine V_iload_n X dX7_faulty_106 1 rfl rfl ?_
        have h : (z3.1, z6.2) = (rv, M') := h
        exact R_i X hr hlk (congrArg Prod.fst h) (congrArg Prod.snd h) dX7_faulty_107
      · refine V_aload_n X dX7_faulty_88 0 rfl rfl ?_
        refine G_7_0 X inX7 wFL_X7_7 dX7_faulty_89 ?_
        refine V_iload_n X dX7_faulty_92 2 rfl rfl ?_
        refine V_aload_n X dX7_faulty_93 0 rfl rfl ?_
        refine G_7_3 X inX7 wFL_X7_19 dX7_faulty_94 ?_
        refine V_iload_n X dX7_faulty_97 2 rfl rfl ?_
        refine A_c44_ld X h dX7_faulty_98 (fun hb7 h => ?_)
        refine A_c41_st X h dX7_faulty_99 (fun hb8 h => ?_)
        refine V_iinc (v := (z6.1 + (nI 1))) (L' := [(2, .int (z6.1 + (nI 1))), (0, .ref (q 40)), (1, .int z3.1)]) (j := 2) X dX7_faulty_100 rfl rfl (by decide) rfl ?_
        refine V_goto X 82 dX7_faulty_103 (by decide) ?_
        exact V_sub [1, 2, 0] rfl h
    · refine B_icmp_ge X 80 dX7_faulty_42 (by decide) h (fun h => ?_) (fun h => ?_)
      · exact V_sub [0, 1] rfl h
      · refine V_iload_n X dX7_faulty_45 1 rfl rfl ?_
        refine V_ldc X wKI_X7_83 dX7_faulty_46 ?_
        refine B_icmp_ne X 80 dX7_faulty_48 (by decide) h (fun h => ?_) (fun h => ?_)
        · exact V_sub [0, 1] rfl h
        · refine V_aload_n X dX7_faulty_51 0 rfl rfl ?_
          refine G_7_7 X inX7 wFL_X7_118 dX7_faulty_52 ?_
          refine V_istore_n (L' := [(2, .int (z2.2 40 7)), (0, .ref (q 40)), (1, .int z2.1)]) X dX7_faulty_55 rfl (by decide) rfl ?_
          refine V_aload_n X dX7_faulty_56 1 rfl rfl ?_
          refine V_aload_n X dX7_faulty_57 1 rfl rfl ?_
          obtain ⟨r4, e5, h⟩ := (Ok.bind h).ex
          refine C_Vi (As := []) (M' := r4.2) (k0 := 40) X rfl rfl (cwV 0 X.1.2.2.2.2 (gw_V wML_X7_151 wIM_X7_doesNext wSE_X7_doesNext wIN_X7 (gw_c wCD_X7_doesNext)) rfl rfl rfl (by decide +kernel) ⟨Nat.le_of_ble_eq_true rfl, Nat.le_of_ble_eq_true rfl⟩) rfl rfl (Nat.le_of_ble_eq_true rfl) ⟨Nat.zero_le _, Nat.zero_le _⟩ (k_X7_doesNext l D cy q F z2.2 r4.1 r4.2 e5) dX7_faulty_58 ?_
          refine P_7_8 X inX7 wFL_X7_154 dX7_faulty_61 ?_
          refine V_aload_n X dX7_faulty_64 1 rfl rfl ?_
          refine G_7_8 X inX7 wFL_X7_154 dX7_faulty_65 ?_
          refine B_if_le X 75 dX7_faulty_68 (by decide) h (fun h => ?_) (fun h => ?_)
          · refine V_iload_n X dX7_faulty_75 2 rfl rfl ?_
            refine V_istore_n (L' := [(1, .int z2.1), (2, .int (z2.2 40 7)), (0, .ref (q 40))]) X dX7_faulty_76 rfl (by decide) rfl ?_
            refine V_goto X 34 dX7_faulty_77 (by decide) ?_
            exact V_sub [2, 0] rfl h
          · refine V_iload_n X dX7_faulty_71 0 rfl rfl ?_
            refine V_goto X 76 dX7_faulty_72 (by decide) ?_
            refine V_istore_n (L' := [(1, .int (z2.2 40 7)), (2, .int (z2.2 40 7)), (0, .ref (q 40))]) X dX7_faulty_76 rfl (by decide) rfl ?_
            refine V_goto X 34 dX7_faulty_77 (by decide) ?_
            exact V_sub [2, 0] rfl h
  · refine V_aload_n X dX7_faulty_8 0 rfl rfl ?_
    refine G_7_3 X inX7 wFL_X7_19 dX7_faulty_9 ?_
    refine V_iload_n X dX7_faulty_12 1 rfl rfl ?_
    refine V_aload_n X dX7_faulty_13 0 rfl rfl ?_
    refine G_7_0 X inX7 wFL_X7_7 dX7_faulty_14 ?_
    refine V_iload_n X dX7_faulty_17 1 rfl rfl ?_
    refine A_c41_ld X h dX7_faulty_18 (fun hb9 h => ?_)
    refine A_c44_st X h dX7_faulty_19 (fun hb10 h => ?_)
    refine V_iinc (v := (z1.1 + (nI 1))) (L' := [(1, .int (z1.1 + (nI 1))), (0, .ref (q 40))]) (j := 1) X dX7_faulty_20 rfl rfl (by decide) rfl ?_
    refine V_goto X 2 dX7_faulty_23 (by decide) ?_
    exact V_sub [1, 0] rfl h
def rm_X7_fault : Room := { frames := 6, cells := 0, slots := 0, locals := 138 }
def f_X7_fault (F : Nat) (a1 : Int32) (M : Mm) : Option (Int32 × Mm) :=
  (f_X7_in a1 (nI 0) (nI 2)).bind fun r1 => if r1 = 0 then (some ((-1000001 : Int32), M)) else ((f_X7_faulty F M).bind fun r3 => if r3.1 = (-1000004 : Int32) then (some (r3.1, r3.2)) else (if a1 = 0 then (some (r3.1, r3.2)) else (if a1 = (nI 1) then (some ((r3.2 40 8), r3.2)) else (some ((r3.2 40 9), r3.2)))))
set_option maxRecDepth 100000 in
set_option maxHeartbeats 4000000 in
theorem k_X7_fault (l : Launch) (D : va_G) (cy : Nat → ClassId) (q : Nat → Nat) (F : Nat) (a1 : Int32) (M : Mm) (rv : Int32) (M' : Mm) (h0 : f_X7_fault F a1 M = some (rv, M')) : KI l yX7_fault (Cond.code yX7_fault cX7_fault 3 (Option.some FieldType.int) :: gw) rm_X7_fault D cy q [.ref (q 40), .int a1] M rv M' := by
  refine KI.mk (L0 := [(0, .ref (q 40)), (1, .int a1)]) (by decide +kernel) rfl (Nat.le_of_ble_eq_true rfl) rfl rfl rfl ?_
  intro p e s m below meth c X0 hr hlk
  have X := Fx.gw (own := RX7) X0
  clear X0
  have h : Ok (f_X7_fault F a1 M) (fun r => r = (rv, M')) := Ok.of h0 rfl
  clear h0
  delta f_X7_fault at h
  refine V_iload_n X dX7_fault_0 1 rfl rfl ?_
  refine V_iconst (v := (nI 0)) X dX7_fault_1 (by decide) ?_
  refine V_iconst (v := (nI 2)) X dX7_fault_2 (by decide) ?_
  obtain ⟨r1, e2, h⟩ := (Ok.bind h).ex
  refine C_Si (As := [.int a1, .int (nI 0), .int (nI 2)]) (M' := M) X (va_cwS 3 X.1.2.2.2.2 (gw_S wML_X7_38 wST_X7_in wIN_X7 (gw_c wCD_X7_in)) rfl rfl rfl (by decide +kernel) ⟨Nat.le_of_ble_eq_true rfl, Nat.le_of_ble_eq_true rfl⟩) rfl rfl (Nat.le_of_ble_eq_true rfl) ⟨Nat.zero_le _, Nat.zero_le _⟩ (k_X7_in l D cy q a1 (nI 0) (nI 2) M r1 e2) dX7_fault_3 ?_
  refine B_if_ne X 12 dX7_fault_6 (by decide) h (fun h => ?_) (fun h => ?_)
  · refine V_aload_n X dX7_fault_12 0 rfl rfl ?_
    obtain ⟨r3, e4, h⟩ := (Ok.bind h).ex
    refine C_Vi (As := []) (M' := r3.2) (k0 := 40) X rfl rfl (cwV 0 X.1.2.2.2.2 (gw_V wML_X7_157 wIM_X7_faulty wSE_X7_faulty wIN_X7 (gw_c wCD_X7_faulty)) rfl rfl rfl (by decide +kernel) ⟨Nat.le_of_ble_eq_true rfl, Nat.le_of_ble_eq_true rfl⟩) rfl rfl (Nat.le_of_ble_eq_true rfl) ⟨Nat.zero_le _, Nat.zero_le _⟩ (k_X7_faulty l D cy q F M r3.1 r3.2 e4) dX7_fault_13 ?_
    refine V_istore_n (L' := [(2, .int r3.1), (0, .ref (q 40)), (1, .int a1)]) X dX7_fault_16 rfl (by decide) rfl ?_
    refine V_iload_n X dX7_fault_17 0 rfl rfl ?_
    refine V_ldc X wKI_X7_83 dX7_fault_18 ?_
    refine B_icmp_eq X 27 dX7_fault_20 (by decide) h (fun h => ?_) (fun h => ?_)
    · refine V_iload_n X dX7_fault_27 0 rfl rfl ?_
      refine V_goto X 47 dX7_fault_28 (by decide) ?_
      have h : (r3.1, r3.2) = (rv, M') := h
      exact R_i X hr hlk (congrArg Prod.fst h) (congrArg Prod.snd h) dX7_fault_47
    · refine V_iload_n X dX7_fault_23 2 rfl rfl ?_
      refine B_if_ne X 31 dX7_fault_24 (by decide) h (fun h => ?_) (fun h => ?_)
      · refine V_iload_n X dX7_fault_31 2 rfl rfl ?_
        refine V_iconst (v := (nI 1)) X dX7_fault_32 (by decide) ?_
        refine B_icmp_ne X 43 dX7_fault_33 (by decide) h (fun h => ?_) (fun h => ?_)
        · refine V_aload_n X dX7_fault_43 1 rfl rfl ?_
          refine G_7_9 X inX7 wFL_X7_134 dX7_fault_44 ?_
          have h : ((r3.2 40 9), r3.2) = (rv, M') := h
          exact R_i X hr hlk (congrArg Prod.fst h) (congrArg Prod.snd h) dX7_fault_47
        · refine V_aload_n X dX7_fault_36 1 rfl rfl ?_
          refine G_7_8 X inX7 wFL_X7_154 dX7_fault_37 ?_
          refine V_goto X 47 dX7_fault_40 (by decide) ?_
          have h : ((r3.2 40 8), r3.2) = (rv, M') := h
          exact R_i X hr hlk (congrArg Prod.fst h) (congrArg Prod.snd h) dX7_fault_47
      · refine V_iload_n X dX7_fault_27 0 rfl rfl ?_
        refine V_goto X 47 dX7_fault_28 (by decide) ?_
        have h : (r3.1, r3.2) = (rv, M') := h
        exact R_i X hr hlk (congrArg Prod.fst h) (congrArg Prod.snd h) dX7_fault_47
  · refine V_ldc X wKI_X7_42 dX7_fault_9 ?_
    have h : ((-1000001 : Int32), M) = (rv, M') := h
    exact R_i X hr hlk (congrArg Prod.fst h) (congrArg Prod.snd h) dX7_fault_11
def rm_X7_play : Room := { frames := 6, cells := 0, slots := 0, locals := 138 }
def f_X7_play (F : Nat) (M : Mm) : Option (Int32 × Mm) :=
  (f_X7_faulty F M).bind fun r1 => if r1.1 = (-1000004 : Int32) then ((f_X7_keeps F r1.2).bind fun r3 => lpf (fun z5 : Mm => if (z5 40 6) ≤ (z5 40 7) then (if inb (nI 0) 61 = true then (f_X7_acted F (z5 41 (Int32.toNatClampNeg (nI 0))) z5).bind fun r7 => some (.inr (r7.1, r7.2)) else none) else ((f_X7_doesNext F z5).bind fun r9 => some (.inl r9.2))) F (up r3 40 7 (nI 0))) else (some ((-1000002 : Int32), r1.2))
set_option maxRecDepth 100000 in
set_option maxHeartbeats 4000000 in
theorem k_X7_play (l : Launch) (D : va_G) (cy : Nat → ClassId) (q : Nat → Nat) (F : Nat) (M : Mm) (rv : Int32) (M' : Mm) (h0 : f_X7_play F M = some (rv, M')) : KI l yX7_play (Cond.code yX7_play cX7_play 1 (Option.some FieldType.int) :: gw) rm_X7_play D cy q [.ref (q 40)] M rv M' := by
  refine KI.mk (L0 := [(0, .ref (q 40))]) (by decide +kernel) rfl (Nat.le_of_ble_eq_true rfl) rfl rfl rfl ?_
  intro p e s m below meth c X0 hr hlk
  have X := Fx.gw (own := RX7) X0
  clear X0
  have h : Ok (f_X7_play F M) (fun r => r = (rv, M')) := Ok.of h0 rfl
  clear h0
  delta f_X7_play at h
  refine V_aload_n X dX7_play_0 0 rfl rfl ?_
  obtain ⟨r1, e2, h⟩ := (Ok.bind h).ex
  refine C_Vi (As := []) (M' := r1.2) (k0 := 40) X rfl rfl (cwV 0 X.1.2.2.2.2 (gw_V wML_X7_157 wIM_X7_faulty wSE_X7_faulty wIN_X7 (gw_c wCD_X7_faulty)) rfl rfl rfl (by decide +kernel) ⟨Nat.le_of_ble_eq_true rfl, Nat.le_of_ble_eq_true rfl⟩) rfl rfl (Nat.le_of_ble_eq_true rfl) ⟨Nat.zero_le _, Nat.zero_le _⟩ (k_X7_faulty l D cy q F M r1.1 r1.2 e2) dX7_play_1 ?_
  refine V_ldc X wKI_X7_83 dX7_play_4 ?_
  refine B_icmp_eq X 12 dX7_play_6 (by decide) h (fun h => ?_) (fun h => ?_)
  · refine V_aload_n X dX7_play_12 0 rfl rfl ?_
    obtain ⟨r3, e4, h⟩ := (Ok.bind h).ex
    refine C_Vv (As := []) (M' := r3) (k0 := 40) X rfl rfl (cwV 0 X.1.2.2.2.2 (gw_V wML_X7_48 wIM_X7_keeps wSE_X7_keeps wIN_X7 (gw_c wCD_X7_keeps)) rfl rfl rfl (by decide +kernel) ⟨Nat.le_of_ble_eq_true rfl, Nat.le_of_ble_eq_true rfl⟩) rfl rfl (Nat.le_of_ble_eq_true rfl) ⟨Nat.zero_le _, Nat.zero_le _⟩ (k_X7_keeps l D cy q F r1.2 r3 e4) dX7_play_13 ?_
    refine V_aload_n X dX7_play_16 0 rfl rfl ?_
    refine V_iconst (v := (nI 0)) X dX7_play_17 (by decide) ?_
    refine P_7_7 X inX7 wFL_X7_118 dX7_play_18 ?_
    refine V_sub (L' := [(0, .ref (q 40))]) [0] rfl ?_
    refine V_loop X h (fun z5 => z5) (fun z5 => [(0, .ref (q 40))]) rfl rfl (fun z5 h => ?_)
    refine V_aload_n X dX7_play_21 0 rfl rfl ?_
    refine G_7_7 X inX7 wFL_X7_118 dX7_play_22 ?_
    refine V_aload_n X dX7_play_25 0 rfl rfl ?_
    refine G_7_6 X inX7 wFL_X7_114 dX7_play_26 ?_
    refine B_icmp_ge X 40 dX7_play_29 (by decide) h (fun h => ?_) (fun h => ?_)
    · refine V_aload_n X dX7_play_40 0 rfl rfl ?_
      refine V_aload_n X dX7_play_41 0 rfl rfl ?_
      refine G_7_0 X inX7 wFL_X7_7 dX7_play_42 ?_
      refine V_iconst (v := (nI 0)) X dX7_play_45 (by decide) ?_
      refine A_c41_ld X h dX7_play_46 (fun hb6 h => ?_)
      obtain ⟨r7, e8, h⟩ := (Ok.bind h).ex
      refine C_Vi (As := [.int (z5 41 (Int32.toNatClampNeg (nI 0)))]) (M' := r7.2) (k0 := 40) X rfl rfl (cwV 1 X.1.2.2.2.2 (gw_V wML_X7_55 wIM_X7_acted wSE_X7_acted wIN_X7 (gw_c wCD_X7_acted)) rfl rfl rfl (by decide +kernel) ⟨Nat.le_of_ble_eq_true rfl, Nat.le_of_ble_eq_true rfl⟩) rfl rfl (Nat.le_of_ble_eq_true rfl) ⟨Nat.zero_le _, Nat.zero_le _⟩ (k_X7_acted l D cy q F (z5 41 (Int32.toNatClampNeg (nI 0))) z5 r7.1 r7.2 e8) dX7_play_47 ?_
      have h : (r7.1, r7.2) = (rv, M') := h
      exact R_i X hr hlk (congrArg Prod.fst h) (congrArg Prod.snd h) dX7_play_50
    · refine V_aload_n X dX7_play_32 0 rfl rfl ?_
      obtain ⟨r9, e10, h⟩ := (Ok.bind h).ex
      refine C_Vi (As := []) (M' := r9.2) (k0 := 40) X rfl rfl (cwV 0 X.1.2.2.2.2 (gw_V wML_X7_151 wIM_X7_doesNext wSE_X7_doesNext wIN_X7 (gw_c wCD_X7_doesNext)) rfl rfl rfl (by decide +kernel) ⟨Nat.le_of_ble_eq_true rfl, Nat.le_of_ble_eq_true rfl⟩) rfl rfl (Nat.le_of_ble_eq_true rfl) ⟨Nat.zero_le _, Nat.zero_le _⟩ (k_X7_doesNext l D cy q F z5 r9.1 r9.2 e10) dX7_play_33 ?_
      refine V_pop X dX7_play_36 rfl ?_
      refine V_goto X 21 dX7_play_37 (by decide) ?_
      exact V_sub [0] rfl h
  · refine V_ldc X wKI_X7_117 dX7_play_9 ?_
    have h : ((-1000002 : Int32), r1.2) = (rv, M') := h
    exact R_i X hr hlk (congrArg Prod.fst h) (congrArg Prod.snd h) dX7_play_11
