def rm_X7_keeps : Room := { frames := 0, cells := 0, slots := 0, locals := 0 }
def f_X7_keeps (F : Nat) (M : Mm) : Option (Mm) :=
  lpf (fun z1 : Int32 × Mm => if (nI 61) ≤ z1.1 then (some (.inr z1.2)) else (if inb z1.1 61 = true then if inb z1.1 61 = true then some (.inl ((z1.1 + (nI 1)), (up z1.2 43 (Int32.toNatClampNeg z1.1) (z1.2 41 (Int32.toNatClampNeg z1.1))))) else none else none)) F ((nI 0), M)
set_option maxRecDepth 100000 in
set_option maxHeartbeats 4000000 in
theorem k_X7_keeps (l : Launch) (D : va_G) (cy : Nat → ClassId) (q : Nat → Nat) (F : Nat) (M : Mm) (M' : Mm) (h0 : f_X7_keeps F M = some M') : KV l yX7_keeps (Cond.code yX7_keeps cX7_keeps 2 none :: gw) rm_X7_keeps D cy q [.ref (q 40)] M M' := by
  refine KV.mk (L0 := [(0, .ref (q 40))]) (by decide +kernel) rfl (Nat.le_of_ble_eq_true rfl) rfl rfl rfl ?_
  intro p e s m below meth c X0 hr hlk
  have X := Fx.gw (own := RX7) X0
  clear X0
  have h : Ok (f_X7_keeps F M) (fun r => r = M') := Ok.of h0 rfl
  clear h0
  delta f_X7_keeps at h
  refine V_iconst (v := (nI 0)) X dX7_keeps_0 (by decide) ?_
  refine V_istore_n (L' := [(1, .int (nI 0)), (0, .ref (q 40))]) X dX7_keeps_1 rfl (by decide) rfl ?_
  refine V_sub (L' := [(0, .ref (q 40)), (1, .int (nI 0))]) [1, 0] rfl ?_
  refine V_loop X h (fun z1 => z1.2) (fun z1 => [(0, .ref (q 40)), (1, .int z1.1)]) rfl rfl (fun z1 h => ?_)
  refine V_iload_n X dX7_keeps_2 1 rfl rfl ?_
  refine V_bipush (v := (nI 61)) X dX7_keeps_3 (by decide) ?_
  refine B_icmp_ge X 26 dX7_keeps_5 (by decide) h (fun h => ?_) (fun h => ?_)
  · have h : z1.2 = M' := h
    exact R_v X hr hlk h dX7_keeps_26
  · refine V_aload_n X dX7_keeps_8 0 rfl rfl ?_
    refine G_7_2 X inX7 wFL_X7_16 dX7_keeps_9 ?_
    refine V_iload_n X dX7_keeps_12 1 rfl rfl ?_
    refine V_aload_n X dX7_keeps_13 0 rfl rfl ?_
    refine G_7_0 X inX7 wFL_X7_7 dX7_keeps_14 ?_
    refine V_iload_n X dX7_keeps_17 1 rfl rfl ?_
    refine A_c41_ld X h dX7_keeps_18 (fun hb2 h => ?_)
    refine A_c43_st X h dX7_keeps_19 (fun hb3 h => ?_)
    refine V_iinc (v := (z1.1 + (nI 1))) (L' := [(1, .int (z1.1 + (nI 1))), (0, .ref (q 40))]) (j := 1) X dX7_keeps_20 rfl rfl (by decide) rfl ?_
    refine V_goto X 2 dX7_keeps_23 (by decide) ?_
    exact V_sub [1, 0] rfl h
def rm_X7_in : Room := { frames := 0, cells := 0, slots := 0, locals := 0 }
def f_X7_in (a0 : Int32) (a1 : Int32) (a2 : Int32) : Option (Int32) :=
  if a0 < a1 then (some (nI 0)) else (if a2 < a0 then (some (nI 0)) else (some (nI 1)))
set_option maxRecDepth 100000 in
set_option maxHeartbeats 4000000 in
theorem k_X7_in (l : Launch) (D : va_G) (cy : Nat → ClassId) (q : Nat → Nat) (a0 : Int32) (a1 : Int32) (a2 : Int32) (M : Mm) (rv : Int32) (h0 : f_X7_in a0 a1 a2 = some rv) : KI l yX7_in (Cond.code yX7_in cX7_in 3 (Option.some FieldType.boolean) :: gw) rm_X7_in D cy q [.int a0, .int a1, .int a2] M rv M := by
  refine KI.mk (L0 := [(0, .int a0), (1, .int a1), (2, .int a2)]) (by decide +kernel) rfl (Nat.le_of_ble_eq_true rfl) rfl rfl rfl ?_
  intro p e s m below meth c X0 hr hlk
  have X := Fx.gw (own := RX7) X0
  clear X0
  have h : Ok (f_X7_in a0 a1 a2) (fun r => r = rv) := Ok.of h0 rfl
  clear h0
  delta f_X7_in at h
  refine V_iload_n X dX7_in_0 0 rfl rfl ?_
  refine V_iload_n X dX7_in_1 1 rfl rfl ?_
  refine B_icmp_lt X 14 dX7_in_2 (by decide) h (fun h => ?_) (fun h => ?_)
  · refine V_iconst (v := (nI 0)) X dX7_in_14 (by decide) ?_
    have h : (nI 0) = rv := h
    exact R_z X hr hlk rfl h rfl dX7_in_15
  · refine V_iload_n X dX7_in_5 0 rfl rfl ?_
    refine V_iload_n X dX7_in_6 2 rfl rfl ?_
    refine B_icmp_gt X 14 dX7_in_7 (by decide) h (fun h => ?_) (fun h => ?_)
    · refine V_iconst (v := (nI 0)) X dX7_in_14 (by decide) ?_
      have h : (nI 0) = rv := h
      exact R_z X hr hlk rfl h rfl dX7_in_15
    · refine V_iconst (v := (nI 1)) X dX7_in_10 (by decide) ?_
      refine V_goto X 15 dX7_in_11 (by decide) ?_
      have h : (nI 1) = rv := h
      exact R_z X hr hlk rfl h rfl dX7_in_15
def rm_X7_puts : Room := { frames := 1, cells := 0, slots := 0, locals := 22 }
def f_X7_puts (F : Nat) (a1 : Int32) (a2 : Int32) (M : Mm) : Option (Int32 × Mm) :=
  if inb (nI 0) 61 = true then (f_X7_in a1 (nI 0) (M 41 (Int32.toNatClampNeg (nI 0)))).bind fun r2 => if r2 = 0 then (some ((-1000001 : Int32), M)) else ((f_X7_in a2 (nI 0) (nI 15)).bind fun r4 => if r4 = 0 then (some ((-1000001 : Int32), M)) else (if inb (nI 0) 61 = true then if (M 41 (Int32.toNatClampNeg (nI 0))) = (nI 60) then (some ((-1000003 : Int32), M)) else (if inb (nI 0) 61 = true then lpf (fun z8 : Int32 × Mm => if z8.1 ≤ a1 then (if inb ((nI 1) + a1) 61 = true then if inb (nI 0) 61 = true then if inb (nI 0) 61 = true then if inb (nI 0) 61 = true then some (.inr (((up (up z8.2 41 (Int32.toNatClampNeg ((nI 1) + a1)) a2) 41 (Int32.toNatClampNeg (nI 0)) (((up z8.2 41 (Int32.toNatClampNeg ((nI 1) + a1)) a2) 41 (Int32.toNatClampNeg (nI 0))) + (nI 1))) 41 (Int32.toNatClampNeg (nI 0))), (up (up z8.2 41 (Int32.toNatClampNeg ((nI 1) + a1)) a2) 41 (Int32.toNatClampNeg (nI 0)) (((up z8.2 41 (Int32.toNatClampNeg ((nI 1) + a1)) a2) 41 (Int32.toNatClampNeg (nI 0))) + (nI 1))))) else none else none else none else none) else (if inb (((nI 1) + z8.1) - (nI 1)) 61 = true then if inb ((nI 1) + z8.1) 61 = true then some (.inl ((z8.1 + (-1 : Int32)), (up z8.2 41 (Int32.toNatClampNeg ((nI 1) + z8.1)) (z8.2 41 (Int32.toNatClampNeg (((nI 1) + z8.1) - (nI 1))))))) else none else none)) F ((M 41 (Int32.toNatClampNeg (nI 0))), M) else none) else none)) else none
set_option maxRecDepth 100000 in
set_option maxHeartbeats 4000000 in
theorem k_X7_puts (l : Launch) (D : va_G) (cy : Nat → ClassId) (q : Nat → Nat) (F : Nat) (a1 : Int32) (a2 : Int32) (M : Mm) (rv : Int32) (M' : Mm) (h0 : f_X7_puts F a1 a2 M = some (rv, M')) : KI l yX7_puts (Cond.code yX7_puts cX7_puts 4 (Option.some FieldType.int) :: gw) rm_X7_puts D cy q [.ref (q 40), .int a1, .int a2] M rv M' := by
  refine KI.mk (L0 := [(0, .ref (q 40)), (1, .int a1), (2, .int a2)]) (by decide +kernel) rfl (Nat.le_of_ble_eq_true rfl) rfl rfl rfl ?_
  intro p e s m below meth c X0 hr hlk
  have X := Fx.gw (own := RX7) X0
  clear X0
  have h : Ok (f_X7_puts F a1 a2 M) (fun r => r = (rv, M')) := Ok.of h0 rfl
  clear h0
  delta f_X7_puts at h
  refine V_iload_n X dX7_puts_0 1 rfl rfl ?_
  refine V_iconst (v := (nI 0)) X dX7_puts_1 (by decide) ?_
  refine V_aload_n X dX7_puts_2 0 rfl rfl ?_
  refine G_7_0 X inX7 wFL_X7_7 dX7_puts_3 ?_
  refine V_iconst (v := (nI 0)) X dX7_puts_6 (by decide) ?_
  refine A_c41_ld X h dX7_puts_7 (fun hb1 h => ?_)
  obtain ⟨r2, e3, h⟩ := (Ok.bind h).ex
  refine C_Si (As := [.int a1, .int (nI 0), .int (M 41 (Int32.toNatClampNeg (nI 0)))]) (M' := M) X (va_cwS 3 X.1.2.2.2.2 (gw_S wML_X7_38 wST_X7_in wIN_X7 (gw_c wCD_X7_in)) rfl rfl rfl (by decide +kernel) ⟨Nat.le_of_ble_eq_true rfl, Nat.le_of_ble_eq_true rfl⟩) rfl rfl (Nat.le_of_ble_eq_true rfl) ⟨Nat.zero_le _, Nat.zero_le _⟩ (k_X7_in l D cy q a1 (nI 0) (M 41 (Int32.toNatClampNeg (nI 0))) M r2 e3) dX7_puts_8 ?_
  refine B_if_eq X 24 dX7_puts_11 (by decide) h (fun h => ?_) (fun h => ?_)
  · refine V_ldc X wKI_X7_42 dX7_puts_24 ?_
    have h : ((-1000001 : Int32), M) = (rv, M') := h
    exact R_i X hr hlk (congrArg Prod.fst h) (congrArg Prod.snd h) dX7_puts_26
  · refine V_iload_n X dX7_puts_14 2 rfl rfl ?_
    refine V_iconst (v := (nI 0)) X dX7_puts_15 (by decide) ?_
    refine V_bipush (v := (nI 15)) X dX7_puts_16 (by decide) ?_
    obtain ⟨r4, e5, h⟩ := (Ok.bind h).ex
    refine C_Si (As := [.int a2, .int (nI 0), .int (nI 15)]) (M' := M) X (va_cwS 3 X.1.2.2.2.2 (gw_S wML_X7_38 wST_X7_in wIN_X7 (gw_c wCD_X7_in)) rfl rfl rfl (by decide +kernel) ⟨Nat.le_of_ble_eq_true rfl, Nat.le_of_ble_eq_true rfl⟩) rfl rfl (Nat.le_of_ble_eq_true rfl) ⟨Nat.zero_le _, Nat.zero_le _⟩ (k_X7_in l D cy q a2 (nI 0) (nI 15) M r4 e5) dX7_puts_18 ?_
    refine B_if_ne X 27 dX7_puts_21 (by decide) h (fun h => ?_) (fun h => ?_)
    · refine V_aload_n X dX7_puts_27 0 rfl rfl ?_
      refine G_7_0 X inX7 wFL_X7_7 dX7_puts_28 ?_
      refine V_iconst (v := (nI 0)) X dX7_puts_31 (by decide) ?_
      refine A_c41_ld X h dX7_puts_32 (fun hb6 h => ?_)
      refine V_bipush (v := (nI 60)) X dX7_puts_33 (by decide) ?_
      refine B_icmp_ne X 41 dX7_puts_35 (by decide) h (fun h => ?_) (fun h => ?_)
      · refine V_aload_n X dX7_puts_41 0 rfl rfl ?_
        refine G_7_0 X inX7 wFL_X7_7 dX7_puts_42 ?_
        refine V_iconst (v := (nI 0)) X dX7_puts_45 (by decide) ?_
        refine A_c41_ld X h dX7_puts_46 (fun hb7 h => ?_)
        refine V_istore_n (L' := [(3, .int (M 41 (Int32.toNatClampNeg (nI 0)))), (0, .ref (q 40)), (1, .int a1), (2, .int a2)]) X dX7_puts_47 rfl (by decide) rfl ?_
        refine V_sub (L' := [(0, .ref (q 40)), (1, .int a1), (2, .int a2), (3, .int (M 41 (Int32.toNatClampNeg (nI 0))))]) [1, 2, 3, 0] rfl ?_
        refine V_loop X h (fun z8 => z8.2) (fun z8 => [(0, .ref (q 40)), (1, .int a1), (2, .int a2), (3, .int z8.1)]) rfl rfl (fun z8 h => ?_)
        refine V_iload_n X dX7_puts_48 3 rfl rfl ?_
        refine V_iload_n X dX7_puts_49 1 rfl rfl ?_
        refine B_icmp_le X 77 dX7_puts_50 (by decide) h (fun h => ?_) (fun h => ?_)
        · refine V_aload_n X dX7_puts_77 0 rfl rfl ?_
          refine G_7_0 X inX7 wFL_X7_7 dX7_puts_78 ?_
          refine V_iconst (v := (nI 1)) X dX7_puts_81 (by decide) ?_
          refine V_iload_n X dX7_puts_82 1 rfl rfl ?_
          refine V_iadd X dX7_puts_83 ?_
          refine V_iload_n X dX7_puts_84 2 rfl rfl ?_
          refine A_c41_st X h dX7_puts_85 (fun hb9 h => ?_)
          refine V_aload_n X dX7_puts_86 0 rfl rfl ?_
          refine G_7_0 X inX7 wFL_X7_7 dX7_puts_87 ?_
          refine V_iconst (v := (nI 0)) X dX7_puts_90 (by decide) ?_
          refine V_dup2 X dX7_puts_91 rfl rfl ?_
          refine A_c41_ld X h dX7_puts_92 (fun hb10 h => ?_)
          refine V_iconst (v := (nI 1)) X dX7_puts_93 (by decide) ?_
          refine V_iadd X dX7_puts_94 ?_
          refine A_c41_st X h dX7_puts_95 (fun hb11 h => ?_)
          refine V_aload_n X dX7_puts_96 0 rfl rfl ?_
          refine G_7_0 X inX7 wFL_X7_7 dX7_puts_97 ?_
          refine V_iconst (v := (nI 0)) X dX7_puts_100 (by decide) ?_
          refine A_c41_ld X h dX7_puts_101 (fun hb12 h => ?_)
          have h : (((up (up z8.2 41 (Int32.toNatClampNeg ((nI 1) + a1)) a2) 41 (Int32.toNatClampNeg (nI 0)) (((up z8.2 41 (Int32.toNatClampNeg ((nI 1) + a1)) a2) 41 (Int32.toNatClampNeg (nI 0))) + (nI 1))) 41 (Int32.toNatClampNeg (nI 0))), (up (up z8.2 41 (Int32.toNatClampNeg ((nI 1) + a1)) a2) 41 (Int32.toNatClampNeg (nI 0)) (((up z8.2 41 (Int32.toNatClampNeg ((nI 1) + a1)) a2) 41 (Int32.toNatClampNeg (nI 0))) + (nI 1)))) = (rv, M') := h
          exact R_i X hr hlk (congrArg Prod.fst h) (congrArg Prod.snd h) dX7_puts_102
        · refine V_aload_n X dX7_puts_53 0 rfl rfl ?_
          refine G_7_0 X inX7 wFL_X7_7 dX7_puts_54 ?_
          refine V_iconst (v := (nI 1)) X dX7_puts_57 (by decide) ?_
          refine V_iload_n X dX7_puts_58 3 rfl rfl ?_
          refine V_iadd X dX7_puts_59 ?_
          refine V_aload_n X dX7_puts_60 0 rfl rfl ?_
          refine G_7_0 X inX7 wFL_X7_7 dX7_puts_61 ?_
          refine V_iconst (v := (nI 1)) X dX7_puts_64 (by decide) ?_
          refine V_iload_n X dX7_puts_65 3 rfl rfl ?_
          refine V_iadd X dX7_puts_66 ?_
          refine V_iconst (v := (nI 1)) X dX7_puts_67 (by decide) ?_
          refine V_isub X dX7_puts_68 ?_
          refine A_c41_ld X h dX7_puts_69 (fun hb13 h => ?_)
          refine A_c41_st X h dX7_puts_70 (fun hb14 h => ?_)
          refine V_iinc (v := (z8.1 + (-1 : Int32))) (L' := [(3, .int (z8.1 + (-1 : Int32))), (0, .ref (q 40)), (1, .int a1), (2, .int a2)]) (j := 3) X dX7_puts_71 rfl rfl (by decide) rfl ?_
          refine V_goto X 48 dX7_puts_74 (by decide) ?_
          exact V_sub [1, 2, 3, 0] rfl h
      · refine V_ldc X wKI_X7_47 dX7_puts_38 ?_
        have h : ((-1000003 : Int32), M) = (rv, M') := h
        exact R_i X hr hlk (congrArg Prod.fst h) (congrArg Prod.snd h) dX7_puts_40
    · refine V_ldc X wKI_X7_42 dX7_puts_24 ?_
      have h : ((-1000001 : Int32), M) = (rv, M') := h
      exact R_i X hr hlk (congrArg Prod.fst h) (congrArg Prod.snd h) dX7_puts_26
def rm_X7_acted : Room := { frames := 0, cells := 0, slots := 0, locals := 0 }
def f_X7_acted (F : Nat) (a1 : Int32) (M : Mm) : Option (Int32 × Mm) :=
  if a1 ≤ (-1000001 : Int32) then (some (a1, M)) else (jn (if (M 40 4) = (nI 4) then (lpf (fun z2 : Int32 × Mm => if (nI 183) ≤ z2.1 then (some (.inr (.inl (up z2.2 40 4 ((z2.2 40 4) - (nI 1)))))) else (if inb (z2.1 + (nI 61)) 244 = true then if inb z2.1 244 = true then some (.inl ((z2.1 + (nI 1)), (up z2.2 42 (Int32.toNatClampNeg z2.1) (z2.2 42 (Int32.toNatClampNeg (z2.1 + (nI 61))))))) else none else none)) F ((nI 0), M)) else (some (.inl M))) (fun z1 : Mm => lpf (fun z5 : Int32 × Mm => if (nI 61) ≤ z5.1 then (some (.inr (a1, (up z5.2 40 4 ((z5.2 40 4) + (nI 1)))))) else (if inb z5.1 61 = true then if inb (((nI 61) * (z5.2 40 4)) + z5.1) 244 = true then some (.inl ((z5.1 + (nI 1)), (up z5.2 42 (Int32.toNatClampNeg (((nI 61) * (z5.2 40 4)) + z5.1)) (z5.2 43 (Int32.toNatClampNeg z5.1))))) else none else none)) F ((nI 0), z1)))
set_option maxRecDepth 100000 in
set_option maxHeartbeats 4000000 in
theorem k_X7_acted (l : Launch) (D : va_G) (cy : Nat → ClassId) (q : Nat → Nat) (F : Nat) (a1 : Int32) (M : Mm) (rv : Int32) (M' : Mm) (h0 : f_X7_acted F a1 M = some (rv, M')) : KI l yX7_acted (Cond.code yX7_acted cX7_acted 3 (Option.some FieldType.int) :: gw) rm_X7_acted D cy q [.ref (q 40), .int a1] M rv M' := by
  refine KI.mk (L0 := [(0, .ref (q 40)), (1, .int a1)]) (by decide +kernel) rfl (Nat.le_of_ble_eq_true rfl) rfl rfl rfl ?_
  intro p e s m below meth c X0 hr hlk
  have X := Fx.gw (own := RX7) X0
  clear X0
  have h : Ok (f_X7_acted F a1 M) (fun r => r = (rv, M')) := Ok.of h0 rfl
  clear h0
  delta f_X7_acted at h
  refine V_iload_n X dX7_acted_0 1 rfl rfl ?_
  refine V_ldc X wKI_X7_42 dX7_acted_1 ?_
  refine B_icmp_le X 98 dX7_acted_3 (by decide) h (fun h => ?_) (fun h => ?_)
  · refine V_iload_n X dX7_acted_98 1 rfl rfl ?_
    have h : (a1, M) = (rv, M') := h
    exact R_i X hr hlk (congrArg Prod.fst h) (congrArg Prod.snd h) dX7_acted_99
  · refine V_aload_n X dX7_acted_6 0 rfl rfl ?_
    refine G_7_4 X inX7 wFL_X7_43 dX7_acted_7 ?_
    refine V_iconst (v := (nI 4)) X dX7_acted_10 (by decide) ?_
    refine V_join X h (fun z1 => z1) (fun z1 => [(0, .ref (q 40)), (1, .int a1)]) (fun z1 => []) 54 (fun z1 h => ?_) (fun h => ?_)
    · refine V_iconst (v := (nI 0)) X dX7_acted_54 (by decide) ?_
      refine V_istore_n (L' := [(2, .int (nI 0)), (0, .ref (q 40)), (1, .int a1)]) X dX7_acted_55 rfl (by decide) rfl ?_
      refine V_sub (L' := [(0, .ref (q 40)), (1, .int a1), (2, .int (nI 0))]) [1, 2, 0] rfl ?_
      refine V_loop X h (fun z5 => z5.2) (fun z5 => [(0, .ref (q 40)), (1, .int a1), (2, .int z5.1)]) rfl rfl (fun z5 h => ?_)
      refine V_iload_n X dX7_acted_56 2 rfl rfl ?_
      refine V_bipush (v := (nI 61)) X dX7_acted_57 (by decide) ?_
      refine B_icmp_ge X 88 dX7_acted_59 (by decide) h (fun h => ?_) (fun h => ?_)
      · refine V_aload_n X dX7_acted_88 0 rfl rfl ?_
        refine V_dup X dX7_acted_89 rfl ?_
        refine G_7_4 X inX7 wFL_X7_43 dX7_acted_90 ?_
        refine V_iconst (v := (nI 1)) X dX7_acted_93 (by decide) ?_
        refine V_iadd X dX7_acted_94 ?_
        refine P_7_4 X inX7 wFL_X7_43 dX7_acted_95 ?_
        refine V_iload_n X dX7_acted_98 1 rfl rfl ?_
        have h : (a1, (up z5.2 40 4 ((z5.2 40 4) + (nI 1)))) = (rv, M') := h
        exact R_i X hr hlk (congrArg Prod.fst h) (congrArg Prod.snd h) dX7_acted_99
      · refine V_aload_n X dX7_acted_62 0 rfl rfl ?_
        refine G_7_1 X inX7 wFL_X7_13 dX7_acted_63 ?_
        refine V_bipush (v := (nI 61)) X dX7_acted_66 (by decide) ?_
        refine V_aload_n X dX7_acted_68 0 rfl rfl ?_
        refine G_7_4 X inX7 wFL_X7_43 dX7_acted_69 ?_
        refine V_imul X dX7_acted_72 ?_
        refine V_iload_n X dX7_acted_73 2 rfl rfl ?_
        refine V_iadd X dX7_acted_74 ?_
        refine V_aload_n X dX7_acted_75 0 rfl rfl ?_
        refine G_7_2 X inX7 wFL_X7_16 dX7_acted_76 ?_
        refine V_iload_n X dX7_acted_79 2 rfl rfl ?_
        refine A_c43_ld X h dX7_acted_80 (fun hb6 h => ?_)
        refine A_c42_st X h dX7_acted_81 (fun hb7 h => ?_)
        refine V_iinc (v := (z5.1 + (nI 1))) (L' := [(2, .int (z5.1 + (nI 1))), (0, .ref (q 40)), (1, .int a1)]) (j := 2) X dX7_acted_82 rfl rfl (by decide) rfl ?_
        refine V_goto X 56 dX7_acted_85 (by decide) ?_
        exact V_sub [1, 2, 0] rfl h
    · refine B_icmp_ne X 54 dX7_acted_11 (by decide) h (fun h => ?_) (fun h => ?_)
      · exact V_sub [0, 1] rfl h
      · refine V_iconst (v := (nI 0)) X dX7_acted_14 (by decide) ?_
        refine V_istore_n (L' := [(2, .int (nI 0)), (0, .ref (q 40)), (1, .int a1)]) X dX7_acted_15 rfl (by decide) rfl ?_
        refine V_sub (L' := [(0, .ref (q 40)), (1, .int a1), (2, .int (nI 0))]) [1, 2, 0] rfl ?_
        refine V_loop X h (fun z2 => z2.2) (fun z2 => [(0, .ref (q 40)), (1, .int a1), (2, .int z2.1)]) rfl rfl (fun z2 h => ?_)
        refine V_iload_n X dX7_acted_16 2 rfl rfl ?_
        refine V_sipush (v := (nI 183)) X dX7_acted_17 (by decide) ?_
        refine B_icmp_ge X 44 dX7_acted_20 (by decide) h (fun h => ?_) (fun h => ?_)
        · refine V_aload_n X dX7_acted_44 0 rfl rfl ?_
          refine V_dup X dX7_acted_45 rfl ?_
          refine G_7_4 X inX7 wFL_X7_43 dX7_acted_46 ?_
          refine V_iconst (v := (nI 1)) X dX7_acted_49 (by decide) ?_
          refine V_isub X dX7_acted_50 ?_
          refine P_7_4 X inX7 wFL_X7_43 dX7_acted_51 ?_
          exact V_sub [0, 1] rfl h
        · refine V_aload_n X dX7_acted_23 0 rfl rfl ?_
          refine G_7_1 X inX7 wFL_X7_13 dX7_acted_24 ?_
          refine V_iload_n X dX7_acted_27 2 rfl rfl ?_
          refine V_aload_n X dX7_acted_28 0 rfl rfl ?_
          refine G_7_1 X inX7 wFL_X7_13 dX7_acted_29 ?_
          refine V_iload_n X dX7_acted_32 2 rfl rfl ?_
          refine V_bipush (v := (nI 61)) X dX7_acted_33 (by decide) ?_
          refine V_iadd X dX7_acted_35 ?_
          refine A_c42_ld X h dX7_acted_36 (fun hb3 h => ?_)
          refine A_c42_st X h dX7_acted_37 (fun hb4 h => ?_)
          refine V_iinc (v := (z2.1 + (nI 1))) (L' := [(2, .int (z2.1 + (nI 1))), (0, .ref (q 40)), (1, .int a1)]) (j := 2) X dX7_acted_38 rfl rfl (by decide) rfl ?_
          refine V_goto X 16 dX7_acted_41 (by decide) ?_
          exact V_sub [1, 2, 0] rfl h
def rm_X7_put : Room := { frames := 2, cells := 0, slots := 0, locals := 45 }
def f_X7_put (F : Nat) (a1 : Int32) (a2 : Int32) (M : Mm) : Option (Int32 × Mm) :=
  (f_X7_keeps F M).bind fun r1 => (f_X7_puts F a1 a2 r1).bind fun r3 => (f_X7_acted F r3.1 r3.2).bind fun r5 => some (r5.1, r5.2)
set_option maxRecDepth 100000 in
set_option maxHeartbeats 4000000 in
theorem k_X7_put (l : Launch) (D : va_G) (cy : Nat → ClassId) (q : Nat → Nat) (F : Nat) (a1 : Int32) (a2 : Int32) (M : Mm) (rv : Int32) (M' : Mm) (h0 : f_X7_put F a1 a2 M = some (rv, M')) : KI l yX7_put (Cond.code yX7_put cX7_put 3 (Option.some FieldType.int) :: gw) rm_X7_put D cy q [.ref (q 40), .int a1, .int a2] M rv M' := by
  refine KI.mk (L0 := [(0, .ref (q 40)), (1, .int a1), (2, .int a2)]) (by decide +kernel) rfl (Nat.le_of_ble_eq_true rfl) rfl rfl rfl ?_
  intro p e s m below meth c X0 hr hlk
  have X := Fx.gw (own := RX7) X0
  clear X0
  have h : Ok (f_X7_put F a1 a2 M) (fun r => r = (rv, M')) := Ok.of h0 rfl
  clear h0
  delta f_X7_put at h
  refine V_aload_n X dX7_put_0 0 rfl rfl ?_
  obtain ⟨r1, e2, h⟩ := (Ok.bind h).ex
  refine C_Vv (As := []) (M' := r1) (k0 := 40) X rfl rfl (cwV 0 X.1.2.2.2.2 (gw_V wML_X7_48 wIM_X7_keeps wSE_X7_keeps wIN_X7 (gw_c wCD_X7_keeps)) rfl rfl rfl (by decide +kernel) ⟨Nat.le_of_ble_eq_true rfl, Nat.le_of_ble_eq_true rfl⟩) rfl rfl (Nat.le_of_ble_eq_true rfl) ⟨Nat.zero_le _, Nat.zero_le _⟩ (k_X7_keeps l D cy q F M r1 e2) dX7_put_1 ?_
  refine V_aload_n X dX7_put_4 0 rfl rfl ?_
  refine V_aload_n X dX7_put_5 0 rfl rfl ?_
  refine V_iload_n X dX7_put_6 1 rfl rfl ?_
  refine V_iload_n X dX7_put_7 2 rfl rfl ?_
  obtain ⟨r3, e4, h⟩ := (Ok.bind h).ex
  refine C_Vi (As := [.int a1, .int a2]) (M' := r3.2) (k0 := 40) X rfl rfl (cwV 2 X.1.2.2.2.2 (gw_V wML_X7_51 wIM_X7_puts wSE_X7_puts wIN_X7 (gw_c wCD_X7_puts)) rfl rfl rfl (by decide +kernel) ⟨Nat.le_of_ble_eq_true rfl, Nat.le_of_ble_eq_true rfl⟩) rfl rfl (Nat.le_of_ble_eq_true rfl) ⟨Nat.zero_le _, Nat.zero_le _⟩ (k_X7_puts l D cy q F a1 a2 r1 r3.1 r3.2 e4) dX7_put_8 ?_
  obtain ⟨r5, e6, h⟩ := (Ok.bind h).ex
  refine C_Vi (As := [.int r3.1]) (M' := r5.2) (k0 := 40) X rfl rfl (cwV 1 X.1.2.2.2.2 (gw_V wML_X7_55 wIM_X7_acted wSE_X7_acted wIN_X7 (gw_c wCD_X7_acted)) rfl rfl rfl (by decide +kernel) ⟨Nat.le_of_ble_eq_true rfl, Nat.le_of_ble_eq_true rfl⟩) rfl rfl (Nat.le_of_ble_eq_true rfl) ⟨Nat.zero_le _, Nat.zero_le _⟩ (k_X7_acted l D cy q F r3.1 r3.2 r5.1 r5.2 e6) dX7_put_11 ?_
  have h : (r5.1, r5.2) = (rv, M') := h
  exact R_i X hr hlk (congrArg Prod.fst h) (congrArg Prod.snd h) dX7_put_14
def rm_X7_isPlace : Room := { frames := 1, cells := 0, slots := 0, locals := 22 }
def f_X7_isPlace (a1 : Int32) (M : Mm) : Option (Int32) :=
  if inb (nI 0) 61 = true then (f_X7_in a1 (nI 0) ((M 41 (Int32.toNatClampNeg (nI 0))) - (nI 1))).bind fun r2 => if isB r2 = true then some r2 else none else none
set_option maxRecDepth 100000 in
set_option maxHeartbeats 4000000 in
theorem k_X7_isPlace (l : Launch) (D : va_G) (cy : Nat → ClassId) (q : Nat → Nat) (a1 : Int32) (M : Mm) (rv : Int32) (h0 : f_X7_isPlace a1 M = some rv) : KI l yX7_isPlace (Cond.code yX7_isPlace cX7_isPlace 2 (Option.some FieldType.boolean) :: gw) rm_X7_isPlace D cy q [.ref (q 40), .int a1] M rv M := by
  refine KI.mk (L0 := [(0, .ref (q 40)), (1, .int a1)]) (by decide +kernel) rfl (Nat.le_of_ble_eq_true rfl) rfl rfl rfl ?_
  intro p e s m below meth c X0 hr hlk
  have X := Fx.gw (own := RX7) X0
  clear X0
  have h : Ok (f_X7_isPlace a1 M) (fun r => r = rv) := Ok.of h0 rfl
  clear h0
  delta f_X7_isPlace at h
  refine V_iload_n X dX7_isPlace_0 1 rfl rfl ?_
  refine V_iconst (v := (nI 0)) X dX7_isPlace_1 (by decide) ?_
  refine V_aload_n X dX7_isPlace_2 0 rfl rfl ?_
  refine G_7_0 X inX7 wFL_X7_7 dX7_isPlace_3 ?_
  refine V_iconst (v := (nI 0)) X dX7_isPlace_6 (by decide) ?_
  refine A_c41_ld X h dX7_isPlace_7 (fun hb1 h => ?_)
  refine V_iconst (v := (nI 1)) X dX7_isPlace_8 (by decide) ?_
  refine V_isub X dX7_isPlace_9 ?_
  obtain ⟨r2, e3, h⟩ := (Ok.bind h).ex
  refine C_Si (As := [.int a1, .int (nI 0), .int ((M 41 (Int32.toNatClampNeg (nI 0))) - (nI 1))]) (M' := M) X (va_cwS 3 X.1.2.2.2.2 (gw_S wML_X7_38 wST_X7_in wIN_X7 (gw_c wCD_X7_in)) rfl rfl rfl (by decide +kernel) ⟨Nat.le_of_ble_eq_true rfl, Nat.le_of_ble_eq_true rfl⟩) rfl rfl (Nat.le_of_ble_eq_true rfl) ⟨Nat.zero_le _, Nat.zero_le _⟩ (k_X7_in l D cy q a1 (nI 0) ((M 41 (Int32.toNatClampNeg (nI 0))) - (nI 1)) M r2 e3) dX7_isPlace_10 ?_
  obtain ⟨hz4, h⟩ := h.test
  have h : r2 = rv := h
  exact R_z X hr hlk (isB_ok hz4) h rfl dX7_isPlace_13
def rm_X7_takes : Room := { frames := 2, cells := 0, slots := 0, locals := 43 }
def f_X7_takes (F : Nat) (a1 : Int32) (M : Mm) : Option (Int32 × Mm) :=
  (f_X7_isPlace a1 M).bind fun r1 => if r1 = 0 then (some ((-1000001 : Int32), M)) else (if inb ((nI 1) + a1) 61 = true then if inb (nI 0) 61 = true then if inb (nI 0) 61 = true then lpf (fun z6 : Int32 × Mm => if inb (nI 0) 61 = true then if (z6.2 41 (Int32.toNatClampNeg (nI 0))) ≤ z6.1 then (some (.inr ((M 41 (Int32.toNatClampNeg ((nI 1) + a1))), z6.2))) else (if inb (((nI 1) + z6.1) + (nI 1)) 61 = true then if inb ((nI 1) + z6.1) 61 = true then some (.inl ((z6.1 + (nI 1)), (up z6.2 41 (Int32.toNatClampNeg ((nI 1) + z6.1)) (z6.2 41 (Int32.toNatClampNeg (((nI 1) + z6.1) + (nI 1))))))) else none else none) else none) F (a1, (up M 41 (Int32.toNatClampNeg (nI 0)) ((M 41 (Int32.toNatClampNeg (nI 0))) - (nI 1)))) else none else none else none)
set_option maxRecDepth 100000 in
set_option maxHeartbeats 4000000 in
theorem k_X7_takes (l : Launch) (D : va_G) (cy : Nat → ClassId) (q : Nat → Nat) (F : Nat) (a1 : Int32) (M : Mm) (rv : Int32) (M' : Mm) (h0 : f_X7_takes F a1 M = some (rv, M')) : KI l yX7_takes (Cond.code yX7_takes cX7_takes 4 (Option.some FieldType.int) :: gw) rm_X7_takes D cy q [.ref (q 40), .int a1] M rv M' := by
  refine KI.mk (L0 := [(0, .ref (q 40)), (1, .int a1)]) (by decide +kernel) rfl (Nat.le_of_ble_eq_true rfl) rfl rfl rfl ?_
  intro p e s m below meth c X0 hr hlk
  have X := Fx.gw (own := RX7) X0
  clear X0
  have h : Ok (f_X7_takes F a1 M) (fun r => r = (rv, M')) := Ok.of h0 rfl
  clear h0
  delta f_X7_takes at h
  refine V_aload_n X dX7_takes_0 0 rfl rfl ?_
  refine V_iload_n X dX7_takes_1 1 rfl rfl ?_
  obtain ⟨r1, e2, h⟩ := (Ok.bind h).ex
  refine C_Vi (As := [.int a1]) (M' := M) (k0 := 40) X rfl rfl (cwV 1 X.1.2.2.2.2 (gw_V wML_X7_59 wIM_X7_isPlace wSE_X7_isPlace wIN_X7 (gw_c wCD_X7_isPlace)) rfl rfl rfl (by decide +kernel) ⟨Nat.le_of_ble_eq_true rfl, Nat.le_of_ble_eq_true rfl⟩) rfl rfl (Nat.le_of_ble_eq_true rfl) ⟨Nat.zero_le _, Nat.zero_le _⟩ (k_X7_isPlace l D cy q a1 M r1 e2) dX7_takes_2 ?_
  refine B_if_ne X 11 dX7_takes_5 (by decide) h (fun h => ?_) (fun h => ?_)
  · refine V_aload_n X dX7_takes_11 0 rfl rfl ?_
    refine G_7_0 X inX7 wFL_X7_7 dX7_takes_12 ?_
    refine V_iconst (v := (nI 1)) X dX7_takes_15 (by decide) ?_
    refine V_iload_n X dX7_takes_16 1 rfl rfl ?_
    refine V_iadd X dX7_takes_17 ?_
    refine A_c41_ld X h dX7_takes_18 (fun hb3 h => ?_)
    refine V_istore_n (L' := [(2, .int (M 41 (Int32.toNatClampNeg ((nI 1) + a1)))), (0, .ref (q 40)), (1, .int a1)]) X dX7_takes_19 rfl (by decide) rfl ?_
    refine V_aload_n X dX7_takes_20 1 rfl rfl ?_
    refine G_7_0 X inX7 wFL_X7_7 dX7_takes_21 ?_
    refine V_iconst (v := (nI 0)) X dX7_takes_24 (by decide) ?_
    refine V_dup2 X dX7_takes_25 rfl rfl ?_
    refine A_c41_ld X h dX7_takes_26 (fun hb4 h => ?_)
    refine V_iconst (v := (nI 1)) X dX7_takes_27 (by decide) ?_
    refine V_isub X dX7_takes_28 ?_
    refine A_c41_st X h dX7_takes_29 (fun hb5 h => ?_)
    refine V_iload_n X dX7_takes_30 2 rfl rfl ?_
    refine V_istore_n (L' := [(3, .int a1), (2, .int (M 41 (Int32.toNatClampNeg ((nI 1) + a1)))), (0, .ref (q 40)), (1, .int a1)]) X dX7_takes_31 rfl (by decide) rfl ?_
    refine V_sub (L' := [(0, .ref (q 40)), (2, .int (M 41 (Int32.toNatClampNeg ((nI 1) + a1)))), (3, .int a1)]) [2, 1, 0] rfl ?_
    refine V_loop X h (fun z6 => z6.2) (fun z6 => [(0, .ref (q 40)), (2, .int (M 41 (Int32.toNatClampNeg ((nI 1) + a1)))), (3, .int z6.1)]) rfl rfl (fun z6 h => ?_)
    refine V_iload_n X dX7_takes_32 2 rfl rfl ?_
    refine V_aload_n X dX7_takes_33 0 rfl rfl ?_
    refine G_7_0 X inX7 wFL_X7_7 dX7_takes_34 ?_
    refine V_iconst (v := (nI 0)) X dX7_takes_37 (by decide) ?_
    refine A_c41_ld X h dX7_takes_38 (fun hb7 h => ?_)
    refine B_icmp_ge X 66 dX7_takes_39 (by decide) h (fun h => ?_) (fun h => ?_)
    · refine V_iload_n X dX7_takes_66 1 rfl rfl ?_
      have h : ((M 41 (Int32.toNatClampNeg ((nI 1) + a1))), z6.2) = (rv, M') := h
      exact R_i X hr hlk (congrArg Prod.fst h) (congrArg Prod.snd h) dX7_takes_67
    · refine V_aload_n X dX7_takes_42 0 rfl rfl ?_
      refine G_7_0 X inX7 wFL_X7_7 dX7_takes_43 ?_
      refine V_iconst (v := (nI 1)) X dX7_takes_46 (by decide) ?_
      refine V_iload_n X dX7_takes_47 2 rfl rfl ?_
      refine V_iadd X dX7_takes_48 ?_
      refine V_aload_n X dX7_takes_49 0 rfl rfl ?_
      refine G_7_0 X inX7 wFL_X7_7 dX7_takes_50 ?_
      refine V_iconst (v := (nI 1)) X dX7_takes_53 (by decide) ?_
      refine V_iload_n X dX7_takes_54 2 rfl rfl ?_
      refine V_iadd X dX7_takes_55 ?_
      refine V_iconst (v := (nI 1)) X dX7_takes_56 (by decide) ?_
      refine V_iadd X dX7_takes_57 ?_
      refine A_c41_ld X h dX7_takes_58 (fun hb8 h => ?_)
      refine A_c41_st X h dX7_takes_59 (fun hb9 h => ?_)
      refine V_iinc (v := (z6.1 + (nI 1))) (L' := [(3, .int (z6.1 + (nI 1))), (0, .ref (q 40)), (2, .int (M 41 (Int32.toNatClampNeg ((nI 1) + a1))))]) (j := 2) X dX7_takes_60 rfl rfl (by decide) rfl ?_
      refine V_goto X 32 dX7_takes_63 (by decide) ?_
      exact V_sub [1, 2, 0] rfl h
  · refine V_ldc X wKI_X7_42 dX7_takes_8 ?_
    have h : ((-1000001 : Int32), M) = (rv, M') := h
    exact R_i X hr hlk (congrArg Prod.fst h) (congrArg Prod.snd h) dX7_takes_10
def rm_X7_take : Room := { frames := 3, cells := 0, slots := 0, locals := 66 }
def f_X7_take (F : Nat) (a1 : Int32) (M : Mm) : Option (Int32 × Mm) :=
  (f_X7_keeps F M).bind fun r1 => (f_X7_takes F a1 r1).bind fun r3 => (f_X7_acted F r3.1 r3.2).bind fun r5 => some (r5.1, r5.2)
set_option maxRecDepth 100000 in
set_option maxHeartbeats 4000000 in
theorem k_X7_take (l : Launch) (D : va_G) (cy : Nat → ClassId) (q : Nat → Nat) (F : Nat) (a1 : Int32) (M : Mm) (rv : Int32) (M' : Mm) (h0 : f_X7_take F a1 M = some (rv, M')) : KI l yX7_take (Cond.code yX7_take cX7_take 2 (Option.some FieldType.int) :: gw) rm_X7_take D cy q [.ref (q 40), .int a1] M rv M' := by
  refine KI.mk (L0 := [(0, .ref (q 40)), (1, .int a1)]) (by decide +kernel) rfl (Nat.le_of_ble_eq_true rfl) rfl rfl rfl ?_
  intro p e s m below meth c X0 hr hlk
  have X := Fx.gw (own := RX7) X0
  clear X0
  have h : Ok (f_X7_take F a1 M) (fun r => r = (rv, M')) := Ok.of h0 rfl
  clear h0
  delta f_X7_take at h
  refine V_aload_n X dX7_take_0 0 rfl rfl ?_
  obtain ⟨r1, e2, h⟩ := (Ok.bind h).ex
  refine C_Vv (As := []) (M' := r1) (k0 := 40) X rfl rfl (cwV 0 X.1.2.2.2.2 (gw_V wML_X7_48 wIM_X7_keeps wSE_X7_keeps wIN_X7 (gw_c wCD_X7_keeps)) rfl rfl rfl (by decide +kernel) ⟨Nat.le_of_ble_eq_true rfl, Nat.le_of_ble_eq_true rfl⟩) rfl rfl (Nat.le_of_ble_eq_true rfl) ⟨Nat.zero_le _, Nat.zero_le _⟩ (k_X7_keeps l D cy q F M r1 e2) dX7_take_1 ?_
  refine V_aload_n X dX7_take_4 0 rfl rfl ?_
  refine V_aload_n X dX7_take_5 0 rfl rfl ?_
  refine V_iload_n X dX7_take_6 1 rfl rfl ?_
  obtain ⟨r3, e4, h⟩ := (Ok.bind h).ex
  refine C_Vi (As := [.int a1]) (M' := r3.2) (k0 := 40) X rfl rfl (cwV 1 X.1.2.2.2.2 (gw_V wML_X7_63 wIM_X7_takes wSE_X7_takes wIN_X7 (gw_c wCD_X7_takes)) rfl rfl rfl (by decide +kernel) ⟨Nat.le_of_ble_eq_true rfl, Nat.le_of_ble_eq_true rfl⟩) rfl rfl (Nat.le_of_ble_eq_true rfl) ⟨Nat.zero_le _, Nat.zero_le _⟩ (k_X7_takes l D cy q F a1 r1 r3.1 r3.2 e4) dX7_take_7 ?_
  obtain ⟨r5, e6, h⟩ := (Ok.bind h).ex
  refine C_Vi (As := [.int r3.1]) (M' := r5.2) (k0 := 40) X rfl rfl (cwV 1 X.1.2.2.2.2 (gw_V wML_X7_55 wIM_X7_acted wSE_X7_acted wIN_X7 (gw_c wCD_X7_acted)) rfl rfl rfl (by decide +kernel) ⟨Nat.le_of_ble_eq_true rfl, Nat.le_of_ble_eq_true rfl⟩) rfl rfl (Nat.le_of_ble_eq_true rfl) ⟨Nat.zero_le _, Nat.zero_le _⟩ (k_X7_acted l D cy q F r3.1 r3.2 r5.1 r5.2 e6) dX7_take_10 ?_
  have h : (r5.1, r5.2) = (rv, M') := h
  exact R_i X hr hlk (congrArg Prod.fst h) (congrArg Prod.snd h) dX7_take_13
def rm_X7_change : Room := { frames := 2, cells := 0, slots := 0, locals := 43 }
def f_X7_change (F : Nat) (a1 : Int32) (a2 : Int32) (M : Mm) : Option (Int32 × Mm) :=
  (f_X7_isPlace a1 M).bind fun r1 => if r1 = 0 then (some ((-1000001 : Int32), M)) else ((f_X7_in a2 (nI 0) (nI 15)).bind fun r3 => if r3 = 0 then (some ((-1000001 : Int32), M)) else ((f_X7_keeps F M).bind fun r5 => if inb ((nI 1) + a1) 61 = true then if inb ((nI 1) + a1) 61 = true then (f_X7_acted F (r5 41 (Int32.toNatClampNeg ((nI 1) + a1))) (up r5 41 (Int32.toNatClampNeg ((nI 1) + a1)) a2)).bind fun r9 => some (r9.1, r9.2) else none else none))
set_option maxRecDepth 100000 in
set_option maxHeartbeats 4000000 in
theorem k_X7_change (l : Launch) (D : va_G) (cy : Nat → ClassId) (q : Nat → Nat) (F : Nat) (a1 : Int32) (a2 : Int32) (M : Mm) (rv : Int32) (M' : Mm) (h0 : f_X7_change F a1 a2 M = some (rv, M')) : KI l yX7_change (Cond.code yX7_change cX7_change 4 (Option.some FieldType.int) :: gw) rm_X7_change D cy q [.ref (q 40), .int a1, .int a2] M rv M' := by
  refine KI.mk (L0 := [(0, .ref (q 40)), (1, .int a1), (2, .int a2)]) (by decide +kernel) rfl (Nat.le_of_ble_eq_true rfl) rfl rfl rfl ?_
  intro p e s m below meth c X0 hr hlk
  have X := Fx.gw (own := RX7) X0
  clear X0
  have h : Ok (f_X7_change F a1 a2 M) (fun r => r = (rv, M')) := Ok.of h0 rfl
  clear h0
  delta f_X7_change at h
  refine V_aload_n X dX7_change_0 0 rfl rfl ?_
  refine V_iload_n X dX7_change_1 1 rfl rfl ?_
  obtain ⟨r1, e2, h⟩ := (Ok.bind h).ex
  refine C_Vi (As := [.int a1]) (M' := M) (k0 := 40) X rfl rfl (cwV 1 X.1.2.2.2.2 (gw_V wML_X7_59 wIM_X7_isPlace wSE_X7_isPlace wIN_X7 (gw_c wCD_X7_isPlace)) rfl rfl rfl (by decide +kernel) ⟨Nat.le_of_ble_eq_true rfl, Nat.le_of_ble_eq_true rfl⟩) rfl rfl (Nat.le_of_ble_eq_true rfl) ⟨Nat.zero_le _, Nat.zero_le _⟩ (k_X7_isPlace l D cy q a1 M r1 e2) dX7_change_2 ?_
  refine B_if_eq X 18 dX7_change_5 (by decide) h (fun h => ?_) (fun h => ?_)
  · refine V_ldc X wKI_X7_42 dX7_change_18 ?_
    have h : ((-1000001 : Int32), M) = (rv, M') := h
    exact R_i X hr hlk (congrArg Prod.fst h) (congrArg Prod.snd h) dX7_change_20
  · refine V_iload_n X dX7_change_8 2 rfl rfl ?_
    refine V_iconst (v := (nI 0)) X dX7_change_9 (by decide) ?_
    refine V_bipush (v := (nI 15)) X dX7_change_10 (by decide) ?_
    obtain ⟨r3, e4, h⟩ := (Ok.bind h).ex
    refine C_Si (As := [.int a2, .int (nI 0), .int (nI 15)]) (M' := M) X (va_cwS 3 X.1.2.2.2.2 (gw_S wML_X7_38 wST_X7_in wIN_X7 (gw_c wCD_X7_in)) rfl rfl rfl (by decide +kernel) ⟨Nat.le_of_ble_eq_true rfl, Nat.le_of_ble_eq_true rfl⟩) rfl rfl (Nat.le_of_ble_eq_true rfl) ⟨Nat.zero_le _, Nat.zero_le _⟩ (k_X7_in l D cy q a2 (nI 0) (nI 15) M r3 e4) dX7_change_12 ?_
    refine B_if_ne X 21 dX7_change_15 (by decide) h (fun h => ?_) (fun h => ?_)
    · refine V_aload_n X dX7_change_21 0 rfl rfl ?_
      obtain ⟨r5, e6, h⟩ := (Ok.bind h).ex
      refine C_Vv (As := []) (M' := r5) (k0 := 40) X rfl rfl (cwV 0 X.1.2.2.2.2 (gw_V wML_X7_48 wIM_X7_keeps wSE_X7_keeps wIN_X7 (gw_c wCD_X7_keeps)) rfl rfl rfl (by decide +kernel) ⟨Nat.le_of_ble_eq_true rfl, Nat.le_of_ble_eq_true rfl⟩) rfl rfl (Nat.le_of_ble_eq_true rfl) ⟨Nat.zero_le _, Nat.zero_le _⟩ (k_X7_keeps l D cy q F M r5 e6) dX7_change_22 ?_
      refine V_aload_n X dX7_change_25 0 rfl rfl ?_
      refine G_7_0 X inX7 wFL_X7_7 dX7_change_26 ?_
      refine V_iconst (v := (nI 1)) X dX7_change_29 (by decide) ?_
      refine V_iload_n X dX7_change_30 1 rfl rfl ?_
      refine V_iadd X dX7_change_31 ?_
      refine A_c41_ld X h dX7_change_32 (fun hb7 h => ?_)
      refine V_istore_n (L' := [(3, .int (r5 41 (Int32.toNatClampNeg ((nI 1) + a1)))), (0, .ref (q 40)), (1, .int a1), (2, .int a2)]) X dX7_change_33 rfl (by decide) rfl ?_
      refine V_aload_n X dX7_change_34 1 rfl rfl ?_
      refine G_7_0 X inX7 wFL_X7_7 dX7_change_35 ?_
      refine V_iconst (v := (nI 1)) X dX7_change_38 (by decide) ?_
      refine V_iload_n X dX7_change_39 2 rfl rfl ?_
      refine V_iadd X dX7_change_40 ?_
      refine V_iload_n X dX7_change_41 3 rfl rfl ?_
      refine A_c41_st X h dX7_change_42 (fun hb8 h => ?_)
      refine V_aload_n X dX7_change_43 1 rfl rfl ?_
      refine V_iload_n X dX7_change_44 0 rfl rfl ?_
      obtain ⟨r9, e10, h⟩ := (Ok.bind h).ex
      refine C_Vi (As := [.int (r5 41 (Int32.toNatClampNeg ((nI 1) + a1)))]) (M' := r9.2) (k0 := 40) X rfl rfl (cwV 1 X.1.2.2.2.2 (gw_V wML_X7_55 wIM_X7_acted wSE_X7_acted wIN_X7 (gw_c wCD_X7_acted)) rfl rfl rfl (by decide +kernel) ⟨Nat.le_of_ble_eq_true rfl, Nat.le_of_ble_eq_true rfl⟩) rfl rfl (Nat.le_of_ble_eq_true rfl) ⟨Nat.zero_le _, Nat.zero_le _⟩ (k_X7_acted l D cy q F (r5 41 (Int32.toNatClampNeg ((nI 1) + a1))) (up r5 41 (Int32.toNatClampNeg ((nI 1) + a1)) a2) r9.1 r9.2 e10) dX7_change_45 ?_
      have h : (r9.1, r9.2) = (rv, M') := h
      exact R_i X hr hlk (congrArg Prod.fst h) (congrArg Prod.snd h) dX7_change_48
    · refine V_ldc X wKI_X7_42 dX7_change_18 ?_
      have h : ((-1000001 : Int32), M) = (rv, M') := h
      exact R_i X hr hlk (congrArg Prod.fst h) (congrArg Prod.snd h) dX7_change_20
def rm_X7_swaps : Room := { frames := 2, cells := 0, slots := 0, locals := 43 }
def f_X7_swaps (a1 : Int32) (a2 : Int32) (M : Mm) : Option (Int32 × Mm) :=
  (f_X7_isPlace a1 M).bind fun r1 => if r1 = 0 then (some ((-1000001 : Int32), M)) else ((f_X7_isPlace a2 M).bind fun r3 => if r3 = 0 then (some ((-1000001 : Int32), M)) else (if inb ((nI 1) + a1) 61 = true then if inb ((nI 1) + a2) 61 = true then if inb ((nI 1) + a1) 61 = true then if inb ((nI 1) + a2) 61 = true then if inb ((nI 1) + a1) 61 = true then if (M 41 (Int32.toNatClampNeg ((nI 1) + a1))) = ((up (up M 41 (Int32.toNatClampNeg ((nI 1) + a1)) (M 41 (Int32.toNatClampNeg ((nI 1) + a2)))) 41 (Int32.toNatClampNeg ((nI 1) + a2)) (M 41 (Int32.toNatClampNeg ((nI 1) + a1)))) 41 (Int32.toNatClampNeg ((nI 1) + a1))) then (some ((nI 0), (up (up M 41 (Int32.toNatClampNeg ((nI 1) + a1)) (M 41 (Int32.toNatClampNeg ((nI 1) + a2)))) 41 (Int32.toNatClampNeg ((nI 1) + a2)) (M 41 (Int32.toNatClampNeg ((nI 1) + a1)))))) else (some ((nI 1), (up (up M 41 (Int32.toNatClampNeg ((nI 1) + a1)) (M 41 (Int32.toNatClampNeg ((nI 1) + a2)))) 41 (Int32.toNatClampNeg ((nI 1) + a2)) (M 41 (Int32.toNatClampNeg ((nI 1) + a1)))))) else none else none else none else none else none))
set_option maxRecDepth 100000 in
set_option maxHeartbeats 4000000 in
theorem k_X7_swaps (l : Launch) (D : va_G) (cy : Nat → ClassId) (q : Nat → Nat) (a1 : Int32) (a2 : Int32) (M : Mm) (rv : Int32) (M' : Mm) (h0 : f_X7_swaps a1 a2 M = some (rv, M')) : KI l yX7_swaps (Cond.code yX7_swaps cX7_swaps 4 (Option.some FieldType.int) :: gw) rm_X7_swaps D cy q [.ref (q 40), .int a1, .int a2] M rv M' := by
  refine KI.mk (L0 := [(0, .ref (q 40)), (1, .int a1), (2, .int a2)]) (by decide +kernel) rfl (Nat.le_of_ble_eq_true rfl) rfl rfl rfl ?_
  intro p e s m below meth c X0 hr hlk
  have X := Fx.gw (own := RX7) X0
  clear X0
  have h : Ok (f_X7_swaps a1 a2 M) (fun r => r = (rv, M')) := Ok.of h0 rfl
  clear h0
  delta f_X7_swaps at h
  refine V_aload_n X dX7_swaps_0 0 rfl rfl ?_
  refine V_iload_n X dX7_swaps_1 1 rfl rfl ?_
  obtain ⟨r1, e2, h⟩ := (Ok.bind h).ex
  refine C_Vi (As := [.int a1]) (M' := M) (k0 := 40) X rfl rfl (cwV 1 X.1.2.2.2.2 (gw_V wML_X7_59 wIM_X7_isPlace wSE_X7_isPlace wIN_X7 (gw_c wCD_X7_isPlace)) rfl rfl rfl (by decide +kernel) ⟨Nat.le_of_ble_eq_true rfl, Nat.le_of_ble_eq_true rfl⟩) rfl rfl (Nat.le_of_ble_eq_true rfl) ⟨Nat.zero_le _, Nat.zero_le _⟩ (k_X7_isPlace l D cy q a1 M r1 e2) dX7_swaps_2 ?_
  refine B_if_eq X 16 dX7_swaps_5 (by decide) h (fun h => ?_) (fun h => ?_)
  · refine V_ldc X wKI_X7_42 dX7_swaps_16 ?_
    have h : ((-1000001 : Int32), M) = (rv, M') := h
    exact R_i X hr hlk (congrArg Prod.fst h) (congrArg Prod.snd h) dX7_swaps_18
  · refine V_aload_n X dX7_swaps_8 0 rfl rfl ?_
    refine V_iload_n X dX7_swaps_9 2 rfl rfl ?_
    obtain ⟨r3, e4, h⟩ := (Ok.bind h).ex
    refine C_Vi (As := [.int a2]) (M' := M) (k0 := 40) X rfl rfl (cwV 1 X.1.2.2.2.2 (gw_V wML_X7_59 wIM_X7_isPlace wSE_X7_isPlace wIN_X7 (gw_c wCD_X7_isPlace)) rfl rfl rfl (by decide +kernel) ⟨Nat.le_of_ble_eq_true rfl, Nat.le_of_ble_eq_true rfl⟩) rfl rfl (Nat.le_of_ble_eq_true rfl) ⟨Nat.zero_le _, Nat.zero_le _⟩ (k_X7_isPlace l D cy q a2 M r3 e4) dX7_swaps_10 ?_
    refine B_if_ne X 19 dX7_swaps_13 (by decide) h (fun h => ?_) (fun h => ?_)
    · refine V_aload_n X dX7_swaps_19 0 rfl rfl ?_
      refine G_7_0 X inX7 wFL_X7_7 dX7_swaps_20 ?_
      refine V_iconst (v := (nI 1)) X dX7_swaps_23 (by decide) ?_
      refine V_iload_n X dX7_swaps_24 1 rfl rfl ?_
      refine V_iadd X dX7_swaps_25 ?_
      refine A_c41_ld X h dX7_swaps_26 (fun hb5 h => ?_)
      refine V_istore_n (L' := [(3, .int (M 41 (Int32.toNatClampNeg ((nI 1) + a1)))), (0, .ref (q 40)), (1, .int a1), (2, .int a2)]) X dX7_swaps_27 rfl (by decide) rfl ?_
      refine V_aload_n X dX7_swaps_28 1 rfl rfl ?_
      refine G_7_0 X inX7 wFL_X7_7 dX7_swaps_29 ?_
      refine V_iconst (v := (nI 1)) X dX7_swaps_32 (by decide) ?_
      refine V_iload_n X dX7_swaps_33 2 rfl rfl ?_
      refine V_iadd X dX7_swaps_34 ?_
      refine V_aload_n X dX7_swaps_35 1 rfl rfl ?_
      refine G_7_0 X inX7 wFL_X7_7 dX7_swaps_36 ?_
      refine V_iconst (v := (nI 1)) X dX7_swaps_39 (by decide) ?_
      refine V_iload_n X dX7_swaps_40 3 rfl rfl ?_
      refine V_iadd X dX7_swaps_41 ?_
      refine A_c41_ld X h dX7_swaps_42 (fun hb6 h => ?_)
      refine A_c41_st X h dX7_swaps_43 (fun hb7 h => ?_)
      refine V_aload_n X dX7_swaps_44 1 rfl rfl ?_
      refine G_7_0 X inX7 wFL_X7_7 dX7_swaps_45 ?_
      refine V_iconst (v := (nI 1)) X dX7_swaps_48 (by decide) ?_
      refine V_iload_n X dX7_swaps_49 3 rfl rfl ?_
      refine V_iadd X dX7_swaps_50 ?_
      refine V_iload_n X dX7_swaps_51 0 rfl rfl ?_
      refine A_c41_st X h dX7_swaps_52 (fun hb8 h => ?_)
      refine V_iload_n X dX7_swaps_53 0 rfl rfl ?_
      refine V_aload_n X dX7_swaps_54 1 rfl rfl ?_
      refine G_7_0 X inX7 wFL_X7_7 dX7_swaps_55 ?_
      refine V_iconst (v := (nI 1)) X dX7_swaps_58 (by decide) ?_
      refine V_iload_n X dX7_swaps_59 2 rfl rfl ?_
      refine V_iadd X dX7_swaps_60 ?_
      refine A_c41_ld X h dX7_swaps_61 (fun hb9 h => ?_)
      refine B_icmp_eq X 69 dX7_swaps_62 (by decide) h (fun h => ?_) (fun h => ?_)
      · refine V_iconst (v := (nI 0)) X dX7_swaps_69 (by decide) ?_
        have h : ((nI 0), (up (up M 41 (Int32.toNatClampNeg ((nI 1) + a1)) (M 41 (Int32.toNatClampNeg ((nI 1) + a2)))) 41 (Int32.toNatClampNeg ((nI 1) + a2)) (M 41 (Int32.toNatClampNeg ((nI 1) + a1))))) = (rv, M') := h
        exact R_i X hr hlk (congrArg Prod.fst h) (congrArg Prod.snd h) dX7_swaps_70
      · refine V_iconst (v := (nI 1)) X dX7_swaps_65 (by decide) ?_
        refine V_goto X 70 dX7_swaps_66 (by decide) ?_
        have h : ((nI 1), (up (up M 41 (Int32.toNatClampNeg ((nI 1) + a1)) (M 41 (Int32.toNatClampNeg ((nI 1) + a2)))) 41 (Int32.toNatClampNeg ((nI 1) + a2)) (M 41 (Int32.toNatClampNeg ((nI 1) + a1))))) = (rv, M') := h
        exact R_i X hr hlk (congrArg Prod.fst h) (congrArg Prod.snd h) dX7_swaps_70
    · refine V_ldc X wKI_X7_42 dX7_swaps_16 ?_
      have h : ((-1000001 : Int32), M) = (rv, M') := h
      exact R_i X hr hlk (congrArg Prod.fst h) (congrArg Prod.snd h) dX7_swaps_18
def rm_X7_swap : Room := { frames := 3, cells := 0, slots := 0, locals := 66 }
def f_X7_swap (F : Nat) (a1 : Int32) (a2 : Int32) (M : Mm) : Option (Int32 × Mm) :=
  (f_X7_keeps F M).bind fun r1 => (f_X7_swaps a1 a2 r1).bind fun r3 => (f_X7_acted F r3.1 r3.2).bind fun r5 => some (r5.1, r5.2)
set_option maxRecDepth 100000 in
set_option maxHeartbeats 4000000 in
theorem k_X7_swap (l : Launch) (D : va_G) (cy : Nat → ClassId) (q : Nat → Nat) (F : Nat) (a1 : Int32) (a2 : Int32) (M : Mm) (rv : Int32) (M' : Mm) (h0 : f_X7_swap F a1 a2 M = some (rv, M')) : KI l yX7_swap (Cond.code yX7_swap cX7_swap 3 (Option.some FieldType.int) :: gw) rm_X7_swap D cy q [.ref (q 40), .int a1, .int a2] M rv M' := by
  refine KI.mk (L0 := [(0, .ref (q 40)), (1, .int a1), (2, .int a2)]) (by decide +kernel) rfl (Nat.le_of_ble_eq_true rfl) rfl rfl rfl ?_
  intro p e s m below meth c X0 hr hlk
  have X := Fx.gw (own := RX7) X0
  clear X0
  have h : Ok (f_X7_swap F a1 a2 M) (fun r => r = (rv, M')) := Ok.of h0 rfl
  clear h0
  delta f_X7_swap at h
  refine V_aload_n X dX7_swap_0 0 rfl rfl ?_
  obtain ⟨r1, e2, h⟩ := (Ok.bind h).ex
  refine C_Vv (As := []) (M' := r1) (k0 := 40) X rfl rfl (cwV 0 X.1.2.2.2.2 (gw_V wML_X7_48 wIM_X7_keeps wSE_X7_keeps wIN_X7 (gw_c wCD_X7_keeps)) rfl rfl rfl (by decide +kernel) ⟨Nat.le_of_ble_eq_true rfl, Nat.le_of_ble_eq_true rfl⟩) rfl rfl (Nat.le_of_ble_eq_true rfl) ⟨Nat.zero_le _, Nat.zero_le _⟩ (k_X7_keeps l D cy q F M r1 e2) dX7_swap_1 ?_
  refine V_aload_n X dX7_swap_4 0 rfl rfl ?_
  refine V_aload_n X dX7_swap_5 0 rfl rfl ?_
  refine V_iload_n X dX7_swap_6 1 rfl rfl ?_
  refine V_iload_n X dX7_swap_7 2 rfl rfl ?_
  obtain ⟨r3, e4, h⟩ := (Ok.bind h).ex
  refine C_Vi (As := [.int a1, .int a2]) (M' := r3.2) (k0 := 40) X rfl rfl (cwV 2 X.1.2.2.2.2 (gw_V wML_X7_66 wIM_X7_swaps wSE_X7_swaps wIN_X7 (gw_c wCD_X7_swaps)) rfl rfl rfl (by decide +kernel) ⟨Nat.le_of_ble_eq_true rfl, Nat.le_of_ble_eq_true rfl⟩) rfl rfl (Nat.le_of_ble_eq_true rfl) ⟨Nat.zero_le _, Nat.zero_le _⟩ (k_X7_swaps l D cy q a1 a2 r1 r3.1 r3.2 e4) dX7_swap_8 ?_
  obtain ⟨r5, e6, h⟩ := (Ok.bind h).ex
  refine C_Vi (As := [.int r3.1]) (M' := r5.2) (k0 := 40) X rfl rfl (cwV 1 X.1.2.2.2.2 (gw_V wML_X7_55 wIM_X7_acted wSE_X7_acted wIN_X7 (gw_c wCD_X7_acted)) rfl rfl rfl (by decide +kernel) ⟨Nat.le_of_ble_eq_true rfl, Nat.le_of_ble_eq_true rfl⟩) rfl rfl (Nat.le_of_ble_eq_true rfl) ⟨Nat.zero_le _, Nat.zero_le _⟩ (k_X7_acted l D cy q F r3.1 r3.2 r5.1 r5.2 e6) dX7_swap_11 ?_
  have h : (r5.1, r5.2) = (rv, M') := h
  exact R_i X hr hlk (congrArg Prod.fst h) (congrArg Prod.snd h) dX7_swap_14
def rm_X7_isSpan : Room := { frames := 0, cells := 0, slots := 0, locals := 0 }
def f_X7_isSpan (a1 : Int32) (a2 : Int32) (M : Mm) : Option (Int32) :=
  if a1 < 0 then (some (nI 0)) else (if a2 < a1 then (some (nI 0)) else (if inb (nI 0) 61 = true then if (M 41 (Int32.toNatClampNeg (nI 0))) < a2 then (some (nI 0)) else (some (nI 1)) else none))
set_option maxRecDepth 100000 in
set_option maxHeartbeats 4000000 in
theorem k_X7_isSpan (l : Launch) (D : va_G) (cy : Nat → ClassId) (q : Nat → Nat) (a1 : Int32) (a2 : Int32) (M : Mm) (rv : Int32) (h0 : f_X7_isSpan a1 a2 M = some rv) : KI l yX7_isSpan (Cond.code yX7_isSpan cX7_isSpan 3 (Option.some FieldType.boolean) :: gw) rm_X7_isSpan D cy q [.ref (q 40), .int a1, .int a2] M rv M := by
  refine KI.mk (L0 := [(0, .ref (q 40)), (1, .int a1), (2, .int a2)]) (by decide +kernel) rfl (Nat.le_of_ble_eq_true rfl) rfl rfl rfl ?_
  intro p e s m below meth c X0 hr hlk
  have X := Fx.gw (own := RX7) X0
  clear X0
  have h : Ok (f_X7_isSpan a1 a2 M) (fun r => r = rv) := Ok.of h0 rfl
  clear h0
  delta f_X7_isSpan at h
  refine V_iload_n X dX7_isSpan_0 1 rfl rfl ?_
  refine B_if_lt X 23 dX7_isSpan_1 (by decide) h (fun h => ?_) (fun h => ?_)
  · refine V_iconst (v := (nI 0)) X dX7_isSpan_23 (by decide) ?_
    have h : (nI 0) = rv := h
    exact R_z X hr hlk rfl h rfl dX7_isSpan_24
  · refine V_iload_n X dX7_isSpan_4 1 rfl rfl ?_
    refine V_iload_n X dX7_isSpan_5 2 rfl rfl ?_
    refine B_icmp_gt X 23 dX7_isSpan_6 (by decide) h (fun h => ?_) (fun h => ?_)
    · refine V_iconst (v := (nI 0)) X dX7_isSpan_23 (by decide) ?_
      have h : (nI 0) = rv := h
      exact R_z X hr hlk rfl h rfl dX7_isSpan_24
    · refine V_iload_n X dX7_isSpan_9 2 rfl rfl ?_
      refine V_aload_n X dX7_isSpan_10 0 rfl rfl ?_
      refine G_7_0 X inX7 wFL_X7_7 dX7_isSpan_11 ?_
      refine V_iconst (v := (nI 0)) X dX7_isSpan_14 (by decide) ?_
      refine A_c41_ld X h dX7_isSpan_15 (fun hb1 h => ?_)
      refine B_icmp_gt X 23 dX7_isSpan_16 (by decide) h (fun h => ?_) (fun h => ?_)
      · refine V_iconst (v := (nI 0)) X dX7_isSpan_23 (by decide) ?_
        have h : (nI 0) = rv := h
        exact R_z X hr hlk rfl h rfl dX7_isSpan_24
      · refine V_iconst (v := (nI 1)) X dX7_isSpan_19 (by decide) ?_
        refine V_goto X 24 dX7_isSpan_20 (by decide) ?_
        have h : (nI 1) = rv := h
        exact R_z X hr hlk rfl h rfl dX7_isSpan_24
def rm_X7_turns : Room := { frames := 3, cells := 0, slots := 0, locals := 66 }
def f_X7_turns (F : Nat) (a1 : Int32) (a2 : Int32) (M : Mm) : Option (Int32 × Mm) :=
  (f_X7_isSpan a1 a2 M).bind fun r1 => if r1 = 0 then (some ((-1000001 : Int32), M)) else (lpf (fun z3 : Int32 × Int32 × Mm => if ((a2 - a1) / (nI 2)) ≤ z3.2.1 then (some (.inr (z3.1, z3.2.2))) else ((f_X7_swaps (a1 + z3.2.1) ((a2 - (nI 1)) - z3.2.1) z3.2.2).bind fun r4 => some (.inl ((z3.1 + ((nI 2) * r4.1)), (z3.2.1 + (nI 1)), r4.2)))) F ((nI 0), (nI 0), M))
set_option maxRecDepth 100000 in
set_option maxHeartbeats 4000000 in
theorem k_X7_turns (l : Launch) (D : va_G) (cy : Nat → ClassId) (q : Nat → Nat) (F : Nat) (a1 : Int32) (a2 : Int32) (M : Mm) (rv : Int32) (M' : Mm) (h0 : f_X7_turns F a1 a2 M = some (rv, M')) : KI l yX7_turns (Cond.code yX7_turns cX7_turns 5 (Option.some FieldType.int) :: gw) rm_X7_turns D cy q [.ref (q 40), .int a1, .int a2] M rv M' := by
  refine KI.mk (L0 := [(0, .ref (q 40)), (1, .int a1), (2, .int a2)]) (by decide +kernel) rfl (Nat.le_of_ble_eq_true rfl) rfl rfl rfl ?_
  intro p e s m below meth c X0 hr hlk
  have X := Fx.gw (own := RX7) X0
  clear X0
  have h : Ok (f_X7_turns F a1 a2 M) (fun r => r = (rv, M')) := Ok.of h0 rfl
  clear h0
  delta f_X7_turns at h
  refine V_aload_n X dX7_turns_0 0 rfl rfl ?_
  refine V_iload_n X dX7_turns_1 1 rfl rfl ?_
  refine V_iload_n X dX7_turns_2 2 rfl rfl ?_
  obtain ⟨r1, e2, h⟩ := (Ok.bind h).ex
  refine C_Vi (As := [.int a1, .int a2]) (M' := M) (k0 := 40) X rfl rfl (cwV 2 X.1.2.2.2.2 (gw_V wML_X7_69 wIM_X7_isSpan wSE_X7_isSpan wIN_X7 (gw_c wCD_X7_isSpan)) rfl rfl rfl (by decide +kernel) ⟨Nat.le_of_ble_eq_true rfl, Nat.le_of_ble_eq_true rfl⟩) rfl rfl (Nat.le_of_ble_eq_true rfl) ⟨Nat.zero_le _, Nat.zero_le _⟩ (k_X7_isSpan l D cy q a1 a2 M r1 e2) dX7_turns_3 ?_
  refine B_if_ne X 12 dX7_turns_6 (by decide) h (fun h => ?_) (fun h => ?_)
  · refine V_iconst (v := (nI 0)) X dX7_turns_12 (by decide) ?_
    refine V_istore_n (L' := [(3, .int (nI 0)), (0, .ref (q 40)), (1, .int a1), (2, .int a2)]) X dX7_turns_13 rfl (by decide) rfl ?_
    refine V_iconst (v := (nI 0)) X dX7_turns_14 (by decide) ?_
    refine V_istore (L' := [(4, .int (nI 0)), (3, .int (nI 0)), (0, .ref (q 40)), (1, .int a1), (2, .int a2)]) X dX7_turns_15 (by decide) rfl ?_
    refine V_sub (L' := [(0, .ref (q 40)), (1, .int a1), (2, .int a2), (3, .int (nI 0)), (4, .int (nI 0))]) [2, 3, 4, 1, 0] rfl ?_
    refine V_loop X h (fun z3 => z3.2.2) (fun z3 => [(0, .ref (q 40)), (1, .int a1), (2, .int a2), (3, .int z3.1), (4, .int z3.2.1)]) rfl rfl (fun z3 h => ?_)
    refine V_iload X dX7_turns_17 4 rfl ?_
    refine V_iload_n X dX7_turns_19 2 rfl rfl ?_
    refine V_iload_n X dX7_turns_20 1 rfl rfl ?_
    refine V_isub X dX7_turns_21 ?_
    refine V_iconst (v := (nI 2)) X dX7_turns_22 (by decide) ?_
    refine V_idiv X dX7_turns_23 (by decide) ?_
    refine B_icmp_ge X 52 dX7_turns_24 (by decide) h (fun h => ?_) (fun h => ?_)
    · refine V_iload_n X dX7_turns_52 3 rfl rfl ?_
      have h : (z3.1, z3.2.2) = (rv, M') := h
      exact R_i X hr hlk (congrArg Prod.fst h) (congrArg Prod.snd h) dX7_turns_53
    · refine V_iload_n X dX7_turns_27 3 rfl rfl ?_
      refine V_iconst (v := (nI 2)) X dX7_turns_28 (by decide) ?_
      refine V_aload_n X dX7_turns_29 0 rfl rfl ?_
      refine V_iload_n X dX7_turns_30 1 rfl rfl ?_
      refine V_iload X dX7_turns_31 4 rfl ?_
      refine V_iadd X dX7_turns_33 ?_
      refine V_iload_n X dX7_turns_34 2 rfl rfl ?_
      refine V_iconst (v := (nI 1)) X dX7_turns_35 (by decide) ?_
      refine V_isub X dX7_turns_36 ?_
      refine V_iload X dX7_turns_37 4 rfl ?_
      refine V_isub X dX7_turns_39 ?_
      obtain ⟨r4, e5, h⟩ := (Ok.bind h).ex
      refine C_Vi (As := [.int (a1 + z3.2.1), .int ((a2 - (nI 1)) - z3.2.1)]) (M' := r4.2) (k0 := 40) X rfl rfl (cwV 2 X.1.2.2.2.2 (gw_V wML_X7_66 wIM_X7_swaps wSE_X7_swaps wIN_X7 (gw_c wCD_X7_swaps)) rfl rfl rfl (by decide +kernel) ⟨Nat.le_of_ble_eq_true rfl, Nat.le_of_ble_eq_true rfl⟩) rfl rfl (Nat.le_of_ble_eq_true rfl) ⟨Nat.zero_le _, Nat.zero_le _⟩ (k_X7_swaps l D cy q (a1 + z3.2.1) ((a2 - (nI 1)) - z3.2.1) z3.2.2 r4.1 r4.2 e5) dX7_turns_40 ?_
      refine V_imul X dX7_turns_43 ?_
      refine V_iadd X dX7_turns_44 ?_
      refine V_istore_n (L' := [(3, .int (z3.1 + ((nI 2) * r4.1))), (0, .ref (q 40)), (1, .int a1), (2, .int a2), (4, .int z3.2.1)]) X dX7_turns_45 rfl (by decide) rfl ?_
      refine V_iinc (v := (z3.2.1 + (nI 1))) (L' := [(4, .int (z3.2.1 + (nI 1))), (3, .int (z3.1 + ((nI 2) * r4.1))), (0, .ref (q 40)), (1, .int a1), (2, .int a2)]) (j := 4) X dX7_turns_46 rfl rfl (by decide) rfl ?_
      refine V_goto X 17 dX7_turns_49 (by decide) ?_
      exact V_sub [2, 3, 4, 1, 0] rfl h
  · refine V_ldc X wKI_X7_42 dX7_turns_9 ?_
    have h : ((-1000001 : Int32), M) = (rv, M') := h
    exact R_i X hr hlk (congrArg Prod.fst h) (congrArg Prod.snd h) dX7_turns_11
def rm_X7_turn : Room := { frames := 4, cells := 0, slots := 0, locals := 90 }
def f_X7_turn (F : Nat) (a1 : Int32) (a2 : Int32) (M : Mm) : Option (Int32 × Mm) :=
  (f_X7_keeps F M).bind fun r1 => (f_X7_turns F a1 a2 r1).bind fun r3 => (f_X7_acted F r3.1 r3.2).bind fun r5 => some (r5.1, r5.2)
set_option maxRecDepth 100000 in
set_option maxHeartbeats 4000000 in
theorem k_X7_turn (l : Launch) (D : va_G) (cy : Nat → ClassId) (q : Nat → Nat) (F : Nat) (a1 : Int32) (a2 : Int32) (M : Mm) (rv : Int32) (M' : Mm) (h0 : f_X7_turn F a1 a2 M = some (rv, M')) : KI l yX7_turn (Cond.code yX7_turn cX7_turn 3 (Option.some FieldType.int) :: gw) rm_X7_turn D cy q [.ref (q 40), .int a1, .int a2] M rv M' := by
  refine KI.mk (L0 := [(0, .ref (q 40)), (1, .int a1), (2, .int a2)]) (by decide +kernel) rfl (Nat.le_of_ble_eq_true rfl) rfl rfl rfl ?_
  intro p e s m below meth c X0 hr hlk
  have X := Fx.gw (own := RX7) X0
  clear X0
  have h : Ok (f_X7_turn F a1 a2 M) (fun r => r = (rv, M')) := Ok.of h0 rfl
  clear h0
  delta f_X7_turn at h
  refine V_aload_n X dX7_turn_0 0 rfl rfl ?_
  obtain ⟨r1, e2, h⟩ := (Ok.bind h).ex
  refine C_Vv (As := []) (M' := r1) (k0 := 40) X rfl rfl (cwV 0 X.1.2.2.2.2 (gw_V wML_X7_48 wIM_X7_keeps wSE_X7_keeps wIN_X7 (gw_c wCD_X7_keeps)) rfl rfl rfl (by decide +kernel) ⟨Nat.le_of_ble_eq_true rfl, Nat.le_of_ble_eq_true rfl⟩) rfl rfl (Nat.le_of_ble_eq_true rfl) ⟨Nat.zero_le _, Nat.zero_le _⟩ (k_X7_keeps l D cy q F M r1 e2) dX7_turn_1 ?_
  refine V_aload_n X dX7_turn_4 0 rfl rfl ?_
  refine V_aload_n X dX7_turn_5 0 rfl rfl ?_
  refine V_iload_n X dX7_turn_6 1 rfl rfl ?_
  refine V_iload_n X dX7_turn_7 2 rfl rfl ?_
  obtain ⟨r3, e4, h⟩ := (Ok.bind h).ex
  refine C_Vi (As := [.int a1, .int a2]) (M' := r3.2) (k0 := 40) X rfl rfl (cwV 2 X.1.2.2.2.2 (gw_V wML_X7_73 wIM_X7_turns wSE_X7_turns wIN_X7 (gw_c wCD_X7_turns)) rfl rfl rfl (by decide +kernel) ⟨Nat.le_of_ble_eq_true rfl, Nat.le_of_ble_eq_true rfl⟩) rfl rfl (Nat.le_of_ble_eq_true rfl) ⟨Nat.zero_le _, Nat.zero_le _⟩ (k_X7_turns l D cy q F a1 a2 r1 r3.1 r3.2 e4) dX7_turn_8 ?_
  obtain ⟨r5, e6, h⟩ := (Ok.bind h).ex
  refine C_Vi (As := [.int r3.1]) (M' := r5.2) (k0 := 40) X rfl rfl (cwV 1 X.1.2.2.2.2 (gw_V wML_X7_55 wIM_X7_acted wSE_X7_acted wIN_X7 (gw_c wCD_X7_acted)) rfl rfl rfl (by decide +kernel) ⟨Nat.le_of_ble_eq_true rfl, Nat.le_of_ble_eq_true rfl⟩) rfl rfl (Nat.le_of_ble_eq_true rfl) ⟨Nat.zero_le _, Nat.zero_le _⟩ (k_X7_acted l D cy q F r3.1 r3.2 r5.1 r5.2 e6) dX7_turn_11 ?_
  have h : (r5.1, r5.2) = (rv, M') := h
  exact R_i X hr hlk (congrArg Prod.fst h) (congrArg Prod.snd h) dX7_turn_14
def rm_X7_counts : Room := { frames := 0, cells := 0, slots := 0, locals := 0 }
def f_X7_counts (F : Nat) (a1 : Int32) (a2 : Int32) (M : Mm) : Option (Mm) :=
  lpf (fun z1 : Int32 × Mm => if (nI 16) ≤ z1.1 then (lpf (fun z2 : Int32 × Mm => if a2 ≤ z2.1 then (some (.inr (.inr z2.2))) else (if inb ((nI 1) + z2.1) 61 = true then if inb (z2.2 41 (Int32.toNatClampNeg ((nI 1) + z2.1))) 16 = true then if inb (z2.2 41 (Int32.toNatClampNeg ((nI 1) + z2.1))) 16 = true then some (.inl ((z2.1 + (nI 1)), (up z2.2 48 (Int32.toNatClampNeg (z2.2 41 (Int32.toNatClampNeg ((nI 1) + z2.1)))) ((z2.2 48 (Int32.toNatClampNeg (z2.2 41 (Int32.toNatClampNeg ((nI 1) + z2.1))))) + (nI 1))))) else none else none else none)) F (a1, z1.2)) else (if inb z1.1 16 = true then some (.inl ((z1.1 + (nI 1)), (up z1.2 48 (Int32.toNatClampNeg z1.1) (nI 0)))) else none)) F ((nI 0), M)
set_option maxRecDepth 100000 in
set_option maxHeartbeats 4000000 in
theorem k_X7_counts (l : Launch) (D : va_G) (cy : Nat → ClassId) (q : Nat → Nat) (F : Nat) (a1 : Int32) (a2 : Int32) (M : Mm) (M' : Mm) (h0 : f_X7_counts F a1 a2 M = some M') : KV l yX7_counts (Cond.code yX7_counts cX7_counts 4 none :: gw) rm_X7_counts D cy q [.ref (q 40), .int a1, .int a2] M M' := by
  refine KV.mk (L0 := [(0, .ref (q 40)), (1, .int a1), (2, .int a2)]) (by decide +kernel) rfl (Nat.le_of_ble_eq_true rfl) rfl rfl rfl ?_
  intro p e s m below meth c X0 hr hlk
  have X := Fx.gw (own := RX7) X0
  clear X0
  have h : Ok (f_X7_counts F a1 a2 M) (fun r => r = M') := Ok.of h0 rfl
  clear h0
  delta f_X7_counts at h
  refine V_iconst (v := (nI 0)) X dX7_counts_0 (by decide) ?_
  refine V_istore_n (L' := [(3, .int (nI 0)), (0, .ref (q 40)), (1, .int a1), (2, .int a2)]) X dX7_counts_1 rfl (by decide) rfl ?_
  refine V_sub (L' := [(0, .ref (q 40)), (1, .int a1), (2, .int a2), (3, .int (nI 0))]) [1, 2, 3, 0] rfl ?_
  refine V_loop X h (fun z1 => z1.2) (fun z1 => [(0, .ref (q 40)), (1, .int a1), (2, .int a2), (3, .int z1.1)]) rfl rfl (fun z1 h => ?_)
  refine V_iload_n X dX7_counts_2 3 rfl rfl ?_
  refine V_bipush (v := (nI 16)) X dX7_counts_3 (by decide) ?_
  refine B_icmp_ge X 21 dX7_counts_5 (by decide) h (fun h => ?_) (fun h => ?_)
  · refine V_iload_n X dX7_counts_21 1 rfl rfl ?_
    refine V_istore_n (L' := [(3, .int a1), (0, .ref (q 40)), (1, .int a1), (2, .int a2)]) X dX7_counts_22 rfl (by decide) rfl ?_
    refine V_sub (L' := [(0, .ref (q 40)), (2, .int a2), (3, .int a1)]) [1, 3, 0] rfl ?_
    refine V_loop X h (fun z2 => z2.2) (fun z2 => [(0, .ref (q 40)), (2, .int a2), (3, .int z2.1)]) rfl rfl (fun z2 h => ?_)
    refine V_iload_n X dX7_counts_23 2 rfl rfl ?_
    refine V_iload_n X dX7_counts_24 1 rfl rfl ?_
    refine B_icmp_ge X 51 dX7_counts_25 (by decide) h (fun h => ?_) (fun h => ?_)
    · have h : z2.2 = M' := h
      exact R_v X hr hlk h dX7_counts_51
    · refine V_aload_n X dX7_counts_28 0 rfl rfl ?_
      refine G_7_13 X inX7 wFL_X7_32 dX7_counts_29 ?_
      refine V_aload_n X dX7_counts_32 0 rfl rfl ?_
      refine G_7_0 X inX7 wFL_X7_7 dX7_counts_33 ?_
      refine V_iconst (v := (nI 1)) X dX7_counts_36 (by decide) ?_
      refine V_iload_n X dX7_counts_37 2 rfl rfl ?_
      refine V_iadd X dX7_counts_38 ?_
      refine A_c41_ld X h dX7_counts_39 (fun hb3 h => ?_)
      refine V_dup2 X dX7_counts_40 rfl rfl ?_
      refine A_c48_ld X h dX7_counts_41 (fun hb4 h => ?_)
      refine V_iconst (v := (nI 1)) X dX7_counts_42 (by decide) ?_
      refine V_iadd X dX7_counts_43 ?_
      refine A_c48_st X h dX7_counts_44 (fun hb5 h => ?_)
      refine V_iinc (v := (z2.1 + (nI 1))) (L' := [(3, .int (z2.1 + (nI 1))), (0, .ref (q 40)), (2, .int a2)]) (j := 2) X dX7_counts_45 rfl rfl (by decide) rfl ?_
      refine V_goto X 23 dX7_counts_48 (by decide) ?_
      exact V_sub [1, 2, 0] rfl h
  · refine V_aload_n X dX7_counts_8 0 rfl rfl ?_
    refine G_7_13 X inX7 wFL_X7_32 dX7_counts_9 ?_
    refine V_iload_n X dX7_counts_12 3 rfl rfl ?_
    refine V_iconst (v := (nI 0)) X dX7_counts_13 (by decide) ?_
    refine A_c48_st X h dX7_counts_14 (fun hb6 h => ?_)
    refine V_iinc (v := (z1.1 + (nI 1))) (L' := [(3, .int (z1.1 + (nI 1))), (0, .ref (q 40)), (1, .int a1), (2, .int a2)]) (j := 3) X dX7_counts_15 rfl rfl (by decide) rfl ?_
    refine V_goto X 2 dX7_counts_18 (by decide) ?_
    exact V_sub [1, 2, 3, 0] rfl h
def rm_X7_sort : Room := { frames := 1, cells := 0, slots := 0, locals := 23 }
def f_X7_sort (F : Nat) (a1 : Int32) (a2 : Int32) (M : Mm) : Option (Int32 × Mm) :=
  (f_X7_isSpan a1 a2 M).bind fun r1 => if r1 = 0 then (some ((-1000001 : Int32), M)) else ((f_X7_keeps F M).bind fun r3 => (f_X7_counts F a1 a2 r3).bind fun r5 => lpf (fun z7 : Int32 × Int32 × Int32 × Mm => if (nI 16) ≤ z7.2.2.1 then ((f_X7_acted F z7.2.1 z7.2.2.2).bind fun r8 => some (.inr (r8.1, r8.2))) else (lpf (fun z10 : Int32 × Int32 × Int32 × Mm => if inb z7.2.2.1 16 = true then if (z10.2.2.2 48 (Int32.toNatClampNeg z7.2.2.1)) ≤ z10.2.2.1 then (some (.inr (.inl (z10.1, z10.2.1, (z7.2.2.1 + (nI 1)), z10.2.2.2)))) else (if inb ((nI 1) + z10.1) 61 = true then if inb ((nI 1) + z10.1) 61 = true then if ((up z10.2.2.2 41 (Int32.toNatClampNeg ((nI 1) + z10.1)) z7.2.2.1) 43 (Int32.toNatClampNeg ((nI 1) + z10.1))) = z7.2.2.1 then (some (.inl ((z10.1 + (nI 1)), (z10.2.1 + (nI 0)), (z10.2.2.1 + (nI 1)), (up z10.2.2.2 41 (Int32.toNatClampNeg ((nI 1) + z10.1)) z7.2.2.1)))) else (some (.inl ((z10.1 + (nI 1)), (z10.2.1 + (nI 1)), (z10.2.2.1 + (nI 1)), (up z10.2.2.2 41 (Int32.toNatClampNeg ((nI 1) + z10.1)) z7.2.2.1)))) else none else none) else none) F (z7.1, z7.2.1, (nI 0), z7.2.2.2))) F (a1, (nI 0), (nI 0), r5))
set_option maxRecDepth 100000 in
set_option maxHeartbeats 4000000 in
theorem k_X7_sort (l : Launch) (D : va_G) (cy : Nat → ClassId) (q : Nat → Nat) (F : Nat) (a1 : Int32) (a2 : Int32) (M : Mm) (rv : Int32) (M' : Mm) (h0 : f_X7_sort F a1 a2 M = some (rv, M')) : KI l yX7_sort (Cond.code yX7_sort cX7_sort 7 (Option.some FieldType.int) :: gw) rm_X7_sort D cy q [.ref (q 40), .int a1, .int a2] M rv M' := by
  refine KI.mk (L0 := [(0, .ref (q 40)), (1, .int a1), (2, .int a2)]) (by decide +kernel) rfl (Nat.le_of_ble_eq_true rfl) rfl rfl rfl ?_
  intro p e s m below meth c X0 hr hlk
  have X := Fx.gw (own := RX7) X0
  clear X0
  have h : Ok (f_X7_sort F a1 a2 M) (fun r => r = (rv, M')) := Ok.of h0 rfl
  clear h0
  delta f_X7_sort at h
  refine V_aload_n X dX7_sort_0 0 rfl rfl ?_
  refine V_iload_n X dX7_sort_1 1 rfl rfl ?_
  refine V_iload_n X dX7_sort_2 2 rfl rfl ?_
  obtain ⟨r1, e2, h⟩ := (Ok.bind h).ex
  refine C_Vi (As := [.int a1, .int a2]) (M' := M) (k0 := 40) X rfl rfl (cwV 2 X.1.2.2.2.2 (gw_V wML_X7_69 wIM_X7_isSpan wSE_X7_isSpan wIN_X7 (gw_c wCD_X7_isSpan)) rfl rfl rfl (by decide +kernel) ⟨Nat.le_of_ble_eq_true rfl, Nat.le_of_ble_eq_true rfl⟩) rfl rfl (Nat.le_of_ble_eq_true rfl) ⟨Nat.zero_le _, Nat.zero_le _⟩ (k_X7_isSpan l D cy q a1 a2 M r1 e2) dX7_sort_3 ?_
  refine B_if_ne X 12 dX7_sort_6 (by decide) h (fun h => ?_) (fun h => ?_)
  · refine V_aload_n X dX7_sort_12 0 rfl rfl ?_
    obtain ⟨r3, e4, h⟩ := (Ok.bind h).ex
    refine C_Vv (As := []) (M' := r3) (k0 := 40) X rfl rfl (cwV 0 X.1.2.2.2.2 (gw_V wML_X7_48 wIM_X7_keeps wSE_X7_keeps wIN_X7 (gw_c wCD_X7_keeps)) rfl rfl rfl (by decide +kernel) ⟨Nat.le_of_ble_eq_true rfl, Nat.le_of_ble_eq_true rfl⟩) rfl rfl (Nat.le_of_ble_eq_true rfl) ⟨Nat.zero_le _, Nat.zero_le _⟩ (k_X7_keeps l D cy q F M r3 e4) dX7_sort_13 ?_
    refine V_aload_n X dX7_sort_16 0 rfl rfl ?_
    refine V_iload_n X dX7_sort_17 1 rfl rfl ?_
    refine V_iload_n X dX7_sort_18 2 rfl rfl ?_
    obtain ⟨r5, e6, h⟩ := (Ok.bind h).ex
    refine C_Vv (As := [.int a1, .int a2]) (M' := r5) (k0 := 40) X rfl rfl (cwV 2 X.1.2.2.2.2 (gw_V wML_X7_76 wIM_X7_counts wSE_X7_counts wIN_X7 (gw_c wCD_X7_counts)) rfl rfl rfl (by decide +kernel) ⟨Nat.le_of_ble_eq_true rfl, Nat.le_of_ble_eq_true rfl⟩) rfl rfl (Nat.le_of_ble_eq_true rfl) ⟨Nat.zero_le _, Nat.zero_le _⟩ (k_X7_counts l D cy q F a1 a2 r3 r5 e6) dX7_sort_19 ?_
    refine V_iload_n X dX7_sort_22 1 rfl rfl ?_
    refine V_istore_n (L' := [(3, .int a1), (0, .ref (q 40)), (1, .int a1), (2, .int a2)]) X dX7_sort_23 rfl (by decide) rfl ?_
    refine V_iconst (v := (nI 0)) X dX7_sort_24 (by decide) ?_
    refine V_istore (L' := [(4, .int (nI 0)), (3, .int a1), (0, .ref (q 40)), (1, .int a1), (2, .int a2)]) X dX7_sort_25 (by decide) rfl ?_
    refine V_iconst (v := (nI 0)) X dX7_sort_27 (by decide) ?_
    refine V_istore (L' := [(5, .int (nI 0)), (4, .int (nI 0)), (3, .int a1), (0, .ref (q 40)), (1, .int a1), (2, .int a2)]) X dX7_sort_28 (by decide) rfl ?_
    refine V_sub (L' := [(0, .ref (q 40)), (3, .int a1), (4, .int (nI 0)), (5, .int (nI 0))]) [3, 2, 1, 0] rfl ?_
    refine V_loop X h (fun z7 => z7.2.2.2) (fun z7 => [(0, .ref (q 40)), (3, .int z7.1), (4, .int z7.2.1), (5, .int z7.2.2.1)]) rfl rfl (fun z7 h => ?_)
    refine V_iload X dX7_sort_30 3 rfl ?_
    refine V_bipush (v := (nI 16)) X dX7_sort_32 (by decide) ?_
    refine B_icmp_ge X 100 dX7_sort_34 (by decide) h (fun h => ?_) (fun h => ?_)
    · refine V_aload_n X dX7_sort_100 0 rfl rfl ?_
      refine V_iload X dX7_sort_101 2 rfl ?_
      obtain ⟨r8, e9, h⟩ := (Ok.bind h).ex
      refine C_Vi (As := [.int z7.2.1]) (M' := r8.2) (k0 := 40) X rfl rfl (cwV 1 X.1.2.2.2.2 (gw_V wML_X7_55 wIM_X7_acted wSE_X7_acted wIN_X7 (gw_c wCD_X7_acted)) rfl rfl rfl (by decide +kernel) ⟨Nat.le_of_ble_eq_true rfl, Nat.le_of_ble_eq_true rfl⟩) rfl rfl (Nat.le_of_ble_eq_true rfl) ⟨Nat.zero_le _, Nat.zero_le _⟩ (k_X7_acted l D cy q F z7.2.1 z7.2.2.2 r8.1 r8.2 e9) dX7_sort_103 ?_
      have h : (r8.1, r8.2) = (rv, M') := h
      exact R_i X hr hlk (congrArg Prod.fst h) (congrArg Prod.snd h) dX7_sort_106
    · refine V_iconst (v := (nI 0)) X dX7_sort_37 (by decide) ?_
      refine V_istore (L' := [(6, .int (nI 0)), (0, .ref (q 40)), (3, .int z7.1), (4, .int z7.2.1), (5, .int z7.2.2.1)]) X dX7_sort_38 (by decide) rfl ?_
      refine V_sub (L' := [(0, .ref (q 40)), (3, .int z7.1), (4, .int z7.2.1), (5, .int z7.2.2.1), (6, .int (nI 0))]) [1, 2, 3, 4, 0] rfl ?_
      refine V_loop X h (fun z10 => z10.2.2.2) (fun z10 => [(0, .ref (q 40)), (3, .int z10.1), (4, .int z10.2.1), (5, .int z7.2.2.1), (6, .int z10.2.2.1)]) rfl rfl (fun z10 h => ?_)
      refine V_iload X dX7_sort_40 4 rfl ?_
      refine V_aload_n X dX7_sort_42 0 rfl rfl ?_
      refine G_7_13 X inX7 wFL_X7_32 dX7_sort_43 ?_
      refine V_iload X dX7_sort_46 3 rfl ?_
      refine A_c48_ld X h dX7_sort_48 (fun hb11 h => ?_)
      refine B_icmp_ge X 94 dX7_sort_49 (by decide) h (fun h => ?_) (fun h => ?_)
      · refine V_iinc (v := (z7.2.2.1 + (nI 1))) (L' := [(5, .int (z7.2.2.1 + (nI 1))), (0, .ref (q 40)), (3, .int z10.1), (4, .int z10.2.1), (6, .int z10.2.2.1)]) (j := 3) X dX7_sort_94 rfl rfl (by decide) rfl ?_
        refine V_goto X 30 dX7_sort_97 (by decide) ?_
        exact V_sub [1, 2, 3, 0] rfl h
      · refine V_aload_n X dX7_sort_52 0 rfl rfl ?_
        refine G_7_0 X inX7 wFL_X7_7 dX7_sort_53 ?_
        refine V_iconst (v := (nI 1)) X dX7_sort_56 (by decide) ?_
        refine V_iload_n X dX7_sort_57 1 rfl rfl ?_
        refine V_iadd X dX7_sort_58 ?_
        refine V_iload X dX7_sort_59 3 rfl ?_
        refine A_c41_st X h dX7_sort_61 (fun hb12 h => ?_)
        refine V_iload X dX7_sort_62 2 rfl ?_
        refine V_aload_n X dX7_sort_64 0 rfl rfl ?_
        refine G_7_2 X inX7 wFL_X7_16 dX7_sort_65 ?_
        refine V_iconst (v := (nI 1)) X dX7_sort_68 (by decide) ?_
        refine V_iload_n X dX7_sort_69 1 rfl rfl ?_
        refine V_iadd X dX7_sort_70 ?_
        refine A_c43_ld X h dX7_sort_71 (fun hb13 h => ?_)
        refine V_iload X dX7_sort_72 3 rfl ?_
        refine B_icmp_eq X 81 dX7_sort_74 (by decide) h (fun h => ?_) (fun h => ?_)
        · refine V_iconst (v := (nI 0)) X dX7_sort_81 (by decide) ?_
          refine V_iadd X dX7_sort_82 ?_
          refine V_istore (L' := [(4, .int (z10.2.1 + (nI 0))), (0, .ref (q 40)), (3, .int z10.1), (5, .int z7.2.2.1), (6, .int z10.2.2.1)]) X dX7_sort_83 (by decide) rfl ?_
          refine V_iinc (v := (z10.1 + (nI 1))) (L' := [(3, .int (z10.1 + (nI 1))), (4, .int (z10.2.1 + (nI 0))), (0, .ref (q 40)), (5, .int z7.2.2.1), (6, .int z10.2.2.1)]) (j := 2) X dX7_sort_85 rfl rfl (by decide) rfl ?_
          refine V_iinc (v := (z10.2.2.1 + (nI 1))) (L' := [(6, .int (z10.2.2.1 + (nI 1))), (3, .int (z10.1 + (nI 1))), (4, .int (z10.2.1 + (nI 0))), (0, .ref (q 40)), (5, .int z7.2.2.1)]) (j := 4) X dX7_sort_88 rfl rfl (by decide) rfl ?_
          refine V_goto X 40 dX7_sort_91 (by decide) ?_
          exact V_sub [3, 1, 2, 4, 0] rfl h
        · refine V_iconst (v := (nI 1)) X dX7_sort_77 (by decide) ?_
          refine V_goto X 82 dX7_sort_78 (by decide) ?_
          refine V_iadd X dX7_sort_82 ?_
          refine V_istore (L' := [(4, .int (z10.2.1 + (nI 1))), (0, .ref (q 40)), (3, .int z10.1), (5, .int z7.2.2.1), (6, .int z10.2.2.1)]) X dX7_sort_83 (by decide) rfl ?_
          refine V_iinc (v := (z10.1 + (nI 1))) (L' := [(3, .int (z10.1 + (nI 1))), (4, .int (z10.2.1 + (nI 1))), (0, .ref (q 40)), (5, .int z7.2.2.1), (6, .int z10.2.2.1)]) (j := 2) X dX7_sort_85 rfl rfl (by decide) rfl ?_
          refine V_iinc (v := (z10.2.2.1 + (nI 1))) (L' := [(6, .int (z10.2.2.1 + (nI 1))), (3, .int (z10.1 + (nI 1))), (4, .int (z10.2.1 + (nI 1))), (0, .ref (q 40)), (5, .int z7.2.2.1)]) (j := 4) X dX7_sort_88 rfl rfl (by decide) rfl ?_
          refine V_goto X 40 dX7_sort_91 (by decide) ?_
          exact V_sub [3, 1, 2, 4, 0] rfl h
  · refine V_ldc X wKI_X7_42 dX7_sort_9 ?_
    have h : ((-1000001 : Int32), M) = (rv, M') := h
    exact R_i X hr hlk (congrArg Prod.fst h) (congrArg Prod.snd h) dX7_sort_11
def rm_X7_bit : Room := { frames := 0, cells := 0, slots := 0, locals := 0 }
def f_X7_bit (a1 : Int32) (a2 : Int32) (M : Mm) : Option (Int32) :=
  if inb (((nI 60) * a1) + a2) 300 = true then if inb ((nI 1) + (M 46 (Int32.toNatClampNeg (((nI 60) * a1) + a2)))) 61 = true then some (((M 41 (Int32.toNatClampNeg ((nI 1) + (M 46 (Int32.toNatClampNeg (((nI 60) * a1) + a2)))))) >>> (((nI 3) - a1) &&& 31)) &&& (nI 1)) else none else none
set_option maxRecDepth 100000 in
set_option maxHeartbeats 4000000 in
theorem k_X7_bit (l : Launch) (D : va_G) (cy : Nat → ClassId) (q : Nat → Nat) (a1 : Int32) (a2 : Int32) (M : Mm) (rv : Int32) (h0 : f_X7_bit a1 a2 M = some rv) : KI l yX7_bit (Cond.code yX7_bit cX7_bit 3 (Option.some FieldType.int) :: gw) rm_X7_bit D cy q [.ref (q 40), .int a1, .int a2] M rv M := by
  refine KI.mk (L0 := [(0, .ref (q 40)), (1, .int a1), (2, .int a2)]) (by decide +kernel) rfl (Nat.le_of_ble_eq_true rfl) rfl rfl rfl ?_
  intro p e s m below meth c X0 hr hlk
  have X := Fx.gw (own := RX7) X0
  clear X0
  have h : Ok (f_X7_bit a1 a2 M) (fun r => r = rv) := Ok.of h0 rfl
  clear h0
  delta f_X7_bit at h
  refine V_aload_n X dX7_bit_0 0 rfl rfl ?_
  refine G_7_0 X inX7 wFL_X7_7 dX7_bit_1 ?_
  refine V_iconst (v := (nI 1)) X dX7_bit_4 (by decide) ?_
  refine V_aload_n X dX7_bit_5 0 rfl rfl ?_
  refine G_7_11 X inX7 wFL_X7_26 dX7_bit_6 ?_
  refine V_bipush (v := (nI 60)) X dX7_bit_9 (by decide) ?_
  refine V_iload_n X dX7_bit_11 1 rfl rfl ?_
  refine V_imul X dX7_bit_12 ?_
  refine V_iload_n X dX7_bit_13 2 rfl rfl ?_
  refine V_iadd X dX7_bit_14 ?_
  refine A_c46_ld X h dX7_bit_15 (fun hb1 h => ?_)
  refine V_iadd X dX7_bit_16 ?_
  refine A_c41_ld X h dX7_bit_17 (fun hb2 h => ?_)
  refine V_iconst (v := (nI 3)) X dX7_bit_18 (by decide) ?_
  refine V_iload_n X dX7_bit_19 1 rfl rfl ?_
  refine V_isub X dX7_bit_20 ?_
  refine V_ishr X dX7_bit_21 ?_
  refine V_iconst (v := (nI 1)) X dX7_bit_22 (by decide) ?_
  refine V_iand X dX7_bit_23 ?_
  have h : (((M 41 (Int32.toNatClampNeg ((nI 1) + (M 46 (Int32.toNatClampNeg (((nI 60) * a1) + a2)))))) >>> (((nI 3) - a1) &&& 31)) &&& (nI 1)) = rv := h
  exact R_i X hr hlk h rfl dX7_bit_24
def rm_X7_lays : Room := { frames := 1, cells := 0, slots := 0, locals := 22 }
def f_X7_lays (F : Nat) (M : Mm) : Option (Mm) :=
  lpf (fun z1 : Int32 × Mm => if inb (nI 0) 61 = true then if (z1.2 41 (Int32.toNatClampNeg (nI 0))) ≤ z1.1 then (lpf (fun z3 : Int32 × Mm => if (nI 4) ≤ z3.1 then (some (.inr (.inr z3.2))) else (lpf (fun z4 : Int32 × Int32 × Mm => if (nI 2) ≤ z4.2.1 then (some (.inr (.inl ((z3.1 + (nI 1)), z4.2.2)))) else (lpf (fun z5 : Int32 × Int32 × Mm => if inb (nI 0) 61 = true then if (z5.2.2 41 (Int32.toNatClampNeg (nI 0))) ≤ z5.2.1 then (some (.inr (.inl (z5.1, (z4.2.1 + (nI 1)), z5.2.2)))) else ((f_X7_bit z3.1 z5.2.1 z5.2.2).bind fun r7 => if r7 = z4.2.1 then (if inb (((nI 60) * z3.1) + z5.2.1) 300 = true then if inb (((nI 60) * z3.1) + z5.2.1) 300 = true then if inb ((((nI 60) * z3.1) + (nI 60)) + z5.1) 300 = true then some (.inl ((z5.1 + (nI 1)), (z5.2.1 + (nI 1)), (up (up z5.2.2 47 (Int32.toNatClampNeg (((nI 60) * z3.1) + z5.2.1)) z5.1) 46 (Int32.toNatClampNeg ((((nI 60) * z3.1) + (nI 60)) + z5.1)) ((up z5.2.2 47 (Int32.toNatClampNeg (((nI 60) * z3.1) + z5.2.1)) z5.1) 46 (Int32.toNatClampNeg (((nI 60) * z3.1) + z5.2.1)))))) else none else none else none) else (some (.inl (z5.1, (z5.2.1 + (nI 1)), z5.2.2)))) else none) F (z4.1, (nI 0), z4.2.2))) F ((nI 0), (nI 0), z3.2))) F ((nI 0), z1.2)) else (if inb z1.1 300 = true then some (.inl ((z1.1 + (nI 1)), (up z1.2 46 (Int32.toNatClampNeg z1.1) z1.1))) else none) else none) F ((nI 0), M)
set_option maxRecDepth 100000 in
set_option maxHeartbeats 4000000 in
theorem k_X7_lays (l : Launch) (D : va_G) (cy : Nat → ClassId) (q : Nat → Nat) (F : Nat) (M : Mm) (M' : Mm) (h0 : f_X7_lays F M = some M') : KV l yX7_lays (Cond.code yX7_lays cX7_lays 5 none :: gw) rm_X7_lays D cy q [.ref (q 40)] M M' := by
  refine KV.mk (L0 := [(0, .ref (q 40))]) (by decide +kernel) rfl (Nat.le_of_ble_eq_true rfl) rfl rfl rfl ?_
  intro p e s m below meth c X0 hr hlk
  have X := Fx.gw (own := RX7) X0
  clear X0
  have h : Ok (f_X7_lays F M) (fun r => r = M') := Ok.of h0 rfl
  clear h0
  delta f_X7_lays at h
  refine V_iconst (v := (nI 0)) X dX7_lays_0 (by decide) ?_
  refine V_istore_n (L' := [(1, .int (nI 0)), (0, .ref (q 40))]) X dX7_lays_1 rfl (by decide) rfl ?_
  refine V_sub (L' := [(0, .ref (q 40)), (1, .int (nI 0))]) [1, 0] rfl ?_
  refine V_loop X h (fun z1 => z1.2) (fun z1 => [(0, .ref (q 40)), (1, .int z1.1)]) rfl rfl (fun z1 h => ?_)
  refine V_iload_n X dX7_lays_2 1 rfl rfl ?_
  refine V_aload_n X dX7_lays_3 0 rfl rfl ?_
  refine G_7_0 X inX7 wFL_X7_7 dX7_lays_4 ?_
  refine V_iconst (v := (nI 0)) X dX7_lays_7 (by decide) ?_
  refine A_c41_ld X h dX7_lays_8 (fun hb2 h => ?_)
  refine B_icmp_ge X 25 dX7_lays_9 (by decide) h (fun h => ?_) (fun h => ?_)
  · refine V_iconst (v := (nI 0)) X dX7_lays_25 (by decide) ?_
    refine V_istore_n (L' := [(1, .int (nI 0)), (0, .ref (q 40))]) X dX7_lays_26 rfl (by decide) rfl ?_
    refine V_sub (L' := [(0, .ref (q 40)), (1, .int (nI 0))]) [1, 0] rfl ?_
    refine V_loop X h (fun z3 => z3.2) (fun z3 => [(0, .ref (q 40)), (1, .int z3.1)]) rfl rfl (fun z3 h => ?_)
    refine V_iload_n X dX7_lays_27 1 rfl rfl ?_
    refine V_iconst (v := (nI 4)) X dX7_lays_28 (by decide) ?_
    refine B_icmp_ge X 126 dX7_lays_29 (by decide) h (fun h => ?_) (fun h => ?_)
    · have h : z3.2 = M' := h
      exact R_v X hr hlk h dX7_lays_126
    · refine V_iconst (v := (nI 0)) X dX7_lays_32 (by decide) ?_
      refine V_istore_n (L' := [(2, .int (nI 0)), (0, .ref (q 40)), (1, .int z3.1)]) X dX7_lays_33 rfl (by decide) rfl ?_
      refine V_iconst (v := (nI 0)) X dX7_lays_34 (by decide) ?_
      refine V_istore_n (L' := [(3, .int (nI 0)), (2, .int (nI 0)), (0, .ref (q 40)), (1, .int z3.1)]) X dX7_lays_35 rfl (by decide) rfl ?_
      refine V_sub (L' := [(0, .ref (q 40)), (1, .int z3.1), (2, .int (nI 0)), (3, .int (nI 0))]) [2, 3, 1, 0] rfl ?_
      refine V_loop X h (fun z4 => z4.2.2) (fun z4 => [(0, .ref (q 40)), (1, .int z3.1), (2, .int z4.1), (3, .int z4.2.1)]) rfl rfl (fun z4 h => ?_)
      refine V_iload_n X dX7_lays_36 3 rfl rfl ?_
      refine V_iconst (v := (nI 2)) X dX7_lays_37 (by decide) ?_
      refine B_icmp_ge X 120 dX7_lays_38 (by decide) h (fun h => ?_) (fun h => ?_)
      · refine V_iinc (v := (z3.1 + (nI 1))) (L' := [(1, .int (z3.1 + (nI 1))), (0, .ref (q 40)), (2, .int z4.1), (3, .int z4.2.1)]) (j := 1) X dX7_lays_120 rfl rfl (by decide) rfl ?_
        refine V_goto X 27 dX7_lays_123 (by decide) ?_
        exact V_sub [1, 0] rfl h
      · refine V_iconst (v := (nI 0)) X dX7_lays_41 (by decide) ?_
        refine V_istore (L' := [(4, .int (nI 0)), (0, .ref (q 40)), (1, .int z3.1), (2, .int z4.1), (3, .int z4.2.1)]) X dX7_lays_42 (by decide) rfl ?_
        refine V_sub (L' := [(0, .ref (q 40)), (1, .int z3.1), (2, .int z4.1), (3, .int z4.2.1), (4, .int (nI 0))]) [1, 2, 3, 4, 0] rfl ?_
        refine V_loop X h (fun z5 => z5.2.2) (fun z5 => [(0, .ref (q 40)), (1, .int z3.1), (2, .int z5.1), (3, .int z4.2.1), (4, .int z5.2.1)]) rfl rfl (fun z5 h => ?_)
        refine V_iload X dX7_lays_44 4 rfl ?_
        refine V_aload_n X dX7_lays_46 0 rfl rfl ?_
        refine G_7_0 X inX7 wFL_X7_7 dX7_lays_47 ?_
        refine V_iconst (v := (nI 0)) X dX7_lays_50 (by decide) ?_
        refine A_c41_ld X h dX7_lays_51 (fun hb6 h => ?_)
        refine B_icmp_ge X 114 dX7_lays_52 (by decide) h (fun h => ?_) (fun h => ?_)
        · refine V_iinc (v := (z4.2.1 + (nI 1))) (L' := [(3, .int (z4.2.1 + (nI 1))), (0, .ref (q 40)), (1, .int z3.1), (2, .int z5.1), (4, .int z5.2.1)]) (j := 3) X dX7_lays_114 rfl rfl (by decide) rfl ?_
          refine V_goto X 36 dX7_lays_117 (by decide) ?_
          exact V_sub [1, 2, 3, 0] rfl h
        · refine V_aload_n X dX7_lays_55 0 rfl rfl ?_
          refine V_iload_n X dX7_lays_56 1 rfl rfl ?_
          refine V_iload X dX7_lays_57 4 rfl ?_
          obtain ⟨r7, e8, h⟩ := (Ok.bind h).ex
          refine C_Vi (As := [.int z3.1, .int z5.2.1]) (M' := z5.2.2) (k0 := 40) X rfl rfl (cwV 2 X.1.2.2.2.2 (gw_V wML_X7_80 wIM_X7_bit wSE_X7_bit wIN_X7 (gw_c wCD_X7_bit)) rfl rfl rfl (by decide +kernel) ⟨Nat.le_of_ble_eq_true rfl, Nat.le_of_ble_eq_true rfl⟩) rfl rfl (Nat.le_of_ble_eq_true rfl) ⟨Nat.zero_le _, Nat.zero_le _⟩ (k_X7_bit l D cy q z3.1 z5.2.1 z5.2.2 r7 e8) dX7_lays_59 ?_
          refine V_iload_n X dX7_lays_62 3 rfl rfl ?_
          refine B_icmp_ne X 108 dX7_lays_63 (by decide) h (fun h => ?_) (fun h => ?_)
          · refine V_iinc (v := (z5.2.1 + (nI 1))) (L' := [(4, .int (z5.2.1 + (nI 1))), (0, .ref (q 40)), (1, .int z3.1), (2, .int z5.1), (3, .int z4.2.1)]) (j := 4) X dX7_lays_108 rfl rfl (by decide) rfl ?_
            refine V_goto X 44 dX7_lays_111 (by decide) ?_
            exact V_sub [1, 2, 3, 4, 0] rfl h
          · refine V_aload_n X dX7_lays_66 0 rfl rfl ?_
            refine G_7_12 X inX7 wFL_X7_29 dX7_lays_67 ?_
            refine V_bipush (v := (nI 60)) X dX7_lays_70 (by decide) ?_
            refine V_iload_n X dX7_lays_72 1 rfl rfl ?_
            refine V_imul X dX7_lays_73 ?_
            refine V_iload X dX7_lays_74 4 rfl ?_
            refine V_iadd X dX7_lays_76 ?_
            refine V_iload_n X dX7_lays_77 2 rfl rfl ?_
            refine A_c47_st X h dX7_lays_78 (fun hb9 h => ?_)
            refine V_aload_n X dX7_lays_79 0 rfl rfl ?_
            refine G_7_11 X inX7 wFL_X7_26 dX7_lays_80 ?_
            refine V_bipush (v := (nI 60)) X dX7_lays_83 (by decide) ?_
            refine V_iload_n X dX7_lays_85 1 rfl rfl ?_
            refine V_imul X dX7_lays_86 ?_
            refine V_bipush (v := (nI 60)) X dX7_lays_87 (by decide) ?_
            refine V_iadd X dX7_lays_89 ?_
            refine V_iload_n X dX7_lays_90 2 rfl rfl ?_
            refine V_iadd X dX7_lays_91 ?_
            refine V_aload_n X dX7_lays_92 0 rfl rfl ?_
            refine G_7_11 X inX7 wFL_X7_26 dX7_lays_93 ?_
            refine V_bipush (v := (nI 60)) X dX7_lays_96 (by decide) ?_
            refine V_iload_n X dX7_lays_98 1 rfl rfl ?_
            refine V_imul X dX7_lays_99 ?_
            refine V_iload X dX7_lays_100 4 rfl ?_
            refine V_iadd X dX7_lays_102 ?_
            refine A_c46_ld X h dX7_lays_103 (fun hb10 h => ?_)
            refine A_c46_st X h dX7_lays_104 (fun hb11 h => ?_)
            refine V_iinc (v := (z5.1 + (nI 1))) (L' := [(2, .int (z5.1 + (nI 1))), (0, .ref (q 40)), (1, .int z3.1), (3, .int z4.2.1), (4, .int z5.2.1)]) (j := 2) X dX7_lays_105 rfl rfl (by decide) rfl ?_
            refine V_iinc (v := (z5.2.1 + (nI 1))) (L' := [(4, .int (z5.2.1 + (nI 1))), (2, .int (z5.1 + (nI 1))), (0, .ref (q 40)), (1, .int z3.1), (3, .int z4.2.1)]) (j := 4) X dX7_lays_108 rfl rfl (by decide) rfl ?_
            refine V_goto X 44 dX7_lays_111 (by decide) ?_
            exact V_sub [2, 3, 1, 4, 0] rfl h
  · refine V_aload_n X dX7_lays_12 0 rfl rfl ?_
    refine G_7_11 X inX7 wFL_X7_26 dX7_lays_13 ?_
    refine V_iload_n X dX7_lays_16 1 rfl rfl ?_
    refine V_iload_n X dX7_lays_17 1 rfl rfl ?_
    refine A_c46_st X h dX7_lays_18 (fun hb12 h => ?_)
    refine V_iinc (v := (z1.1 + (nI 1))) (L' := [(1, .int (z1.1 + (nI 1))), (0, .ref (q 40))]) (j := 1) X dX7_lays_19 rfl rfl (by decide) rfl ?_
    refine V_goto X 2 dX7_lays_22 (by decide) ?_
    exact V_sub [1, 0] rfl h
def rm_X7_levelOf : Room := { frames := 2, cells := 0, slots := 0, locals := 46 }
def f_X7_levelOf (F : Nat) (a1 : Int32) (a2 : Int32) (a3 : Int32) (M : Mm) : Option (Int32 × Mm) :=
  (f_X7_in a1 (nI 0) (nI 4)).bind fun r1 => if r1 = 0 then (some ((-1000001 : Int32), M)) else ((f_X7_isPlace a2 M).bind fun r3 => if r3 = 0 then (some ((-1000001 : Int32), M)) else ((f_X7_in a3 (nI 0) (nI 3)).bind fun r5 => if r5 = 0 then (some ((-1000001 : Int32), M)) else (jn (if a1 = (nI 4) then ((f_X7_in a3 (nI 1) (nI 2)).bind fun r8 => if r8 = 0 then (some (.inl ())) else (some (.inr ((-1000004 : Int32), M)))) else (some (.inl ()))) (fun z7 : Unit => (f_X7_lays F M).bind fun r10 => if a3 = 0 then (if inb (((nI 60) * a1) + a2) 300 = true then if inb ((nI 1) + (r10 46 (Int32.toNatClampNeg (((nI 60) * a1) + a2)))) 61 = true then some ((r10 41 (Int32.toNatClampNeg ((nI 1) + (r10 46 (Int32.toNatClampNeg (((nI 60) * a1) + a2)))))), r10) else none else none) else (if a3 = (nI 1) then ((f_X7_bit a1 a2 r10).bind fun r14 => some (r14, r10)) else (if a3 = (nI 2) then (if inb (((nI 60) * a1) + a2) 300 = true then some ((r10 47 (Int32.toNatClampNeg (((nI 60) * a1) + a2))), r10) else none) else (if inb (((nI 60) * a1) + a2) 300 = true then some ((r10 46 (Int32.toNatClampNeg (((nI 60) * a1) + a2))), r10) else none)))))))
set_option maxRecDepth 100000 in
set_option maxHeartbeats 4000000 in
theorem k_X7_levelOf (l : Launch) (D : va_G) (cy : Nat → ClassId) (q : Nat → Nat) (F : Nat) (a1 : Int32) (a2 : Int32) (a3 : Int32) (M : Mm) (rv : Int32) (M' : Mm) (h0 : f_X7_levelOf F a1 a2 a3 M = some (rv, M')) : KI l yX7_levelOf (Cond.code yX7_levelOf cX7_levelOf 5 (Option.some FieldType.int) :: gw) rm_X7_levelOf D cy q [.ref (q 40), .int a1, .int a2, .int a3] M rv M' := by
  refine KI.mk (L0 := [(0, .ref (q 40)), (1, .int a1), (2, .int a2), (3, .int a3)]) (by decide +kernel) rfl (Nat.le_of_ble_eq_true rfl) rfl rfl rfl ?_
  intro p e s m below meth c X0 hr hlk
  have X := Fx.gw (own := RX7) X0
  clear X0
  have h : Ok (f_X7_levelOf F a1 a2 a3 M) (fun r => r = (rv, M')) := Ok.of h0 rfl
  clear h0
  delta f_X7_levelOf at h
  refine V_iload_n X dX7_levelOf_0 1 rfl rfl ?_
  refine V_iconst (v := (nI 0)) X dX7_levelOf_1 (by decide) ?_
  refine V_iconst (v := (nI 4)) X dX7_levelOf_2 (by decide) ?_
  obtain ⟨r1, e2, h⟩ := (Ok.bind h).ex
  refine C_Si (As := [.int a1, .int (nI 0), .int (nI 4)]) (M' := M) X (va_cwS 3 X.1.2.2.2.2 (gw_S wML_X7_38 wST_X7_in wIN_X7 (gw_c wCD_X7_in)) rfl rfl rfl (by decide +kernel) ⟨Nat.le_of_ble_eq_true rfl, Nat.le_of_ble_eq_true rfl⟩) rfl rfl (Nat.le_of_ble_eq_true rfl) ⟨Nat.zero_le _, Nat.zero_le _⟩ (k_X7_in l D cy q a1 (nI 0) (nI 4) M r1 e2) dX7_levelOf_3 ?_
  refine B_if_eq X 26 dX7_levelOf_6 (by decide) h (fun h => ?_) (fun h => ?_)
  · refine V_ldc X wKI_X7_42 dX7_levelOf_26 ?_
    have h : ((-1000001 : Int32), M) = (rv, M') := h
    exact R_i X hr hlk (congrArg Prod.fst h) (congrArg Prod.snd h) dX7_levelOf_28
  · refine V_aload_n X dX7_levelOf_9 0 rfl rfl ?_
    refine V_iload_n X dX7_levelOf_10 2 rfl rfl ?_
    obtain ⟨r3, e4, h⟩ := (Ok.bind h).ex
    refine C_Vi (As := [.int a2]) (M' := M) (k0 := 40) X rfl rfl (cwV 1 X.1.2.2.2.2 (gw_V wML_X7_59 wIM_X7_isPlace wSE_X7_isPlace wIN_X7 (gw_c wCD_X7_isPlace)) rfl rfl rfl (by decide +kernel) ⟨Nat.le_of_ble_eq_true rfl, Nat.le_of_ble_eq_true rfl⟩) rfl rfl (Nat.le_of_ble_eq_true rfl) ⟨Nat.zero_le _, Nat.zero_le _⟩ (k_X7_isPlace l D cy q a2 M r3 e4) dX7_levelOf_11 ?_
    refine B_if_eq X 26 dX7_levelOf_14 (by decide) h (fun h => ?_) (fun h => ?_)
    · refine V_ldc X wKI_X7_42 dX7_levelOf_26 ?_
      have h : ((-1000001 : Int32), M) = (rv, M') := h
      exact R_i X hr hlk (congrArg Prod.fst h) (congrArg Prod.snd h) dX7_levelOf_28
    · refine V_iload_n X dX7_levelOf_17 3 rfl rfl ?_
      refine V_iconst (v := (nI 0)) X dX7_levelOf_18 (by decide) ?_
      refine V_iconst (v := (nI 3)) X dX7_levelOf_19 (by decide) ?_
      obtain ⟨r5, e6, h⟩ := (Ok.bind h).ex
      refine C_Si (As := [.int a3, .int (nI 0), .int (nI 3)]) (M' := M) X (va_cwS 3 X.1.2.2.2.2 (gw_S wML_X7_38 wST_X7_in wIN_X7 (gw_c wCD_X7_in)) rfl rfl rfl (by decide +kernel) ⟨Nat.le_of_ble_eq_true rfl, Nat.le_of_ble_eq_true rfl⟩) rfl rfl (Nat.le_of_ble_eq_true rfl) ⟨Nat.zero_le _, Nat.zero_le _⟩ (k_X7_in l D cy q a3 (nI 0) (nI 3) M r5 e6) dX7_levelOf_20 ?_
      refine B_if_ne X 29 dX7_levelOf_23 (by decide) h (fun h => ?_) (fun h => ?_)
      · refine V_iload_n X dX7_levelOf_29 1 rfl rfl ?_
        refine V_iconst (v := (nI 4)) X dX7_levelOf_30 (by decide) ?_
        refine V_join X h (fun z7 => M) (fun z7 => [(0, .ref (q 40)), (1, .int a1), (2, .int a2), (3, .int a3)]) (fun z7 => []) 46 (fun z7 h => ?_) (fun h => ?_)
        · refine V_aload_n X dX7_levelOf_46 0 rfl rfl ?_
          obtain ⟨r10, e11, h⟩ := (Ok.bind h).ex
          refine C_Vv (As := []) (M' := r10) (k0 := 40) X rfl rfl (cwV 0 X.1.2.2.2.2 (gw_V wML_X7_84 wIM_X7_lays wSE_X7_lays wIN_X7 (gw_c wCD_X7_lays)) rfl rfl rfl (by decide +kernel) ⟨Nat.le_of_ble_eq_true rfl, Nat.le_of_ble_eq_true rfl⟩) rfl rfl (Nat.le_of_ble_eq_true rfl) ⟨Nat.zero_le _, Nat.zero_le _⟩ (k_X7_lays l D cy q F M r10 e11) dX7_levelOf_47 ?_
          refine V_bipush (v := (nI 60)) X dX7_levelOf_50 (by decide) ?_
          refine V_iload_n X dX7_levelOf_52 1 rfl rfl ?_
          refine V_imul X dX7_levelOf_53 ?_
          refine V_iload_n X dX7_levelOf_54 2 rfl rfl ?_
          refine V_iadd X dX7_levelOf_55 ?_
          refine V_istore (L' := [(4, .int (((nI 60) * a1) + a2)), (0, .ref (q 40)), (1, .int a1), (2, .int a2), (3, .int a3)]) X dX7_levelOf_56 (by decide) rfl ?_
          refine V_iload_n X dX7_levelOf_58 4 rfl rfl ?_
          refine B_if_ne X 79 dX7_levelOf_59 (by decide) h (fun h => ?_) (fun h => ?_)
          · refine V_iload_n X dX7_levelOf_79 4 rfl rfl ?_
            refine V_iconst (v := (nI 1)) X dX7_levelOf_80 (by decide) ?_
            refine B_icmp_ne X 93 dX7_levelOf_81 (by decide) h (fun h => ?_) (fun h => ?_)
            · refine V_iload_n X dX7_levelOf_93 4 rfl rfl ?_
              refine V_iconst (v := (nI 2)) X dX7_levelOf_94 (by decide) ?_
              refine B_icmp_ne X 108 dX7_levelOf_95 (by decide) h (fun h => ?_) (fun h => ?_)
              · refine V_aload_n X dX7_levelOf_108 1 rfl rfl ?_
                refine G_7_11 X inX7 wFL_X7_26 dX7_levelOf_109 ?_
                refine V_iload X dX7_levelOf_112 0 rfl ?_
                refine A_c46_ld X h dX7_levelOf_114 (fun hb12 h => ?_)
                have h : ((r10 46 (Int32.toNatClampNeg (((nI 60) * a1) + a2))), r10) = (rv, M') := h
                exact R_i X hr hlk (congrArg Prod.fst h) (congrArg Prod.snd h) dX7_levelOf_115
              · refine V_aload_n X dX7_levelOf_98 1 rfl rfl ?_
                refine G_7_12 X inX7 wFL_X7_29 dX7_levelOf_99 ?_
                refine V_iload X dX7_levelOf_102 0 rfl ?_
                refine A_c47_ld X h dX7_levelOf_104 (fun hb13 h => ?_)
                refine V_goto X 115 dX7_levelOf_105 (by decide) ?_
                have h : ((r10 47 (Int32.toNatClampNeg (((nI 60) * a1) + a2))), r10) = (rv, M') := h
                exact R_i X hr hlk (congrArg Prod.fst h) (congrArg Prod.snd h) dX7_levelOf_115
            · refine V_aload_n X dX7_levelOf_84 1 rfl rfl ?_
              refine V_iload_n X dX7_levelOf_85 2 rfl rfl ?_
              refine V_iload_n X dX7_levelOf_86 3 rfl rfl ?_
              obtain ⟨r14, e15, h⟩ := (Ok.bind h).ex
              refine C_Vi (As := [.int a1, .int a2]) (M' := r10) (k0 := 40) X rfl rfl (cwV 2 X.1.2.2.2.2 (gw_V wML_X7_80 wIM_X7_bit wSE_X7_bit wIN_X7 (gw_c wCD_X7_bit)) rfl rfl rfl (by decide +kernel) ⟨Nat.le_of_ble_eq_true rfl, Nat.le_of_ble_eq_true rfl⟩) rfl rfl (Nat.le_of_ble_eq_true rfl) ⟨Nat.zero_le _, Nat.zero_le _⟩ (k_X7_bit l D cy q a1 a2 r10 r14 e15) dX7_levelOf_87 ?_
              refine V_goto X 115 dX7_levelOf_90 (by decide) ?_
              have h : (r14, r10) = (rv, M') := h
              exact R_i X hr hlk (congrArg Prod.fst h) (congrArg Prod.snd h) dX7_levelOf_115
          · refine V_aload_n X dX7_levelOf_62 1 rfl rfl ?_
            refine G_7_0 X inX7 wFL_X7_7 dX7_levelOf_63 ?_
            refine V_iconst (v := (nI 1)) X dX7_levelOf_66 (by decide) ?_
            refine V_aload_n X dX7_levelOf_67 1 rfl rfl ?_
            refine G_7_11 X inX7 wFL_X7_26 dX7_levelOf_68 ?_
            refine V_iload X dX7_levelOf_71 0 rfl ?_
            refine A_c46_ld X h dX7_levelOf_73 (fun hb16 h => ?_)
            refine V_iadd X dX7_levelOf_74 ?_
            refine A_c41_ld X h dX7_levelOf_75 (fun hb17 h => ?_)
            refine V_goto X 115 dX7_levelOf_76 (by decide) ?_
            have h : ((r10 41 (Int32.toNatClampNeg ((nI 1) + (r10 46 (Int32.toNatClampNeg (((nI 60) * a1) + a2)))))), r10) = (rv, M') := h
            exact R_i X hr hlk (congrArg Prod.fst h) (congrArg Prod.snd h) dX7_levelOf_115
        · refine B_icmp_ne X 46 dX7_levelOf_31 (by decide) h (fun h => ?_) (fun h => ?_)
          · exact V_sub [0, 1, 2, 3] rfl h
          · refine V_iload_n X dX7_levelOf_34 3 rfl rfl ?_
            refine V_iconst (v := (nI 1)) X dX7_levelOf_35 (by decide) ?_
            refine V_iconst (v := (nI 2)) X dX7_levelOf_36 (by decide) ?_
            obtain ⟨r8, e9, h⟩ := (Ok.bind h).ex
            refine C_Si (As := [.int a3, .int (nI 1), .int (nI 2)]) (M' := M) X (va_cwS 3 X.1.2.2.2.2 (gw_S wML_X7_38 wST_X7_in wIN_X7 (gw_c wCD_X7_in)) rfl rfl rfl (by decide +kernel) ⟨Nat.le_of_ble_eq_true rfl, Nat.le_of_ble_eq_true rfl⟩) rfl rfl (Nat.le_of_ble_eq_true rfl) ⟨Nat.zero_le _, Nat.zero_le _⟩ (k_X7_in l D cy q a3 (nI 1) (nI 2) M r8 e9) dX7_levelOf_37 ?_
            refine B_if_eq X 46 dX7_levelOf_40 (by decide) h (fun h => ?_) (fun h => ?_)
            · exact V_sub [0, 1, 2, 3] rfl h
            · refine V_ldc X wKI_X7_83 dX7_levelOf_43 ?_
              have h : ((-1000004 : Int32), M) = (rv, M') := h
              exact R_i X hr hlk (congrArg Prod.fst h) (congrArg Prod.snd h) dX7_levelOf_45
      · refine V_ldc X wKI_X7_42 dX7_levelOf_26 ?_
        have h : ((-1000001 : Int32), M) = (rv, M') := h
        exact R_i X hr hlk (congrArg Prod.fst h) (congrArg Prod.snd h) dX7_levelOf_28
def rm_X7_blocks : Room := { frames := 0, cells := 0, slots := 0, locals := 0 }
def f_X7_blocks (M : Mm) : Option (Int32) :=
  if inb (nI 0) 61 = true then some (((M 41 (Int32.toNatClampNeg (nI 0))) + (nI 7)) / (nI 8)) else none
set_option maxRecDepth 100000 in
set_option maxHeartbeats 4000000 in
theorem k_X7_blocks (l : Launch) (D : va_G) (cy : Nat → ClassId) (q : Nat → Nat)  (M : Mm) (rv : Int32) (h0 : f_X7_blocks M = some rv) : KI l yX7_blocks (Cond.code yX7_blocks cX7_blocks 1 (Option.some FieldType.int) :: gw) rm_X7_blocks D cy q [.ref (q 40)] M rv M := by
  refine KI.mk (L0 := [(0, .ref (q 40))]) (by decide +kernel) rfl (Nat.le_of_ble_eq_true rfl) rfl rfl rfl ?_
  intro p e s m below meth c X0 hr hlk
  have X := Fx.gw (own := RX7) X0
  clear X0
  have h : Ok (f_X7_blocks M) (fun r => r = rv) := Ok.of h0 rfl
  clear h0
  delta f_X7_blocks at h
  refine V_aload_n X dX7_blocks_0 0 rfl rfl ?_
  refine G_7_0 X inX7 wFL_X7_7 dX7_blocks_1 ?_
  refine V_iconst (v := (nI 0)) X dX7_blocks_4 (by decide) ?_
  refine A_c41_ld X h dX7_blocks_5 (fun hb1 h => ?_)
  refine V_bipush (v := (nI 7)) X dX7_blocks_6 (by decide) ?_
  refine V_iadd X dX7_blocks_8 ?_
  refine V_bipush (v := (nI 8)) X dX7_blocks_9 (by decide) ?_
  refine V_idiv X dX7_blocks_11 (by decide) ?_
  have h : (((M 41 (Int32.toNatClampNeg (nI 0))) + (nI 7)) / (nI 8)) = rv := h
  exact R_i X hr hlk h rfl dX7_blocks_12
def rm_X7_blockOf : Room := { frames := 2, cells := 0, slots := 0, locals := 46 }
def f_X7_blockOf (F : Nat) (a1 : Int32) (a2 : Int32) (a3 : Int32) (M : Mm) : Option (Int32 × Mm) :=
  (f_X7_in a1 (nI 0) (nI 3)).bind fun r1 => if r1 = 0 then (some ((-1000001 : Int32), M)) else (if a2 < 0 then (some ((-1000001 : Int32), M)) else ((f_X7_in a3 (nI 0) (nI 2)).bind fun r3 => if r3 = 0 then (some ((-1000001 : Int32), M)) else ((f_X7_blocks M).bind fun r5 => if a2 < r5 then ((f_X7_lays F M).bind fun r7 => lpf (fun z9 : Int32 × Int32 × Int32 × Int32 => if inb (nI 0) 61 = true then if (r7 41 (Int32.toNatClampNeg (nI 0))) ≤ z9.2.2.2 then (if a3 = 0 then (some (.inr (z9.1, r7))) else (if a3 = (nI 1) then (some (.inr (z9.2.1, r7))) else (some (.inr (z9.2.2.1, r7))))) else ((f_X7_bit a1 z9.2.2.2 r7).bind fun r11 => jn (if ((nI 8) * a2) ≤ z9.2.2.2 then (some (.inl (nI 0))) else (some (.inl r11))) (fun z13 : Int32 => if (z9.2.2.2 / (nI 8)) = a2 then (some (.inl ((z9.1 ||| (r11 <<< ((z9.2.2.2 - z9.2.2.2 / (nI 8) * (nI 8)) &&& 31))), (z9.2.1 + r11), (z9.2.2.1 + z13), (z9.2.2.2 + (nI 1))))) else (some (.inl (z9.1, z9.2.1, (z9.2.2.1 + z13), (z9.2.2.2 + (nI 1))))))) else none) F ((nI 0), (nI 0), (nI 0), (nI 0))) else (some ((-1000004 : Int32), M)))))
set_option maxRecDepth 100000 in
set_option maxHeartbeats 4000000 in
theorem k_X7_blockOf (l : Launch) (D : va_G) (cy : Nat → ClassId) (q : Nat → Nat) (F : Nat) (a1 : Int32) (a2 : Int32) (a3 : Int32) (M : Mm) (rv : Int32) (M' : Mm) (h0 : f_X7_blockOf F a1 a2 a3 M = some (rv, M')) : KI l yX7_blockOf (Cond.code yX7_blockOf cX7_blockOf 9 (Option.some FieldType.int) :: gw) rm_X7_blockOf D cy q [.ref (q 40), .int a1, .int a2, .int a3] M rv M' := by
  refine KI.mk (L0 := [(0, .ref (q 40)), (1, .int a1), (2, .int a2), (3, .int a3)]) (by decide +kernel) rfl (Nat.le_of_ble_eq_true rfl) rfl rfl rfl ?_
  intro p e s m below meth c X0 hr hlk
  have X := Fx.gw (own := RX7) X0
  clear X0
  have h : Ok (f_X7_blockOf F a1 a2 a3 M) (fun r => r = (rv, M')) := Ok.of h0 rfl
  clear h0
  delta f_X7_blockOf at h
  refine V_iload_n X dX7_blockOf_0 1 rfl rfl ?_
  refine V_iconst (v := (nI 0)) X dX7_blockOf_1 (by decide) ?_
  refine V_iconst (v := (nI 3)) X dX7_blockOf_2 (by decide) ?_
  obtain ⟨r1, e2, h⟩ := (Ok.bind h).ex
  refine C_Si (As := [.int a1, .int (nI 0), .int (nI 3)]) (M' := M) X (va_cwS 3 X.1.2.2.2.2 (gw_S wML_X7_38 wST_X7_in wIN_X7 (gw_c wCD_X7_in)) rfl rfl rfl (by decide +kernel) ⟨Nat.le_of_ble_eq_true rfl, Nat.le_of_ble_eq_true rfl⟩) rfl rfl (Nat.le_of_ble_eq_true rfl) ⟨Nat.zero_le _, Nat.zero_le _⟩ (k_X7_in l D cy q a1 (nI 0) (nI 3) M r1 e2) dX7_blockOf_3 ?_
  refine B_if_eq X 22 dX7_blockOf_6 (by decide) h (fun h => ?_) (fun h => ?_)
  · refine V_ldc X wKI_X7_42 dX7_blockOf_22 ?_
    have h : ((-1000001 : Int32), M) = (rv, M') := h
    exact R_i X hr hlk (congrArg Prod.fst h) (congrArg Prod.snd h) dX7_blockOf_24
  · refine V_iload_n X dX7_blockOf_9 2 rfl rfl ?_
    refine B_if_lt X 22 dX7_blockOf_10 (by decide) h (fun h => ?_) (fun h => ?_)
    · refine V_ldc X wKI_X7_42 dX7_blockOf_22 ?_
      have h : ((-1000001 : Int32), M) = (rv, M') := h
      exact R_i X hr hlk (congrArg Prod.fst h) (congrArg Prod.snd h) dX7_blockOf_24
    · refine V_iload_n X dX7_blockOf_13 3 rfl rfl ?_
      refine V_iconst (v := (nI 0)) X dX7_blockOf_14 (by decide) ?_
      refine V_iconst (v := (nI 2)) X dX7_blockOf_15 (by decide) ?_
      obtain ⟨r3, e4, h⟩ := (Ok.bind h).ex
      refine C_Si (As := [.int a3, .int (nI 0), .int (nI 2)]) (M' := M) X (va_cwS 3 X.1.2.2.2.2 (gw_S wML_X7_38 wST_X7_in wIN_X7 (gw_c wCD_X7_in)) rfl rfl rfl (by decide +kernel) ⟨Nat.le_of_ble_eq_true rfl, Nat.le_of_ble_eq_true rfl⟩) rfl rfl (Nat.le_of_ble_eq_true rfl) ⟨Nat.zero_le _, Nat.zero_le _⟩ (k_X7_in l D cy q a3 (nI 0) (nI 2) M r3 e4) dX7_blockOf_16 ?_
      refine B_if_ne X 25 dX7_blockOf_19 (by decide) h (fun h => ?_) (fun h => ?_)
      · refine V_iload_n X dX7_blockOf_25 2 rfl rfl ?_
        refine V_aload_n X dX7_blockOf_26 0 rfl rfl ?_
        obtain ⟨r5, e6, h⟩ := (Ok.bind h).ex
        refine C_Vi (As := []) (M' := M) (k0 := 40) X rfl rfl (cwV 0 X.1.2.2.2.2 (gw_V wML_X7_87 wIM_X7_blocks wSE_X7_blocks wIN_X7 (gw_c wCD_X7_blocks)) rfl rfl rfl (by decide +kernel) ⟨Nat.le_of_ble_eq_true rfl, Nat.le_of_ble_eq_true rfl⟩) rfl rfl (Nat.le_of_ble_eq_true rfl) ⟨Nat.zero_le _, Nat.zero_le _⟩ (k_X7_blocks l D cy q M r5 e6) dX7_blockOf_27 ?_
        refine B_icmp_lt X 36 dX7_blockOf_30 (by decide) h (fun h => ?_) (fun h => ?_)
        · refine V_aload_n X dX7_blockOf_36 0 rfl rfl ?_
          obtain ⟨r7, e8, h⟩ := (Ok.bind h).ex
          refine C_Vv (As := []) (M' := r7) (k0 := 40) X rfl rfl (cwV 0 X.1.2.2.2.2 (gw_V wML_X7_84 wIM_X7_lays wSE_X7_lays wIN_X7 (gw_c wCD_X7_lays)) rfl rfl rfl (by decide +kernel) ⟨Nat.le_of_ble_eq_true rfl, Nat.le_of_ble_eq_true rfl⟩) rfl rfl (Nat.le_of_ble_eq_true rfl) ⟨Nat.zero_le _, Nat.zero_le _⟩ (k_X7_lays l D cy q F M r7 e8) dX7_blockOf_37 ?_
          refine V_iconst (v := (nI 0)) X dX7_blockOf_40 (by decide) ?_
          refine V_istore (L' := [(4, .int (nI 0)), (0, .ref (q 40)), (1, .int a1), (2, .int a2), (3, .int a3)]) X dX7_blockOf_41 (by decide) rfl ?_
          refine V_iconst (v := (nI 0)) X dX7_blockOf_43 (by decide) ?_
          refine V_istore (L' := [(5, .int (nI 0)), (4, .int (nI 0)), (0, .ref (q 40)), (1, .int a1), (2, .int a2), (3, .int a3)]) X dX7_blockOf_44 (by decide) rfl ?_
          refine V_iconst (v := (nI 0)) X dX7_blockOf_46 (by decide) ?_
          refine V_istore (L' := [(6, .int (nI 0)), (5, .int (nI 0)), (4, .int (nI 0)), (0, .ref (q 40)), (1, .int a1), (2, .int a2), (3, .int a3)]) X dX7_blockOf_47 (by decide) rfl ?_
          refine V_iconst (v := (nI 0)) X dX7_blockOf_49 (by decide) ?_
          refine V_istore (L' := [(7, .int (nI 0)), (6, .int (nI 0)), (5, .int (nI 0)), (4, .int (nI 0)), (0, .ref (q 40)), (1, .int a1), (2, .int a2), (3, .int a3)]) X dX7_blockOf_50 (by decide) rfl ?_
          refine V_sub (L' := [(0, .ref (q 40)), (1, .int a1), (2, .int a2), (3, .int a3), (4, .int (nI 0)), (5, .int (nI 0)), (6, .int (nI 0)), (7, .int (nI 0))]) [4, 5, 6, 7, 3, 2, 1, 0] rfl ?_
          refine V_loop X h (fun z9 => r7) (fun z9 => [(0, .ref (q 40)), (1, .int a1), (2, .int a2), (3, .int a3), (4, .int z9.1), (5, .int z9.2.1), (6, .int z9.2.2.1), (7, .int z9.2.2.2)]) rfl rfl (fun z9 h => ?_)
          refine V_iload X dX7_blockOf_52 7 rfl ?_
          refine V_aload_n X dX7_blockOf_54 0 rfl rfl ?_
          refine G_7_0 X inX7 wFL_X7_7 dX7_blockOf_55 ?_
          refine V_iconst (v := (nI 0)) X dX7_blockOf_58 (by decide) ?_
          refine A_c41_ld X h dX7_blockOf_59 (fun hb10 h => ?_)
          refine B_icmp_ge X 127 dX7_blockOf_60 (by decide) h (fun h => ?_) (fun h => ?_)
          · refine V_iload_n X dX7_blockOf_127 3 rfl rfl ?_
            refine B_if_ne X 136 dX7_blockOf_128 (by decide) h (fun h => ?_) (fun h => ?_)
            · refine V_iload_n X dX7_blockOf_136 3 rfl rfl ?_
              refine V_iconst (v := (nI 1)) X dX7_blockOf_137 (by decide) ?_
              refine B_icmp_ne X 146 dX7_blockOf_138 (by decide) h (fun h => ?_) (fun h => ?_)
              · refine V_iload X dX7_blockOf_146 6 rfl ?_
                have h : (z9.2.2.1, r7) = (rv, M') := h
                exact R_i X hr hlk (congrArg Prod.fst h) (congrArg Prod.snd h) dX7_blockOf_148
              · refine V_iload X dX7_blockOf_141 5 rfl ?_
                refine V_goto X 148 dX7_blockOf_143 (by decide) ?_
                have h : (z9.2.1, r7) = (rv, M') := h
                exact R_i X hr hlk (congrArg Prod.fst h) (congrArg Prod.snd h) dX7_blockOf_148
            · refine V_iload X dX7_blockOf_131 4 rfl ?_
              refine V_goto X 148 dX7_blockOf_133 (by decide) ?_
              have h : (z9.1, r7) = (rv, M') := h
              exact R_i X hr hlk (congrArg Prod.fst h) (congrArg Prod.snd h) dX7_blockOf_148
          · refine V_aload_n X dX7_blockOf_63 0 rfl rfl ?_
            refine V_iload_n X dX7_blockOf_64 1 rfl rfl ?_
            refine V_iload X dX7_blockOf_65 7 rfl ?_
            obtain ⟨r11, e12, h⟩ := (Ok.bind h).ex
            refine C_Vi (As := [.int a1, .int z9.2.2.2]) (M' := r7) (k0 := 40) X rfl rfl (cwV 2 X.1.2.2.2.2 (gw_V wML_X7_80 wIM_X7_bit wSE_X7_bit wIN_X7 (gw_c wCD_X7_bit)) rfl rfl rfl (by decide +kernel) ⟨Nat.le_of_ble_eq_true rfl, Nat.le_of_ble_eq_true rfl⟩) rfl rfl (Nat.le_of_ble_eq_true rfl) ⟨Nat.zero_le _, Nat.zero_le _⟩ (k_X7_bit l D cy q a1 z9.2.2.2 r7 r11 e12) dX7_blockOf_67 ?_
            refine V_istore (L' := [(8, .int r11), (0, .ref (q 40)), (1, .int a1), (2, .int a2), (3, .int a3), (4, .int z9.1), (5, .int z9.2.1), (6, .int z9.2.2.1), (7, .int z9.2.2.2)]) X dX7_blockOf_70 (by decide) rfl ?_
            refine V_iload X dX7_blockOf_72 7 rfl ?_
            refine V_iload X dX7_blockOf_74 8 rfl ?_
            refine V_bipush (v := (nI 8)) X dX7_blockOf_76 (by decide) ?_
            refine V_iload_n X dX7_blockOf_78 3 rfl rfl ?_
            refine V_imul X dX7_blockOf_79 ?_
            refine V_join X h (fun z13 => r7) (fun z13 => [(0, .ref (q 40)), (1, .int a1), (2, .int a2), (3, .int a3), (4, .int z9.1), (5, .int z9.2.1), (7, .int z9.2.2.2), (8, .int r11)]) (fun z13 => [.int z13, .int z9.2.2.1]) 89 (fun z13 h => ?_) (fun h => ?_)
            · refine V_iadd X dX7_blockOf_89 ?_
              refine V_istore (L' := [(6, .int (z9.2.2.1 + z13)), (0, .ref (q 40)), (1, .int a1), (2, .int a2), (3, .int a3), (4, .int z9.1), (5, .int z9.2.1), (7, .int z9.2.2.2), (8, .int r11)]) X dX7_blockOf_90 (by decide) rfl ?_
              refine V_iload X dX7_blockOf_92 7 rfl ?_
              refine V_bipush (v := (nI 8)) X dX7_blockOf_94 (by decide) ?_
              refine V_idiv X dX7_blockOf_96 (by decide) ?_
              refine V_iload_n X dX7_blockOf_97 3 rfl rfl ?_
              refine B_icmp_ne X 121 dX7_blockOf_98 (by decide) h (fun h => ?_) (fun h => ?_)
              · refine V_iinc (v := (z9.2.2.2 + (nI 1))) (L' := [(7, .int (z9.2.2.2 + (nI 1))), (6, .int (z9.2.2.1 + z13)), (0, .ref (q 40)), (1, .int a1), (2, .int a2), (3, .int a3), (4, .int z9.1), (5, .int z9.2.1), (8, .int r11)]) (j := 7) X dX7_blockOf_121 rfl rfl (by decide) rfl ?_
                refine V_goto X 52 dX7_blockOf_124 (by decide) ?_
                exact V_sub [2, 3, 4, 5, 6, 7, 1, 0] rfl h
              · refine V_iload X dX7_blockOf_101 5 rfl ?_
                refine V_iload X dX7_blockOf_103 8 rfl ?_
                refine V_iload X dX7_blockOf_105 7 rfl ?_
                refine V_bipush (v := (nI 8)) X dX7_blockOf_107 (by decide) ?_
                refine V_irem X dX7_blockOf_109 (by decide) ?_
                refine V_ishl X dX7_blockOf_110 ?_
                refine V_ior X dX7_blockOf_111 ?_
                refine V_istore (L' := [(4, .int (z9.1 ||| (r11 <<< ((z9.2.2.2 - z9.2.2.2 / (nI 8) * (nI 8)) &&& 31)))), (6, .int (z9.2.2.1 + z13)), (0, .ref (q 40)), (1, .int a1), (2, .int a2), (3, .int a3), (5, .int z9.2.1), (7, .int z9.2.2.2), (8, .int r11)]) X dX7_blockOf_112 (by decide) rfl ?_
                refine V_iload X dX7_blockOf_114 6 rfl ?_
                refine V_iload X dX7_blockOf_116 8 rfl ?_
                refine V_iadd X dX7_blockOf_118 ?_
                refine V_istore (L' := [(5, .int (z9.2.1 + r11)), (4, .int (z9.1 ||| (r11 <<< ((z9.2.2.2 - z9.2.2.2 / (nI 8) * (nI 8)) &&& 31)))), (6, .int (z9.2.2.1 + z13)), (0, .ref (q 40)), (1, .int a1), (2, .int a2), (3, .int a3), (7, .int z9.2.2.2), (8, .int r11)]) X dX7_blockOf_119 (by decide) rfl ?_
                refine V_iinc (v := (z9.2.2.2 + (nI 1))) (L' := [(7, .int (z9.2.2.2 + (nI 1))), (5, .int (z9.2.1 + r11)), (4, .int (z9.1 ||| (r11 <<< ((z9.2.2.2 - z9.2.2.2 / (nI 8) * (nI 8)) &&& 31)))), (6, .int (z9.2.2.1 + z13)), (0, .ref (q 40)), (1, .int a1), (2, .int a2), (3, .int a3), (8, .int r11)]) (j := 7) X dX7_blockOf_121 rfl rfl (by decide) rfl ?_
                refine V_goto X 52 dX7_blockOf_124 (by decide) ?_
                exact V_sub [4, 5, 6, 7, 2, 1, 3, 0] rfl h
            · refine B_icmp_ge X 88 dX7_blockOf_80 (by decide) h (fun h => ?_) (fun h => ?_)
              · refine V_iconst (v := (nI 0)) X dX7_blockOf_88 (by decide) ?_
                exact V_sub [1, 2, 3, 4, 5, 6, 8, 0] rfl h
              · refine V_iload X dX7_blockOf_83 0 rfl ?_
                refine V_goto X 89 dX7_blockOf_85 (by decide) ?_
                exact V_sub [1, 2, 3, 4, 5, 6, 8, 0] rfl h
        · refine V_ldc X wKI_X7_83 dX7_blockOf_33 ?_
          have h : ((-1000004 : Int32), M) = (rv, M') := h
          exact R_i X hr hlk (congrArg Prod.fst h) (congrArg Prod.snd h) dX7_blockOf_35
      · refine V_ldc X wKI_X7_42 dX7_blockOf_22 ?_
        have h : ((-1000001 : Int32), M) = (rv, M') := h
        exact R_i X hr hlk (congrArg Prod.fst h) (congrArg Prod.snd h) dX7_blockOf_24
def rm_X7_bits : Room := { frames := 2, cells := 0, slots := 0, locals := 46 }
def f_X7_bits (F : Nat) (a1 : Int32) (M : Mm) : Option (Int64 × Mm) :=
  (f_X7_in a1 (nI 0) (nI 3)).bind fun r1 => if r1 = 0 then (some ((-1000001 : Int64), M)) else ((f_X7_lays F M).bind fun r3 => if inb (nI 0) 61 = true then lpf (fun z6 : Int64 × Int32 => if z6.2 < 0 then (some (.inr (z6.1, r3))) else ((f_X7_bit a1 z6.2 r3).bind fun r7 => some (.inl ((((2 : Int64) * z6.1) + (Int32.toInt64 r7)), (z6.2 + (-1 : Int32)))))) F ((0 : Int64), ((r3 41 (Int32.toNatClampNeg (nI 0))) - (nI 1))) else none)
set_option maxRecDepth 100000 in
set_option maxHeartbeats 4000000 in
theorem k_X7_bits (l : Launch) (D : va_G) (cy : Nat → ClassId) (q : Nat → Nat) (F : Nat) (a1 : Int32) (M : Mm) (rv : Int64) (M' : Mm) (h0 : f_X7_bits F a1 M = some (rv, M')) : KL l yX7_bits (Cond.code yX7_bits cX7_bits 5 (Option.some FieldType.long) :: gw) rm_X7_bits D cy q [.ref (q 40), .int a1] M rv M' := by
  refine KL.mk (L0 := [(0, .ref (q 40)), (1, .int a1)]) (by decide +kernel) rfl (Nat.le_of_ble_eq_true rfl) rfl rfl rfl ?_
  intro p e s m below meth c X0 hr hlk
  have X := Fx.gw (own := RX7) X0
  clear X0
  have h : Ok (f_X7_bits F a1 M) (fun r => r = (rv, M')) := Ok.of h0 rfl
  clear h0
  delta f_X7_bits at h
  refine V_iload_n X dX7_bits_0 1 rfl rfl ?_
  refine V_iconst (v := (nI 0)) X dX7_bits_1 (by decide) ?_
  refine V_iconst (v := (nI 3)) X dX7_bits_2 (by decide) ?_
  obtain ⟨r1, e2, h⟩ := (Ok.bind h).ex
  refine C_Si (As := [.int a1, .int (nI 0), .int (nI 3)]) (M' := M) X (va_cwS 3 X.1.2.2.2.2 (gw_S wML_X7_38 wST_X7_in wIN_X7 (gw_c wCD_X7_in)) rfl rfl rfl (by decide +kernel) ⟨Nat.le_of_ble_eq_true rfl, Nat.le_of_ble_eq_true rfl⟩) rfl rfl (Nat.le_of_ble_eq_true rfl) ⟨Nat.zero_le _, Nat.zero_le _⟩ (k_X7_in l D cy q a1 (nI 0) (nI 3) M r1 e2) dX7_bits_3 ?_
  refine B_if_ne X 13 dX7_bits_6 (by decide) h (fun h => ?_) (fun h => ?_)
  · refine V_aload_n X dX7_bits_13 0 rfl rfl ?_
    obtain ⟨r3, e4, h⟩ := (Ok.bind h).ex
    refine C_Vv (As := []) (M' := r3) (k0 := 40) X rfl rfl (cwV 0 X.1.2.2.2.2 (gw_V wML_X7_84 wIM_X7_lays wSE_X7_lays wIN_X7 (gw_c wCD_X7_lays)) rfl rfl rfl (by decide +kernel) ⟨Nat.le_of_ble_eq_true rfl, Nat.le_of_ble_eq_true rfl⟩) rfl rfl (Nat.le_of_ble_eq_true rfl) ⟨Nat.zero_le _, Nat.zero_le _⟩ (k_X7_lays l D cy q F M r3 e4) dX7_bits_14 ?_
    refine V_lconst (v := 0) X dX7_bits_17 (by decide) ?_
    refine V_lstore_n (L' := [(2, .long (0 : Int64)), (0, .ref (q 40)), (1, .int a1)]) X dX7_bits_18 rfl (by decide) rfl ?_
    refine V_aload_n X dX7_bits_19 1 rfl rfl ?_
    refine G_7_0 X inX7 wFL_X7_7 dX7_bits_20 ?_
    refine V_iconst (v := (nI 0)) X dX7_bits_23 (by decide) ?_
    refine A_c41_ld X h dX7_bits_24 (fun hb5 h => ?_)
    refine V_iconst (v := (nI 1)) X dX7_bits_25 (by decide) ?_
    refine V_isub X dX7_bits_26 ?_
    refine V_istore (L' := [(4, .int ((r3 41 (Int32.toNatClampNeg (nI 0))) - (nI 1))), (2, .long (0 : Int64)), (0, .ref (q 40)), (1, .int a1)]) X dX7_bits_27 (by decide) rfl ?_
    refine V_sub (L' := [(0, .ref (q 40)), (1, .int a1), (2, .long (0 : Int64)), (4, .int ((r3 41 (Int32.toNatClampNeg (nI 0))) - (nI 1)))]) [2, 3, 1, 0] rfl ?_
    refine V_loop X h (fun z6 => r3) (fun z6 => [(0, .ref (q 40)), (1, .int a1), (2, .long z6.1), (4, .int z6.2)]) rfl rfl (fun z6 h => ?_)
    refine V_iload X dX7_bits_29 3 rfl ?_
    refine B_if_lt X 55 dX7_bits_31 (by decide) h (fun h => ?_) (fun h => ?_)
    · refine V_lload_n X dX7_bits_55 2 rfl rfl ?_
      have h : (z6.1, r3) = (rv, M') := h
      exact R_l X hr hlk (congrArg Prod.fst h) (congrArg Prod.snd h) dX7_bits_56
    · refine V_ldc2 X wKL_X7_93 dX7_bits_34 ?_
      refine V_lload_n X dX7_bits_37 2 rfl rfl ?_
      refine V_lmul X dX7_bits_38 ?_
      refine V_aload_n X dX7_bits_39 0 rfl rfl ?_
      refine V_iload_n X dX7_bits_40 1 rfl rfl ?_
      refine V_iload X dX7_bits_41 3 rfl ?_
      obtain ⟨r7, e8, h⟩ := (Ok.bind h).ex
      refine C_Vi (As := [.int a1, .int z6.2]) (M' := r3) (k0 := 40) X rfl rfl (cwV 2 X.1.2.2.2.2 (gw_V wML_X7_80 wIM_X7_bit wSE_X7_bit wIN_X7 (gw_c wCD_X7_bit)) rfl rfl rfl (by decide +kernel) ⟨Nat.le_of_ble_eq_true rfl, Nat.le_of_ble_eq_true rfl⟩) rfl rfl (Nat.le_of_ble_eq_true rfl) ⟨Nat.zero_le _, Nat.zero_le _⟩ (k_X7_bit l D cy q a1 z6.2 r3 r7 e8) dX7_bits_43 ?_
      refine V_i2l X dX7_bits_46 ?_
      refine V_ladd X dX7_bits_47 ?_
      refine V_lstore_n (L' := [(2, .long (((2 : Int64) * z6.1) + (Int32.toInt64 r7))), (0, .ref (q 40)), (1, .int a1), (4, .int z6.2)]) X dX7_bits_48 rfl (by decide) rfl ?_
      refine V_iinc (v := (z6.2 + (-1 : Int32))) (L' := [(4, .int (z6.2 + (-1 : Int32))), (2, .long (((2 : Int64) * z6.1) + (Int32.toInt64 r7))), (0, .ref (q 40)), (1, .int a1)]) (j := 3) X dX7_bits_49 rfl rfl (by decide) rfl ?_
      refine V_goto X 29 dX7_bits_52 (by decide) ?_
      exact V_sub [2, 3, 1, 0] rfl h
  · refine V_ldc2 X wKL_X7_91 dX7_bits_9 ?_
    have h : ((-1000001 : Int64), M) = (rv, M') := h
    exact R_l X hr hlk (congrArg Prod.fst h) (congrArg Prod.snd h) dX7_bits_12
def rm_X7_symbolAt : Room := { frames := 2, cells := 0, slots := 0, locals := 43 }
def f_X7_symbolAt (a1 : Int32) (M : Mm) : Option (Int32) :=
  if 0 ≤ a1 then ((f_X7_isPlace a1 M).bind fun r1 => if r1 = 0 then (some (-1000004 : Int32)) else (if inb ((nI 1) + a1) 61 = true then some (M 41 (Int32.toNatClampNeg ((nI 1) + a1))) else none)) else (some (-1000001 : Int32))
set_option maxRecDepth 100000 in
set_option maxHeartbeats 4000000 in
theorem k_X7_symbolAt (l : Launch) (D : va_G) (cy : Nat → ClassId) (q : Nat → Nat) (a1 : Int32) (M : Mm) (rv : Int32) (h0 : f_X7_symbolAt a1 M = some rv) : KI l yX7_symbolAt (Cond.code yX7_symbolAt cX7_symbolAt 2 (Option.some FieldType.int) :: gw) rm_X7_symbolAt D cy q [.ref (q 40), .int a1] M rv M := by
  refine KI.mk (L0 := [(0, .ref (q 40)), (1, .int a1)]) (by decide +kernel) rfl (Nat.le_of_ble_eq_true rfl) rfl rfl rfl ?_
  intro p e s m below meth c X0 hr hlk
  have X := Fx.gw (own := RX7) X0
  clear X0
  have h : Ok (f_X7_symbolAt a1 M) (fun r => r = rv) := Ok.of h0 rfl
  clear h0
  delta f_X7_symbolAt at h
  refine V_iload_n X dX7_symbolAt_0 1 rfl rfl ?_
  refine B_if_ge X 7 dX7_symbolAt_1 (by decide) h (fun h => ?_) (fun h => ?_)
  · refine V_aload_n X dX7_symbolAt_7 0 rfl rfl ?_
    refine V_iload_n X dX7_symbolAt_8 1 rfl rfl ?_
    obtain ⟨r1, e2, h⟩ := (Ok.bind h).ex
    refine C_Vi (As := [.int a1]) (M' := M) (k0 := 40) X rfl rfl (cwV 1 X.1.2.2.2.2 (gw_V wML_X7_59 wIM_X7_isPlace wSE_X7_isPlace wIN_X7 (gw_c wCD_X7_isPlace)) rfl rfl rfl (by decide +kernel) ⟨Nat.le_of_ble_eq_true rfl, Nat.le_of_ble_eq_true rfl⟩) rfl rfl (Nat.le_of_ble_eq_true rfl) ⟨Nat.zero_le _, Nat.zero_le _⟩ (k_X7_isPlace l D cy q a1 M r1 e2) dX7_symbolAt_9 ?_
    refine B_if_eq X 26 dX7_symbolAt_12 (by decide) h (fun h => ?_) (fun h => ?_)
    · refine V_ldc X wKI_X7_83 dX7_symbolAt_26 ?_
      have h : (-1000004 : Int32) = rv := h
      exact R_i X hr hlk h rfl dX7_symbolAt_28
    · refine V_aload_n X dX7_symbolAt_15 0 rfl rfl ?_
      refine G_7_0 X inX7 wFL_X7_7 dX7_symbolAt_16 ?_
      refine V_iconst (v := (nI 1)) X dX7_symbolAt_19 (by decide) ?_
      refine V_iload_n X dX7_symbolAt_20 1 rfl rfl ?_
      refine V_iadd X dX7_symbolAt_21 ?_
      refine A_c41_ld X h dX7_symbolAt_22 (fun hb3 h => ?_)
      refine V_goto X 28 dX7_symbolAt_23 (by decide) ?_
      have h : (M 41 (Int32.toNatClampNeg ((nI 1) + a1))) = rv := h
      exact R_i X hr hlk h rfl dX7_symbolAt_28
  · refine V_ldc X wKI_X7_42 dX7_symbolAt_4 ?_
    have h : (-1000001 : Int32) = rv := h
    exact R_i X hr hlk h rfl dX7_symbolAt_6
def rm_X7_rank : Room := { frames := 1, cells := 0, slots := 0, locals := 23 }
def f_X7_rank (F : Nat) (a1 : Int32) (a2 : Int32) (M : Mm) : Option (Int32 × Mm) :=
  (f_X7_in a1 (nI 0) (nI 15)).bind fun r1 => if r1 = 0 then (some ((-1000001 : Int32), M)) else (if inb (nI 0) 61 = true then (f_X7_in a2 (nI 0) (M 41 (Int32.toNatClampNeg (nI 0)))).bind fun r4 => if r4 = 0 then (some ((-1000001 : Int32), M)) else ((f_X7_counts F (nI 0) a2 M).bind fun r6 => if inb a1 16 = true then some ((r6 48 (Int32.toNatClampNeg a1)), r6) else none) else none)
set_option maxRecDepth 100000 in
set_option maxHeartbeats 4000000 in
theorem k_X7_rank (l : Launch) (D : va_G) (cy : Nat → ClassId) (q : Nat → Nat) (F : Nat) (a1 : Int32) (a2 : Int32) (M : Mm) (rv : Int32) (M' : Mm) (h0 : f_X7_rank F a1 a2 M = some (rv, M')) : KI l yX7_rank (Cond.code yX7_rank cX7_rank 3 (Option.some FieldType.int) :: gw) rm_X7_rank D cy q [.ref (q 40), .int a1, .int a2] M rv M' := by
  refine KI.mk (L0 := [(0, .ref (q 40)), (1, .int a1), (2, .int a2)]) (by decide +kernel) rfl (Nat.le_of_ble_eq_true rfl) rfl rfl rfl ?_
  intro p e s m below meth c X0 hr hlk
  have X := Fx.gw (own := RX7) X0
  clear X0
  have h : Ok (f_X7_rank F a1 a2 M) (fun r => r = (rv, M')) := Ok.of h0 rfl
  clear h0
  delta f_X7_rank at h
  refine V_iload_n X dX7_rank_0 1 rfl rfl ?_
  refine V_iconst (v := (nI 0)) X dX7_rank_1 (by decide) ?_
  refine V_bipush (v := (nI 15)) X dX7_rank_2 (by decide) ?_
  obtain ⟨r1, e2, h⟩ := (Ok.bind h).ex
  refine C_Si (As := [.int a1, .int (nI 0), .int (nI 15)]) (M' := M) X (va_cwS 3 X.1.2.2.2.2 (gw_S wML_X7_38 wST_X7_in wIN_X7 (gw_c wCD_X7_in)) rfl rfl rfl (by decide +kernel) ⟨Nat.le_of_ble_eq_true rfl, Nat.le_of_ble_eq_true rfl⟩) rfl rfl (Nat.le_of_ble_eq_true rfl) ⟨Nat.zero_le _, Nat.zero_le _⟩ (k_X7_in l D cy q a1 (nI 0) (nI 15) M r1 e2) dX7_rank_4 ?_
  refine B_if_eq X 24 dX7_rank_7 (by decide) h (fun h => ?_) (fun h => ?_)
  · refine V_ldc X wKI_X7_42 dX7_rank_24 ?_
    have h : ((-1000001 : Int32), M) = (rv, M') := h
    exact R_i X hr hlk (congrArg Prod.fst h) (congrArg Prod.snd h) dX7_rank_26
  · refine V_iload_n X dX7_rank_10 2 rfl rfl ?_
    refine V_iconst (v := (nI 0)) X dX7_rank_11 (by decide) ?_
    refine V_aload_n X dX7_rank_12 0 rfl rfl ?_
    refine G_7_0 X inX7 wFL_X7_7 dX7_rank_13 ?_
    refine V_iconst (v := (nI 0)) X dX7_rank_16 (by decide) ?_
    refine A_c41_ld X h dX7_rank_17 (fun hb3 h => ?_)
    obtain ⟨r4, e5, h⟩ := (Ok.bind h).ex
    refine C_Si (As := [.int a2, .int (nI 0), .int (M 41 (Int32.toNatClampNeg (nI 0)))]) (M' := M) X (va_cwS 3 X.1.2.2.2.2 (gw_S wML_X7_38 wST_X7_in wIN_X7 (gw_c wCD_X7_in)) rfl rfl rfl (by decide +kernel) ⟨Nat.le_of_ble_eq_true rfl, Nat.le_of_ble_eq_true rfl⟩) rfl rfl (Nat.le_of_ble_eq_true rfl) ⟨Nat.zero_le _, Nat.zero_le _⟩ (k_X7_in l D cy q a2 (nI 0) (M 41 (Int32.toNatClampNeg (nI 0))) M r4 e5) dX7_rank_18 ?_
    refine B_if_ne X 27 dX7_rank_21 (by decide) h (fun h => ?_) (fun h => ?_)
    · refine V_aload_n X dX7_rank_27 0 rfl rfl ?_
      refine V_iconst (v := (nI 0)) X dX7_rank_28 (by decide) ?_
      refine V_iload_n X dX7_rank_29 2 rfl rfl ?_
      obtain ⟨r6, e7, h⟩ := (Ok.bind h).ex
      refine C_Vv (As := [.int (nI 0), .int a2]) (M' := r6) (k0 := 40) X rfl rfl (cwV 2 X.1.2.2.2.2 (gw_V wML_X7_76 wIM_X7_counts wSE_X7_counts wIN_X7 (gw_c wCD_X7_counts)) rfl rfl rfl (by decide +kernel) ⟨Nat.le_of_ble_eq_true rfl, Nat.le_of_ble_eq_true rfl⟩) rfl rfl (Nat.le_of_ble_eq_true rfl) ⟨Nat.zero_le _, Nat.zero_le _⟩ (k_X7_counts l D cy q F (nI 0) a2 M r6 e7) dX7_rank_30 ?_
      refine V_aload_n X dX7_rank_33 0 rfl rfl ?_
      refine G_7_13 X inX7 wFL_X7_32 dX7_rank_34 ?_
      refine V_iload_n X dX7_rank_37 1 rfl rfl ?_
      refine A_c48_ld X h dX7_rank_38 (fun hb8 h => ?_)
      have h : ((r6 48 (Int32.toNatClampNeg a1)), r6) = (rv, M') := h
      exact R_i X hr hlk (congrArg Prod.fst h) (congrArg Prod.snd h) dX7_rank_39
    · refine V_ldc X wKI_X7_42 dX7_rank_24 ?_
      have h : ((-1000001 : Int32), M) = (rv, M') := h
      exact R_i X hr hlk (congrArg Prod.fst h) (congrArg Prod.snd h) dX7_rank_26
def rm_X7_select : Room := { frames := 1, cells := 0, slots := 0, locals := 22 }
def f_X7_select (F : Nat) (a1 : Int32) (a2 : Int32) (M : Mm) : Option (Int32) :=
  (f_X7_in a1 (nI 0) (nI 15)).bind fun r1 => if r1 = 0 then (some (-1000001 : Int32)) else (if 0 ≤ a2 then (lpf (fun z3 : Int32 × Int32 => if inb (nI 0) 61 = true then if (M 41 (Int32.toNatClampNeg (nI 0))) ≤ z3.2 then (some (.inr (-1000004 : Int32))) else (if inb ((nI 1) + z3.2) 61 = true then jn (if (M 41 (Int32.toNatClampNeg ((nI 1) + z3.2))) = a1 then (some (.inl (nI 1))) else (some (.inl (nI 0)))) (fun z6 : Int32 => jn (if z6 = 0 then (some (.inl ())) else (if z3.1 = 0 then (some (.inr (.inr z3.2))) else (some (.inl ())))) (fun z7 : Unit => if z6 = 0 then (some (.inl ((z3.1 - (nI 0)), (z3.2 + (nI 1))))) else (some (.inl ((z3.1 - (nI 1)), (z3.2 + (nI 1))))))) else none) else none) F (a2, (nI 0))) else (some (-1000001 : Int32)))
set_option maxRecDepth 100000 in
set_option maxHeartbeats 4000000 in
theorem k_X7_select (l : Launch) (D : va_G) (cy : Nat → ClassId) (q : Nat → Nat) (F : Nat) (a1 : Int32) (a2 : Int32) (M : Mm) (rv : Int32) (h0 : f_X7_select F a1 a2 M = some rv) : KI l yX7_select (Cond.code yX7_select cX7_select 6 (Option.some FieldType.int) :: gw) rm_X7_select D cy q [.ref (q 40), .int a1, .int a2] M rv M := by
  refine KI.mk (L0 := [(0, .ref (q 40)), (1, .int a1), (2, .int a2)]) (by decide +kernel) rfl (Nat.le_of_ble_eq_true rfl) rfl rfl rfl ?_
  intro p e s m below meth c X0 hr hlk
  have X := Fx.gw (own := RX7) X0
  clear X0
  have h : Ok (f_X7_select F a1 a2 M) (fun r => r = rv) := Ok.of h0 rfl
  clear h0
  delta f_X7_select at h
  refine V_iload_n X dX7_select_0 1 rfl rfl ?_
  refine V_iconst (v := (nI 0)) X dX7_select_1 (by decide) ?_
  refine V_bipush (v := (nI 15)) X dX7_select_2 (by decide) ?_
  obtain ⟨r1, e2, h⟩ := (Ok.bind h).ex
  refine C_Si (As := [.int a1, .int (nI 0), .int (nI 15)]) (M' := M) X (va_cwS 3 X.1.2.2.2.2 (gw_S wML_X7_38 wST_X7_in wIN_X7 (gw_c wCD_X7_in)) rfl rfl rfl (by decide +kernel) ⟨Nat.le_of_ble_eq_true rfl, Nat.le_of_ble_eq_true rfl⟩) rfl rfl (Nat.le_of_ble_eq_true rfl) ⟨Nat.zero_le _, Nat.zero_le _⟩ (k_X7_in l D cy q a1 (nI 0) (nI 15) M r1 e2) dX7_select_4 ?_
  refine B_if_eq X 14 dX7_select_7 (by decide) h (fun h => ?_) (fun h => ?_)
  · refine V_ldc X wKI_X7_42 dX7_select_14 ?_
    have h : (-1000001 : Int32) = rv := h
    exact R_i X hr hlk h rfl dX7_select_16
  · refine V_iload_n X dX7_select_10 2 rfl rfl ?_
    refine B_if_ge X 17 dX7_select_11 (by decide) h (fun h => ?_) (fun h => ?_)
    · refine V_iload_n X dX7_select_17 2 rfl rfl ?_
      refine V_istore_n (L' := [(3, .int a2), (0, .ref (q 40)), (1, .int a1), (2, .int a2)]) X dX7_select_18 rfl (by decide) rfl ?_
      refine V_iconst (v := (nI 0)) X dX7_select_19 (by decide) ?_
      refine V_istore (L' := [(4, .int (nI 0)), (3, .int a2), (0, .ref (q 40)), (1, .int a1), (2, .int a2)]) X dX7_select_20 (by decide) rfl ?_
      refine V_sub (L' := [(0, .ref (q 40)), (1, .int a1), (3, .int a2), (4, .int (nI 0))]) [2, 3, 1, 0] rfl ?_
      refine V_loop X h (fun z3 => M) (fun z3 => [(0, .ref (q 40)), (1, .int a1), (3, .int z3.1), (4, .int z3.2)]) rfl rfl (fun z3 h => ?_)
      refine V_iload X dX7_select_22 3 rfl ?_
      refine V_aload_n X dX7_select_24 0 rfl rfl ?_
      refine G_7_0 X inX7 wFL_X7_7 dX7_select_25 ?_
      refine V_iconst (v := (nI 0)) X dX7_select_28 (by decide) ?_
      refine A_c41_ld X h dX7_select_29 (fun hb4 h => ?_)
      refine B_icmp_ge X 84 dX7_select_30 (by decide) h (fun h => ?_) (fun h => ?_)
      · refine V_ldc X wKI_X7_83 dX7_select_84 ?_
        have h : (-1000004 : Int32) = rv := h
        exact R_i X hr hlk h rfl dX7_select_86
      · refine V_aload_n X dX7_select_33 0 rfl rfl ?_
        refine G_7_0 X inX7 wFL_X7_7 dX7_select_34 ?_
        refine V_iconst (v := (nI 1)) X dX7_select_37 (by decide) ?_
        refine V_iload X dX7_select_38 3 rfl ?_
        refine V_iadd X dX7_select_40 ?_
        refine A_c41_ld X h dX7_select_41 (fun hb5 h => ?_)
        refine V_iload_n X dX7_select_42 1 rfl rfl ?_
        refine V_join X h (fun z6 => M) (fun z6 => [(0, .ref (q 40)), (1, .int a1), (3, .int z3.1), (4, .int z3.2)]) (fun z6 => [.int z6]) 51 (fun z6 h => ?_) (fun h => ?_)
        · refine V_istore (L' := [(5, .int z6), (0, .ref (q 40)), (1, .int a1), (3, .int z3.1), (4, .int z3.2)]) X dX7_select_51 (by decide) rfl ?_
          refine V_iload X dX7_select_53 0 rfl ?_
          refine V_join X h (fun z7 => M) (fun z7 => [(0, .ref (q 40)), (1, .int a1), (3, .int z3.1), (4, .int z3.2), (5, .int z6)]) (fun z7 => []) 65 (fun z7 h => ?_) (fun h => ?_)
          · refine V_iload_n X dX7_select_65 2 rfl rfl ?_
            refine V_iload X dX7_select_66 4 rfl ?_
            refine B_if_eq X 75 dX7_select_68 (by decide) h (fun h => ?_) (fun h => ?_)
            · refine V_iconst (v := (nI 0)) X dX7_select_75 (by decide) ?_
              refine V_isub X dX7_select_76 ?_
              refine V_istore_n (L' := [(3, .int (z3.1 - (nI 0))), (0, .ref (q 40)), (1, .int a1), (4, .int z3.2), (5, .int z6)]) X dX7_select_77 rfl (by decide) rfl ?_
              refine V_iinc (v := (z3.2 + (nI 1))) (L' := [(4, .int (z3.2 + (nI 1))), (3, .int (z3.1 - (nI 0))), (0, .ref (q 40)), (1, .int a1), (5, .int z6)]) (j := 3) X dX7_select_78 rfl rfl (by decide) rfl ?_
              refine V_goto X 22 dX7_select_81 (by decide) ?_
              exact V_sub [2, 3, 1, 0] rfl h
            · refine V_iconst (v := (nI 1)) X dX7_select_71 (by decide) ?_
              refine V_goto X 76 dX7_select_72 (by decide) ?_
              refine V_isub X dX7_select_76 ?_
              refine V_istore_n (L' := [(3, .int (z3.1 - (nI 1))), (0, .ref (q 40)), (1, .int a1), (4, .int z3.2), (5, .int z6)]) X dX7_select_77 rfl (by decide) rfl ?_
              refine V_iinc (v := (z3.2 + (nI 1))) (L' := [(4, .int (z3.2 + (nI 1))), (3, .int (z3.1 - (nI 1))), (0, .ref (q 40)), (1, .int a1), (5, .int z6)]) (j := 3) X dX7_select_78 rfl rfl (by decide) rfl ?_
              refine V_goto X 22 dX7_select_81 (by decide) ?_
              exact V_sub [2, 3, 1, 0] rfl h
          · refine B_if_eq X 65 dX7_select_55 (by decide) h (fun h => ?_) (fun h => ?_)
            · exact V_sub [1, 2, 3, 4, 0] rfl h
            · refine V_iload_n X dX7_select_58 3 rfl rfl ?_
              refine B_if_ne X 65 dX7_select_59 (by decide) h (fun h => ?_) (fun h => ?_)
              · exact V_sub [1, 2, 3, 4, 0] rfl h
              · refine V_iload X dX7_select_62 4 rfl ?_
                have h : z3.2 = rv := h
                exact R_i X hr hlk h rfl dX7_select_64
        · refine B_icmp_ne X 50 dX7_select_43 (by decide) h (fun h => ?_) (fun h => ?_)
          · refine V_iconst (v := (nI 0)) X dX7_select_50 (by decide) ?_
            exact V_sub [0, 1, 2, 3] rfl h
          · refine V_iconst (v := (nI 1)) X dX7_select_46 (by decide) ?_
            refine V_goto X 51 dX7_select_47 (by decide) ?_
            exact V_sub [0, 1, 2, 3] rfl h
    · refine V_ldc X wKI_X7_42 dX7_select_14 ?_
      have h : (-1000001 : Int32) = rv := h
      exact R_i X hr hlk h rfl dX7_select_16
def rm_X7_smallest : Room := { frames := 1, cells := 0, slots := 0, locals := 23 }
def f_X7_smallest (F : Nat) (a1 : Int32) (a2 : Int32) (a3 : Int32) (M : Mm) : Option (Int32 × Mm) :=
  (f_X7_isSpan a1 a2 M).bind fun r1 => if r1 = 0 then (some ((-1000001 : Int32), M)) else (if 0 ≤ a3 then ((f_X7_counts F a1 a2 M).bind fun r3 => lpf (fun z5 : Int32 × Int32 => if (nI 16) ≤ z5.2 then (some (.inr ((-1000004 : Int32), r3))) else (if inb z5.2 16 = true then if (r3 48 (Int32.toNatClampNeg z5.2)) ≤ z5.1 then (if inb z5.2 16 = true then some (.inl ((z5.1 - (r3 48 (Int32.toNatClampNeg z5.2))), (z5.2 + (nI 1)))) else none) else (some (.inr (z5.2, r3))) else none)) F (a3, (nI 0))) else (some ((-1000001 : Int32), M)))
set_option maxRecDepth 100000 in
set_option maxHeartbeats 4000000 in
theorem k_X7_smallest (l : Launch) (D : va_G) (cy : Nat → ClassId) (q : Nat → Nat) (F : Nat) (a1 : Int32) (a2 : Int32) (a3 : Int32) (M : Mm) (rv : Int32) (M' : Mm) (h0 : f_X7_smallest F a1 a2 a3 M = some (rv, M')) : KI l yX7_smallest (Cond.code yX7_smallest cX7_smallest 6 (Option.some FieldType.int) :: gw) rm_X7_smallest D cy q [.ref (q 40), .int a1, .int a2, .int a3] M rv M' := by
  refine KI.mk (L0 := [(0, .ref (q 40)), (1, .int a1), (2, .int a2), (3, .int a3)]) (by decide +kernel) rfl (Nat.le_of_ble_eq_true rfl) rfl rfl rfl ?_
  intro p e s m below meth c X0 hr hlk
  have X := Fx.gw (own := RX7) X0
  clear X0
  have h : Ok (f_X7_smallest F a1 a2 a3 M) (fun r => r = (rv, M')) := Ok.of h0 rfl
  clear h0
  delta f_X7_smallest at h
  refine V_aload_n X dX7_smallest_0 0 rfl rfl ?_
  refine V_iload_n X dX7_smallest_1 1 rfl rfl ?_
  refine V_iload_n X dX7_smallest_2 2 rfl rfl ?_
  obtain ⟨r1, e2, h⟩ := (Ok.bind h).ex
  refine C_Vi (As := [.int a1, .int a2]) (M' := M) (k0 := 40) X rfl rfl (cwV 2 X.1.2.2.2.2 (gw_V wML_X7_69 wIM_X7_isSpan wSE_X7_isSpan wIN_X7 (gw_c wCD_X7_isSpan)) rfl rfl rfl (by decide +kernel) ⟨Nat.le_of_ble_eq_true rfl, Nat.le_of_ble_eq_true rfl⟩) rfl rfl (Nat.le_of_ble_eq_true rfl) ⟨Nat.zero_le _, Nat.zero_le _⟩ (k_X7_isSpan l D cy q a1 a2 M r1 e2) dX7_smallest_3 ?_
  refine B_if_eq X 13 dX7_smallest_6 (by decide) h (fun h => ?_) (fun h => ?_)
  · refine V_ldc X wKI_X7_42 dX7_smallest_13 ?_
    have h : ((-1000001 : Int32), M) = (rv, M') := h
    exact R_i X hr hlk (congrArg Prod.fst h) (congrArg Prod.snd h) dX7_smallest_15
  · refine V_iload_n X dX7_smallest_9 3 rfl rfl ?_
    refine B_if_ge X 16 dX7_smallest_10 (by decide) h (fun h => ?_) (fun h => ?_)
    · refine V_aload_n X dX7_smallest_16 0 rfl rfl ?_
      refine V_iload_n X dX7_smallest_17 1 rfl rfl ?_
      refine V_iload_n X dX7_smallest_18 2 rfl rfl ?_
      obtain ⟨r3, e4, h⟩ := (Ok.bind h).ex
      refine C_Vv (As := [.int a1, .int a2]) (M' := r3) (k0 := 40) X rfl rfl (cwV 2 X.1.2.2.2.2 (gw_V wML_X7_76 wIM_X7_counts wSE_X7_counts wIN_X7 (gw_c wCD_X7_counts)) rfl rfl rfl (by decide +kernel) ⟨Nat.le_of_ble_eq_true rfl, Nat.le_of_ble_eq_true rfl⟩) rfl rfl (Nat.le_of_ble_eq_true rfl) ⟨Nat.zero_le _, Nat.zero_le _⟩ (k_X7_counts l D cy q F a1 a2 M r3 e4) dX7_smallest_19 ?_
      refine V_iload_n X dX7_smallest_22 3 rfl rfl ?_
      refine V_istore (L' := [(4, .int a3), (0, .ref (q 40)), (1, .int a1), (2, .int a2), (3, .int a3)]) X dX7_smallest_23 (by decide) rfl ?_
      refine V_iconst (v := (nI 0)) X dX7_smallest_25 (by decide) ?_
      refine V_istore (L' := [(5, .int (nI 0)), (4, .int a3), (0, .ref (q 40)), (1, .int a1), (2, .int a2), (3, .int a3)]) X dX7_smallest_26 (by decide) rfl ?_
      refine V_sub (L' := [(0, .ref (q 40)), (4, .int a3), (5, .int (nI 0))]) [2, 1, 0] rfl ?_
      refine V_loop X h (fun z5 => r3) (fun z5 => [(0, .ref (q 40)), (4, .int z5.1), (5, .int z5.2)]) rfl rfl (fun z5 h => ?_)
      refine V_iload X dX7_smallest_28 2 rfl ?_
      refine V_bipush (v := (nI 16)) X dX7_smallest_30 (by decide) ?_
      refine B_icmp_ge X 68 dX7_smallest_32 (by decide) h (fun h => ?_) (fun h => ?_)
      · refine V_ldc X wKI_X7_83 dX7_smallest_68 ?_
        have h : ((-1000004 : Int32), r3) = (rv, M') := h
        exact R_i X hr hlk (congrArg Prod.fst h) (congrArg Prod.snd h) dX7_smallest_70
      · refine V_iload X dX7_smallest_35 1 rfl ?_
        refine V_aload_n X dX7_smallest_37 0 rfl rfl ?_
        refine G_7_13 X inX7 wFL_X7_32 dX7_smallest_38 ?_
        refine V_iload X dX7_smallest_41 2 rfl ?_
        refine A_c48_ld X h dX7_smallest_43 (fun hb6 h => ?_)
        refine B_icmp_ge X 50 dX7_smallest_44 (by decide) h (fun h => ?_) (fun h => ?_)
        · refine V_iload X dX7_smallest_50 1 rfl ?_
          refine V_aload_n X dX7_smallest_52 0 rfl rfl ?_
          refine G_7_13 X inX7 wFL_X7_32 dX7_smallest_53 ?_
          refine V_iload X dX7_smallest_56 2 rfl ?_
          refine A_c48_ld X h dX7_smallest_58 (fun hb7 h => ?_)
          refine V_isub X dX7_smallest_59 ?_
          refine V_istore (L' := [(4, .int (z5.1 - (r3 48 (Int32.toNatClampNeg z5.2)))), (0, .ref (q 40)), (5, .int z5.2)]) X dX7_smallest_60 (by decide) rfl ?_
          refine V_iinc (v := (z5.2 + (nI 1))) (L' := [(5, .int (z5.2 + (nI 1))), (4, .int (z5.1 - (r3 48 (Int32.toNatClampNeg z5.2)))), (0, .ref (q 40))]) (j := 2) X dX7_smallest_62 rfl rfl (by decide) rfl ?_
          refine V_goto X 28 dX7_smallest_65 (by decide) ?_
          exact V_sub [2, 1, 0] rfl h
        · refine V_iload X dX7_smallest_47 2 rfl ?_
          have h : (z5.2, r3) = (rv, M') := h
          exact R_i X hr hlk (congrArg Prod.fst h) (congrArg Prod.snd h) dX7_smallest_49
    · refine V_ldc X wKI_X7_42 dX7_smallest_13 ?_
      have h : ((-1000001 : Int32), M) = (rv, M') := h
      exact R_i X hr hlk (congrArg Prod.fst h) (congrArg Prod.snd h) dX7_smallest_15
def rm_X7_below : Room := { frames := 1, cells := 0, slots := 0, locals := 22 }
def f_X7_below (F : Nat) (a1 : Int32) (a2 : Int32) (a3 : Int32) (M : Mm) : Option (Int32) :=
  (f_X7_isSpan a1 a2 M).bind fun r1 => if r1 = 0 then (some (-1000001 : Int32)) else ((f_X7_in a3 (nI 0) (nI 16)).bind fun r3 => if r3 = 0 then (some (-1000001 : Int32)) else (lpf (fun z5 : Int32 × Int32 => if a2 ≤ z5.2 then (some (.inr z5.1)) else (if inb ((nI 1) + z5.2) 61 = true then if a3 ≤ (M 41 (Int32.toNatClampNeg ((nI 1) + z5.2))) then (some (.inl ((z5.1 + (nI 0)), (z5.2 + (nI 1))))) else (some (.inl ((z5.1 + (nI 1)), (z5.2 + (nI 1))))) else none)) F ((nI 0), a1)))
set_option maxRecDepth 100000 in
set_option maxHeartbeats 4000000 in
theorem k_X7_below (l : Launch) (D : va_G) (cy : Nat → ClassId) (q : Nat → Nat) (F : Nat) (a1 : Int32) (a2 : Int32) (a3 : Int32) (M : Mm) (rv : Int32) (h0 : f_X7_below F a1 a2 a3 M = some rv) : KI l yX7_below (Cond.code yX7_below cX7_below 6 (Option.some FieldType.int) :: gw) rm_X7_below D cy q [.ref (q 40), .int a1, .int a2, .int a3] M rv M := by
  refine KI.mk (L0 := [(0, .ref (q 40)), (1, .int a1), (2, .int a2), (3, .int a3)]) (by decide +kernel) rfl (Nat.le_of_ble_eq_true rfl) rfl rfl rfl ?_
  intro p e s m below meth c X0 hr hlk
  have X := Fx.gw (own := RX7) X0
  clear X0
  have h : Ok (f_X7_below F a1 a2 a3 M) (fun r => r = rv) := Ok.of h0 rfl
  clear h0
  delta f_X7_below at h
  refine V_aload_n X dX7_below_0 0 rfl rfl ?_
  refine V_iload_n X dX7_below_1 1 rfl rfl ?_
  refine V_iload_n X dX7_below_2 2 rfl rfl ?_
  obtain ⟨r1, e2, h⟩ := (Ok.bind h).ex
  refine C_Vi (As := [.int a1, .int a2]) (M' := M) (k0 := 40) X rfl rfl (cwV 2 X.1.2.2.2.2 (gw_V wML_X7_69 wIM_X7_isSpan wSE_X7_isSpan wIN_X7 (gw_c wCD_X7_isSpan)) rfl rfl rfl (by decide +kernel) ⟨Nat.le_of_ble_eq_true rfl, Nat.le_of_ble_eq_true rfl⟩) rfl rfl (Nat.le_of_ble_eq_true rfl) ⟨Nat.zero_le _, Nat.zero_le _⟩ (k_X7_isSpan l D cy q a1 a2 M r1 e2) dX7_below_3 ?_
  refine B_if_eq X 19 dX7_below_6 (by decide) h (fun h => ?_) (fun h => ?_)
  · refine V_ldc X wKI_X7_42 dX7_below_19 ?_
    have h : (-1000001 : Int32) = rv := h
    exact R_i X hr hlk h rfl dX7_below_21
  · refine V_iload_n X dX7_below_9 3 rfl rfl ?_
    refine V_iconst (v := (nI 0)) X dX7_below_10 (by decide) ?_
    refine V_bipush (v := (nI 16)) X dX7_below_11 (by decide) ?_
    obtain ⟨r3, e4, h⟩ := (Ok.bind h).ex
    refine C_Si (As := [.int a3, .int (nI 0), .int (nI 16)]) (M' := M) X (va_cwS 3 X.1.2.2.2.2 (gw_S wML_X7_38 wST_X7_in wIN_X7 (gw_c wCD_X7_in)) rfl rfl rfl (by decide +kernel) ⟨Nat.le_of_ble_eq_true rfl, Nat.le_of_ble_eq_true rfl⟩) rfl rfl (Nat.le_of_ble_eq_true rfl) ⟨Nat.zero_le _, Nat.zero_le _⟩ (k_X7_in l D cy q a3 (nI 0) (nI 16) M r3 e4) dX7_below_13 ?_
    refine B_if_ne X 22 dX7_below_16 (by decide) h (fun h => ?_) (fun h => ?_)
    · refine V_iconst (v := (nI 0)) X dX7_below_22 (by decide) ?_
      refine V_istore (L' := [(4, .int (nI 0)), (0, .ref (q 40)), (1, .int a1), (2, .int a2), (3, .int a3)]) X dX7_below_23 (by decide) rfl ?_
      refine V_iload_n X dX7_below_25 2 rfl rfl ?_
      refine V_istore (L' := [(5, .int a1), (4, .int (nI 0)), (0, .ref (q 40)), (1, .int a1), (2, .int a2), (3, .int a3)]) X dX7_below_26 (by decide) rfl ?_
      refine V_sub (L' := [(0, .ref (q 40)), (2, .int a2), (3, .int a3), (4, .int (nI 0)), (5, .int a1)]) [2, 4, 5, 1, 0] rfl ?_
      refine V_loop X h (fun z5 => M) (fun z5 => [(0, .ref (q 40)), (2, .int a2), (3, .int a3), (4, .int z5.1), (5, .int z5.2)]) rfl rfl (fun z5 h => ?_)
      refine V_iload X dX7_below_28 4 rfl ?_
      refine V_iload_n X dX7_below_30 1 rfl rfl ?_
      refine B_icmp_ge X 63 dX7_below_31 (by decide) h (fun h => ?_) (fun h => ?_)
      · refine V_iload X dX7_below_63 3 rfl ?_
        have h : z5.1 = rv := h
        exact R_i X hr hlk h rfl dX7_below_65
      · refine V_iload X dX7_below_34 3 rfl ?_
        refine V_aload_n X dX7_below_36 0 rfl rfl ?_
        refine G_7_0 X inX7 wFL_X7_7 dX7_below_37 ?_
        refine V_iconst (v := (nI 1)) X dX7_below_40 (by decide) ?_
        refine V_iload X dX7_below_41 4 rfl ?_
        refine V_iadd X dX7_below_43 ?_
        refine A_c41_ld X h dX7_below_44 (fun hb6 h => ?_)
        refine V_iload_n X dX7_below_45 2 rfl rfl ?_
        refine B_icmp_ge X 53 dX7_below_46 (by decide) h (fun h => ?_) (fun h => ?_)
        · refine V_iconst (v := (nI 0)) X dX7_below_53 (by decide) ?_
          refine V_iadd X dX7_below_54 ?_
          refine V_istore (L' := [(4, .int (z5.1 + (nI 0))), (0, .ref (q 40)), (2, .int a2), (3, .int a3), (5, .int z5.2)]) X dX7_below_55 (by decide) rfl ?_
          refine V_iinc (v := (z5.2 + (nI 1))) (L' := [(5, .int (z5.2 + (nI 1))), (4, .int (z5.1 + (nI 0))), (0, .ref (q 40)), (2, .int a2), (3, .int a3)]) (j := 4) X dX7_below_57 rfl rfl (by decide) rfl ?_
          refine V_goto X 28 dX7_below_60 (by decide) ?_
          exact V_sub [2, 3, 4, 1, 0] rfl h
        · refine V_iconst (v := (nI 1)) X dX7_below_49 (by decide) ?_
          refine V_goto X 54 dX7_below_50 (by decide) ?_
          refine V_iadd X dX7_below_54 ?_
          refine V_istore (L' := [(4, .int (z5.1 + (nI 1))), (0, .ref (q 40)), (2, .int a2), (3, .int a3), (5, .int z5.2)]) X dX7_below_55 (by decide) rfl ?_
          refine V_iinc (v := (z5.2 + (nI 1))) (L' := [(5, .int (z5.2 + (nI 1))), (4, .int (z5.1 + (nI 1))), (0, .ref (q 40)), (2, .int a2), (3, .int a3)]) (j := 4) X dX7_below_57 rfl rfl (by decide) rfl ?_
          refine V_goto X 28 dX7_below_60 (by decide) ?_
          exact V_sub [2, 3, 4, 1, 0] rfl h
    · refine V_ldc X wKI_X7_42 dX7_below_19 ?_
      have h : (-1000001 : Int32) = rv := h
      exact R_i X hr hlk h rfl dX7_below_21
