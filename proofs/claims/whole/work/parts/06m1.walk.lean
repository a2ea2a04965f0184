def rm_X7_notBelow : Room := { frames := 1, cells := 0, slots := 0, locals := 22 }
def f_X7_notBelow (F : Nat) (a1 : Int32) (a2 : Int32) (a3 : Int32) (M : Mm) : Option (Int32) :=
  (f_X7_isSpan a1 a2 M).bind fun r1 => if r1 = 0 then (some (-1000001 : Int32)) else ((f_X7_in a3 (nI 0) (nI 15)).bind fun r3 => if r3 = 0 then (some (-1000001 : Int32)) else (lpf (fun z5 : Int32 × Int32 => if a2 ≤ z5.2 then (if z5.1 = (nI 16) then (some (.inr (-1000004 : Int32))) else (some (.inr z5.1))) else (if inb ((nI 1) + z5.2) 61 = true then if (M 41 (Int32.toNatClampNeg ((nI 1) + z5.2))) < a3 then (some (.inl (z5.1, (z5.2 + (nI 1))))) else (if z5.1 ≤ (M 41 (Int32.toNatClampNeg ((nI 1) + z5.2))) then (some (.inl (z5.1, (z5.2 + (nI 1))))) else (some (.inl ((M 41 (Int32.toNatClampNeg ((nI 1) + z5.2))), (z5.2 + (nI 1)))))) else none)) F ((nI 16), a1)))
set_option maxRecDepth 100000 in
set_option maxHeartbeats 4000000 in
theorem k_X7_notBelow (l : Launch) (D : va_G) (cy : Nat → ClassId) (q : Nat → Nat) (F : Nat) (a1 : Int32) (a2 : Int32) (a3 : Int32) (M : Mm) (rv : Int32) (h0 : f_X7_notBelow F a1 a2 a3 M = some rv) : KI l yX7_notBelow (Cond.code yX7_notBelow cX7_notBelow 7 (Option.some FieldType.int) :: gw) rm_X7_notBelow D cy q [.ref (q 40), .int a1, .int a2, .int a3] M rv M := by
  refine KI.mk (L0 := [(0, .ref (q 40)), (1, .int a1), (2, .int a2), (3, .int a3)]) (by decide +kernel) rfl (Nat.le_of_ble_eq_true rfl) rfl rfl rfl ?_
  intro p e s m below meth c X0 hr hlk
  have X := Fx.gw (own := RX7) X0
  clear X0
  have h : Ok (f_X7_notBelow F a1 a2 a3 M) (fun r => r = rv) := Ok.of h0 rfl
  clear h0
  delta f_X7_notBelow at h
  refine V_aload_n X dX7_notBelow_0 0 rfl rfl ?_
  refine V_iload_n X dX7_notBelow_1 1 rfl rfl ?_
  refine V_iload_n X dX7_notBelow_2 2 rfl rfl ?_
  obtain ⟨r1, e2, h⟩ := (Ok.bind h).ex
  refine C_Vi (As := [.int a1, .int a2]) (M' := M) (k0 := 40) X rfl rfl (cwV 2 X.1.2.2.2.2 (gw_V wML_X7_69 wIM_X7_isSpan wSE_X7_isSpan wIN_X7 (gw_c wCD_X7_isSpan)) rfl rfl rfl (by decide +kernel) ⟨Nat.le_of_ble_eq_true rfl, Nat.le_of_ble_eq_true rfl⟩) rfl rfl (Nat.le_of_ble_eq_true rfl) ⟨Nat.zero_le _, Nat.zero_le _⟩ (k_X7_isSpan l D cy q a1 a2 M r1 e2) dX7_notBelow_3 ?_
  refine B_if_eq X 19 dX7_notBelow_6 (by decide) h (fun h => ?_) (fun h => ?_)
  · refine V_ldc X wKI_X7_42 dX7_notBelow_19 ?_
    have h : (-1000001 : Int32) = rv := h
    exact R_i X hr hlk h rfl dX7_notBelow_21
  · refine V_iload_n X dX7_notBelow_9 3 rfl rfl ?_
    refine V_iconst (v := (nI 0)) X dX7_notBelow_10 (by decide) ?_
    refine V_bipush (v := (nI 15)) X dX7_notBelow_11 (by decide) ?_
    obtain ⟨r3, e4, h⟩ := (Ok.bind h).ex
    refine C_Si (As := [.int a3, .int (nI 0), .int (nI 15)]) (M' := M) X (va_cwS 3 X.1.2.2.2.2 (gw_S wML_X7_38 wST_X7_in wIN_X7 (gw_c wCD_X7_in)) rfl rfl rfl (by decide +kernel) ⟨Nat.le_of_ble_eq_true rfl, Nat.le_of_ble_eq_true rfl⟩) rfl rfl (Nat.le_of_ble_eq_true rfl) ⟨Nat.zero_le _, Nat.zero_le _⟩ (k_X7_in l D cy q a3 (nI 0) (nI 15) M r3 e4) dX7_notBelow_13 ?_
    refine B_if_ne X 22 dX7_notBelow_16 (by decide) h (fun h => ?_) (fun h => ?_)
    · refine V_bipush (v := (nI 16)) X dX7_notBelow_22 (by decide) ?_
      refine V_istore (L' := [(4, .int (nI 16)), (0, .ref (q 40)), (1, .int a1), (2, .int a2), (3, .int a3)]) X dX7_notBelow_24 (by decide) rfl ?_
      refine V_iload_n X dX7_notBelow_26 2 rfl rfl ?_
      refine V_istore (L' := [(5, .int a1), (4, .int (nI 16)), (0, .ref (q 40)), (1, .int a1), (2, .int a2), (3, .int a3)]) X dX7_notBelow_27 (by decide) rfl ?_
      refine V_sub (L' := [(0, .ref (q 40)), (2, .int a2), (3, .int a3), (4, .int (nI 16)), (5, .int a1)]) [2, 4, 5, 1, 0] rfl ?_
      refine V_loop X h (fun z5 => M) (fun z5 => [(0, .ref (q 40)), (2, .int a2), (3, .int a3), (4, .int z5.1), (5, .int z5.2)]) rfl rfl (fun z5 h => ?_)
      refine V_iload X dX7_notBelow_29 4 rfl ?_
      refine V_iload_n X dX7_notBelow_31 1 rfl rfl ?_
      refine B_icmp_ge X 74 dX7_notBelow_32 (by decide) h (fun h => ?_) (fun h => ?_)
      · refine V_iload X dX7_notBelow_74 3 rfl ?_
        refine V_bipush (v := (nI 16)) X dX7_notBelow_76 (by decide) ?_
        refine B_icmp_ne X 86 dX7_notBelow_78 (by decide) h (fun h => ?_) (fun h => ?_)
        · refine V_iload X dX7_notBelow_86 3 rfl ?_
          have h : z5.1 = rv := h
          exact R_i X hr hlk h rfl dX7_notBelow_88
        · refine V_ldc X wKI_X7_83 dX7_notBelow_81 ?_
          refine V_goto X 88 dX7_notBelow_83 (by decide) ?_
          have h : (-1000004 : Int32) = rv := h
          exact R_i X hr hlk h rfl dX7_notBelow_88
      · refine V_aload_n X dX7_notBelow_35 0 rfl rfl ?_
        refine G_7_0 X inX7 wFL_X7_7 dX7_notBelow_36 ?_
        refine V_iconst (v := (nI 1)) X dX7_notBelow_39 (by decide) ?_
        refine V_iload X dX7_notBelow_40 4 rfl ?_
        refine V_iadd X dX7_notBelow_42 ?_
        refine A_c41_ld X h dX7_notBelow_43 (fun hb6 h => ?_)
        refine V_istore (L' := [(6, .int (M 41 (Int32.toNatClampNeg ((nI 1) + z5.2)))), (0, .ref (q 40)), (2, .int a2), (3, .int a3), (4, .int z5.1), (5, .int z5.2)]) X dX7_notBelow_44 (by decide) rfl ?_
        refine V_iload X dX7_notBelow_46 0 rfl ?_
        refine V_iload_n X dX7_notBelow_48 3 rfl rfl ?_
        refine B_icmp_lt X 64 dX7_notBelow_49 (by decide) h (fun h => ?_) (fun h => ?_)
        · refine V_iload X dX7_notBelow_64 4 rfl ?_
          refine V_istore (L' := [(4, .int z5.1), (6, .int (M 41 (Int32.toNatClampNeg ((nI 1) + z5.2)))), (0, .ref (q 40)), (2, .int a2), (3, .int a3), (5, .int z5.2)]) X dX7_notBelow_66 (by decide) rfl ?_
          refine V_iinc (v := (z5.2 + (nI 1))) (L' := [(5, .int (z5.2 + (nI 1))), (4, .int z5.1), (6, .int (M 41 (Int32.toNatClampNeg ((nI 1) + z5.2)))), (0, .ref (q 40)), (2, .int a2), (3, .int a3)]) (j := 5) X dX7_notBelow_68 rfl rfl (by decide) rfl ?_
          refine V_goto X 29 dX7_notBelow_71 (by decide) ?_
          exact V_sub [3, 4, 5, 1, 0] rfl h
        · refine V_iload X dX7_notBelow_52 0 rfl ?_
          refine V_iload X dX7_notBelow_54 4 rfl ?_
          refine B_icmp_ge X 64 dX7_notBelow_56 (by decide) h (fun h => ?_) (fun h => ?_)
          · refine V_iload X dX7_notBelow_64 4 rfl ?_
            refine V_istore (L' := [(4, .int z5.1), (6, .int (M 41 (Int32.toNatClampNeg ((nI 1) + z5.2)))), (0, .ref (q 40)), (2, .int a2), (3, .int a3), (5, .int z5.2)]) X dX7_notBelow_66 (by decide) rfl ?_
            refine V_iinc (v := (z5.2 + (nI 1))) (L' := [(5, .int (z5.2 + (nI 1))), (4, .int z5.1), (6, .int (M 41 (Int32.toNatClampNeg ((nI 1) + z5.2)))), (0, .ref (q 40)), (2, .int a2), (3, .int a3)]) (j := 5) X dX7_notBelow_68 rfl rfl (by decide) rfl ?_
            refine V_goto X 29 dX7_notBelow_71 (by decide) ?_
            exact V_sub [3, 4, 5, 1, 0] rfl h
          · refine V_iload X dX7_notBelow_59 0 rfl ?_
            refine V_goto X 66 dX7_notBelow_61 (by decide) ?_
            refine V_istore (L' := [(4, .int (M 41 (Int32.toNatClampNeg ((nI 1) + z5.2)))), (6, .int (M 41 (Int32.toNatClampNeg ((nI 1) + z5.2)))), (0, .ref (q 40)), (2, .int a2), (3, .int a3), (5, .int z5.2)]) X dX7_notBelow_66 (by decide) rfl ?_
            refine V_iinc (v := (z5.2 + (nI 1))) (L' := [(5, .int (z5.2 + (nI 1))), (4, .int (M 41 (Int32.toNatClampNeg ((nI 1) + z5.2)))), (6, .int (M 41 (Int32.toNatClampNeg ((nI 1) + z5.2)))), (0, .ref (q 40)), (2, .int a2), (3, .int a3)]) (j := 5) X dX7_notBelow_68 rfl rfl (by decide) rfl ?_
            refine V_goto X 29 dX7_notBelow_71 (by decide) ?_
            exact V_sub [3, 4, 5, 1, 0] rfl h
    · refine V_ldc X wKI_X7_42 dX7_notBelow_19 ?_
      have h : (-1000001 : Int32) = rv := h
      exact R_i X hr hlk h rfl dX7_notBelow_21
def rm_X7_unlike : Room := { frames := 0, cells := 0, slots := 0, locals := 0 }
def f_X7_unlike (F : Nat) (M : Mm) : Option (Int32) :=
  lpf (fun z1 : Int32 × Int32 => if (nI 16) ≤ z1.2 then (some (.inr z1.1)) else (if inb z1.2 16 = true then if (M 48 (Int32.toNatClampNeg z1.2)) ≤ 0 then (some (.inl ((z1.1 + (nI 0)), (z1.2 + (nI 1))))) else (some (.inl ((z1.1 + (nI 1)), (z1.2 + (nI 1))))) else none)) F ((nI 0), (nI 0))
set_option maxRecDepth 100000 in
set_option maxHeartbeats 4000000 in
theorem k_X7_unlike (l : Launch) (D : va_G) (cy : Nat → ClassId) (q : Nat → Nat) (F : Nat) (M : Mm) (rv : Int32) (h0 : f_X7_unlike F M = some rv) : KI l yX7_unlike (Cond.code yX7_unlike cX7_unlike 3 (Option.some FieldType.int) :: gw) rm_X7_unlike D cy q [.ref (q 40)] M rv M := by
  refine KI.mk (L0 := [(0, .ref (q 40))]) (by decide +kernel) rfl (Nat.le_of_ble_eq_true rfl) rfl rfl rfl ?_
  intro p e s m below meth c X0 hr hlk
  have X := Fx.gw (own := RX7) X0
  clear X0
  have h : Ok (f_X7_unlike F M) (fun r => r = rv) := Ok.of h0 rfl
  clear h0
  delta f_X7_unlike at h
  refine V_iconst (v := (nI 0)) X dX7_unlike_0 (by decide) ?_
  refine V_istore_n (L' := [(1, .int (nI 0)), (0, .ref (q 40))]) X dX7_unlike_1 rfl (by decide) rfl ?_
  refine V_iconst (v := (nI 0)) X dX7_unlike_2 (by decide) ?_
  refine V_istore_n (L' := [(2, .int (nI 0)), (1, .int (nI 0)), (0, .ref (q 40))]) X dX7_unlike_3 rfl (by decide) rfl ?_
  refine V_sub (L' := [(0, .ref (q 40)), (1, .int (nI 0)), (2, .int (nI 0))]) [2, 1, 0] rfl ?_
  refine V_loop X h (fun z1 => M) (fun z1 => [(0, .ref (q 40)), (1, .int z1.1), (2, .int z1.2)]) rfl rfl (fun z1 h => ?_)
  refine V_iload_n X dX7_unlike_4 2 rfl rfl ?_
  refine V_bipush (v := (nI 16)) X dX7_unlike_5 (by decide) ?_
  refine B_icmp_ge X 33 dX7_unlike_7 (by decide) h (fun h => ?_) (fun h => ?_)
  · refine V_iload_n X dX7_unlike_33 1 rfl rfl ?_
    have h : z1.1 = rv := h
    exact R_i X hr hlk h rfl dX7_unlike_34
  · refine V_iload_n X dX7_unlike_10 1 rfl rfl ?_
    refine V_aload_n X dX7_unlike_11 0 rfl rfl ?_
    refine G_7_13 X inX7 wFL_X7_32 dX7_unlike_12 ?_
    refine V_iload_n X dX7_unlike_15 2 rfl rfl ?_
    refine A_c48_ld X h dX7_unlike_16 (fun hb2 h => ?_)
    refine B_if_le X 24 dX7_unlike_17 (by decide) h (fun h => ?_) (fun h => ?_)
    · refine V_iconst (v := (nI 0)) X dX7_unlike_24 (by decide) ?_
      refine V_iadd X dX7_unlike_25 ?_
      refine V_istore_n (L' := [(1, .int (z1.1 + (nI 0))), (0, .ref (q 40)), (2, .int z1.2)]) X dX7_unlike_26 rfl (by decide) rfl ?_
      refine V_iinc (v := (z1.2 + (nI 1))) (L' := [(2, .int (z1.2 + (nI 1))), (1, .int (z1.1 + (nI 0))), (0, .ref (q 40))]) (j := 2) X dX7_unlike_27 rfl rfl (by decide) rfl ?_
      refine V_goto X 4 dX7_unlike_30 (by decide) ?_
      exact V_sub [2, 1, 0] rfl h
    · refine V_iconst (v := (nI 1)) X dX7_unlike_20 (by decide) ?_
      refine V_goto X 25 dX7_unlike_21 (by decide) ?_
      refine V_iadd X dX7_unlike_25 ?_
      refine V_istore_n (L' := [(1, .int (z1.1 + (nI 1))), (0, .ref (q 40)), (2, .int z1.2)]) X dX7_unlike_26 rfl (by decide) rfl ?_
      refine V_iinc (v := (z1.2 + (nI 1))) (L' := [(2, .int (z1.2 + (nI 1))), (1, .int (z1.1 + (nI 1))), (0, .ref (q 40))]) (j := 2) X dX7_unlike_27 rfl rfl (by decide) rfl ?_
      refine V_goto X 4 dX7_unlike_30 (by decide) ?_
      exact V_sub [2, 1, 0] rfl h
def rm_X7_mostFrequent : Room := { frames := 0, cells := 0, slots := 0, locals := 0 }
def f_X7_mostFrequent (F : Nat) (M : Mm) : Option (Int32) :=
  lpf (fun z1 : Int32 × Int32 => if (nI 16) ≤ z1.2 then (some (.inr z1.1)) else (if inb z1.2 16 = true then if inb z1.1 16 = true then if (M 48 (Int32.toNatClampNeg z1.2)) ≤ (M 48 (Int32.toNatClampNeg z1.1)) then (some (.inl (z1.1, (z1.2 + (nI 1))))) else (some (.inl (z1.2, (z1.2 + (nI 1))))) else none else none)) F ((nI 0), (nI 1))
set_option maxRecDepth 100000 in
set_option maxHeartbeats 4000000 in
theorem k_X7_mostFrequent (l : Launch) (D : va_G) (cy : Nat → ClassId) (q : Nat → Nat) (F : Nat) (M : Mm) (rv : Int32) (h0 : f_X7_mostFrequent F M = some rv) : KI l yX7_mostFrequent (Cond.code yX7_mostFrequent cX7_mostFrequent 3 (Option.some FieldType.int) :: gw) rm_X7_mostFrequent D cy q [.ref (q 40)] M rv M := by
  refine KI.mk (L0 := [(0, .ref (q 40))]) (by decide +kernel) rfl (Nat.le_of_ble_eq_true rfl) rfl rfl rfl ?_
  intro p e s m below meth c X0 hr hlk
  have X := Fx.gw (own := RX7) X0
  clear X0
  have h : Ok (f_X7_mostFrequent F M) (fun r => r = rv) := Ok.of h0 rfl
  clear h0
  delta f_X7_mostFrequent at h
  refine V_iconst (v := (nI 0)) X dX7_mostFrequent_0 (by decide) ?_
  refine V_istore_n (L' := [(1, .int (nI 0)), (0, .ref (q 40))]) X dX7_mostFrequent_1 rfl (by decide) rfl ?_
  refine V_iconst (v := (nI 1)) X dX7_mostFrequent_2 (by decide) ?_
  refine V_istore_n (L' := [(2, .int (nI 1)), (1, .int (nI 0)), (0, .ref (q 40))]) X dX7_mostFrequent_3 rfl (by decide) rfl ?_
  refine V_sub (L' := [(0, .ref (q 40)), (1, .int (nI 0)), (2, .int (nI 1))]) [2, 1, 0] rfl ?_
  refine V_loop X h (fun z1 => M) (fun z1 => [(0, .ref (q 40)), (1, .int z1.1), (2, .int z1.2)]) rfl rfl (fun z1 h => ?_)
  refine V_iload_n X dX7_mostFrequent_4 2 rfl rfl ?_
  refine V_bipush (v := (nI 16)) X dX7_mostFrequent_5 (by decide) ?_
  refine B_icmp_ge X 37 dX7_mostFrequent_7 (by decide) h (fun h => ?_) (fun h => ?_)
  · refine V_iload_n X dX7_mostFrequent_37 1 rfl rfl ?_
    have h : z1.1 = rv := h
    exact R_i X hr hlk h rfl dX7_mostFrequent_38
  · refine V_aload_n X dX7_mostFrequent_10 0 rfl rfl ?_
    refine G_7_13 X inX7 wFL_X7_32 dX7_mostFrequent_11 ?_
    refine V_iload_n X dX7_mostFrequent_14 2 rfl rfl ?_
    refine A_c48_ld X h dX7_mostFrequent_15 (fun hb2 h => ?_)
    refine V_aload_n X dX7_mostFrequent_16 0 rfl rfl ?_
    refine G_7_13 X inX7 wFL_X7_32 dX7_mostFrequent_17 ?_
    refine V_iload_n X dX7_mostFrequent_20 1 rfl rfl ?_
    refine A_c48_ld X h dX7_mostFrequent_21 (fun hb3 h => ?_)
    refine B_icmp_le X 29 dX7_mostFrequent_22 (by decide) h (fun h => ?_) (fun h => ?_)
    · refine V_iload_n X dX7_mostFrequent_29 1 rfl rfl ?_
      refine V_istore_n (L' := [(1, .int z1.1), (0, .ref (q 40)), (2, .int z1.2)]) X dX7_mostFrequent_30 rfl (by decide) rfl ?_
      refine V_iinc (v := (z1.2 + (nI 1))) (L' := [(2, .int (z1.2 + (nI 1))), (1, .int z1.1), (0, .ref (q 40))]) (j := 2) X dX7_mostFrequent_31 rfl rfl (by decide) rfl ?_
      refine V_goto X 4 dX7_mostFrequent_34 (by decide) ?_
      exact V_sub [2, 1, 0] rfl h
    · refine V_iload_n X dX7_mostFrequent_25 2 rfl rfl ?_
      refine V_goto X 30 dX7_mostFrequent_26 (by decide) ?_
      refine V_istore_n (L' := [(1, .int z1.2), (0, .ref (q 40)), (2, .int z1.2)]) X dX7_mostFrequent_30 rfl (by decide) rfl ?_
      refine V_iinc (v := (z1.2 + (nI 1))) (L' := [(2, .int (z1.2 + (nI 1))), (1, .int z1.2), (0, .ref (q 40))]) (j := 2) X dX7_mostFrequent_31 rfl rfl (by decide) rfl ?_
      refine V_goto X 4 dX7_mostFrequent_34 (by decide) ?_
      exact V_sub [2, 1, 0] rfl h
def rm_X7_sum : Room := { frames := 0, cells := 0, slots := 0, locals := 0 }
def f_X7_sum (F : Nat) (a1 : Int32) (a2 : Int32) (M : Mm) : Option (Int32) :=
  lpf (fun z1 : Int32 × Int32 => if a2 ≤ z1.2 then (some (.inr z1.1)) else (if inb ((nI 1) + z1.2) 61 = true then some (.inl ((z1.1 + (M 41 (Int32.toNatClampNeg ((nI 1) + z1.2)))), (z1.2 + (nI 1)))) else none)) F ((nI 0), a1)
set_option maxRecDepth 100000 in
set_option maxHeartbeats 4000000 in
theorem k_X7_sum (l : Launch) (D : va_G) (cy : Nat → ClassId) (q : Nat → Nat) (F : Nat) (a1 : Int32) (a2 : Int32) (M : Mm) (rv : Int32) (h0 : f_X7_sum F a1 a2 M = some rv) : KI l yX7_sum (Cond.code yX7_sum cX7_sum 5 (Option.some FieldType.int) :: gw) rm_X7_sum D cy q [.ref (q 40), .int a1, .int a2] M rv M := by
  refine KI.mk (L0 := [(0, .ref (q 40)), (1, .int a1), (2, .int a2)]) (by decide +kernel) rfl (Nat.le_of_ble_eq_true rfl) rfl rfl rfl ?_
  intro p e s m below meth c X0 hr hlk
  have X := Fx.gw (own := RX7) X0
  clear X0
  have h : Ok (f_X7_sum F a1 a2 M) (fun r => r = rv) := Ok.of h0 rfl
  clear h0
  delta f_X7_sum at h
  refine V_iconst (v := (nI 0)) X dX7_sum_0 (by decide) ?_
  refine V_istore_n (L' := [(3, .int (nI 0)), (0, .ref (q 40)), (1, .int a1), (2, .int a2)]) X dX7_sum_1 rfl (by decide) rfl ?_
  refine V_iload_n X dX7_sum_2 2 rfl rfl ?_
  refine V_istore (L' := [(4, .int a1), (3, .int (nI 0)), (0, .ref (q 40)), (1, .int a1), (2, .int a2)]) X dX7_sum_3 (by decide) rfl ?_
  refine V_sub (L' := [(0, .ref (q 40)), (2, .int a2), (3, .int (nI 0)), (4, .int a1)]) [2, 4, 1, 0] rfl ?_
  refine V_loop X h (fun z1 => M) (fun z1 => [(0, .ref (q 40)), (2, .int a2), (3, .int z1.1), (4, .int z1.2)]) rfl rfl (fun z1 h => ?_)
  refine V_iload X dX7_sum_5 3 rfl ?_
  refine V_iload_n X dX7_sum_7 1 rfl rfl ?_
  refine B_icmp_ge X 29 dX7_sum_8 (by decide) h (fun h => ?_) (fun h => ?_)
  · refine V_iload_n X dX7_sum_29 2 rfl rfl ?_
    have h : z1.1 = rv := h
    exact R_i X hr hlk h rfl dX7_sum_30
  · refine V_iload_n X dX7_sum_11 2 rfl rfl ?_
    refine V_aload_n X dX7_sum_12 0 rfl rfl ?_
    refine G_7_0 X inX7 wFL_X7_7 dX7_sum_13 ?_
    refine V_iconst (v := (nI 1)) X dX7_sum_16 (by decide) ?_
    refine V_iload X dX7_sum_17 3 rfl ?_
    refine V_iadd X dX7_sum_19 ?_
    refine A_c41_ld X h dX7_sum_20 (fun hb2 h => ?_)
    refine V_iadd X dX7_sum_21 ?_
    refine V_istore_n (L' := [(3, .int (z1.1 + (M 41 (Int32.toNatClampNeg ((nI 1) + z1.2))))), (0, .ref (q 40)), (2, .int a2), (4, .int z1.2)]) X dX7_sum_22 rfl (by decide) rfl ?_
    refine V_iinc (v := (z1.2 + (nI 1))) (L' := [(4, .int (z1.2 + (nI 1))), (3, .int (z1.1 + (M 41 (Int32.toNatClampNeg ((nI 1) + z1.2))))), (0, .ref (q 40)), (2, .int a2)]) (j := 3) X dX7_sum_23 rfl rfl (by decide) rfl ?_
    refine V_goto X 5 dX7_sum_26 (by decide) ?_
    exact V_sub [2, 3, 1, 0] rfl h
def rm_X7_wrong : Room := { frames := 0, cells := 0, slots := 0, locals := 0 }
def f_X7_wrong (F : Nat) (a1 : Int32) (a2 : Int32) (M : Mm) : Option (Int32) :=
  lpf (fun z1 : Int32 × Int32 => if a2 ≤ z1.2 then (some (.inr z1.1)) else (lpf (fun z2 : Int32 × Int32 => if a2 ≤ z2.2 then (some (.inr (.inl (z2.1, (z1.2 + (nI 1)))))) else (if inb ((nI 1) + z1.2) 61 = true then if inb ((nI 1) + z2.2) 61 = true then if (M 41 (Int32.toNatClampNeg ((nI 1) + z1.2))) ≤ (M 41 (Int32.toNatClampNeg ((nI 1) + z2.2))) then (some (.inl ((z2.1 + (nI 0)), (z2.2 + (nI 1))))) else (some (.inl ((z2.1 + (nI 1)), (z2.2 + (nI 1))))) else none else none)) F (z1.1, (z1.2 + (nI 1))))) F ((nI 0), a1)
set_option maxRecDepth 100000 in
set_option maxHeartbeats 4000000 in
theorem k_X7_wrong (l : Launch) (D : va_G) (cy : Nat → ClassId) (q : Nat → Nat) (F : Nat) (a1 : Int32) (a2 : Int32) (M : Mm) (rv : Int32) (h0 : f_X7_wrong F a1 a2 M = some rv) : KI l yX7_wrong (Cond.code yX7_wrong cX7_wrong 6 (Option.some FieldType.int) :: gw) rm_X7_wrong D cy q [.ref (q 40), .int a1, .int a2] M rv M := by
  refine KI.mk (L0 := [(0, .ref (q 40)), (1, .int a1), (2, .int a2)]) (by decide +kernel) rfl (Nat.le_of_ble_eq_true rfl) rfl rfl rfl ?_
  intro p e s m below meth c X0 hr hlk
  have X := Fx.gw (own := RX7) X0
  clear X0
  have h : Ok (f_X7_wrong F a1 a2 M) (fun r => r = rv) := Ok.of h0 rfl
  clear h0
  delta f_X7_wrong at h
  refine V_iconst (v := (nI 0)) X dX7_wrong_0 (by decide) ?_
  refine V_istore_n (L' := [(3, .int (nI 0)), (0, .ref (q 40)), (1, .int a1), (2, .int a2)]) X dX7_wrong_1 rfl (by decide) rfl ?_
  refine V_iload_n X dX7_wrong_2 2 rfl rfl ?_
  refine V_istore (L' := [(4, .int a1), (3, .int (nI 0)), (0, .ref (q 40)), (1, .int a1), (2, .int a2)]) X dX7_wrong_3 (by decide) rfl ?_
  refine V_sub (L' := [(0, .ref (q 40)), (2, .int a2), (3, .int (nI 0)), (4, .int a1)]) [2, 4, 1, 0] rfl ?_
  refine V_loop X h (fun z1 => M) (fun z1 => [(0, .ref (q 40)), (2, .int a2), (3, .int z1.1), (4, .int z1.2)]) rfl rfl (fun z1 h => ?_)
  refine V_iload X dX7_wrong_5 3 rfl ?_
  refine V_iload_n X dX7_wrong_7 1 rfl rfl ?_
  refine B_icmp_ge X 64 dX7_wrong_8 (by decide) h (fun h => ?_) (fun h => ?_)
  · refine V_iload_n X dX7_wrong_64 2 rfl rfl ?_
    have h : z1.1 = rv := h
    exact R_i X hr hlk h rfl dX7_wrong_65
  · refine V_iload X dX7_wrong_11 3 rfl ?_
    refine V_iconst (v := (nI 1)) X dX7_wrong_13 (by decide) ?_
    refine V_iadd X dX7_wrong_14 ?_
    refine V_istore (L' := [(5, .int (z1.2 + (nI 1))), (0, .ref (q 40)), (2, .int a2), (3, .int z1.1), (4, .int z1.2)]) X dX7_wrong_15 (by decide) rfl ?_
    refine V_sub (L' := [(0, .ref (q 40)), (2, .int a2), (3, .int z1.1), (4, .int z1.2), (5, .int (z1.2 + (nI 1)))]) [1, 2, 3, 4, 0] rfl ?_
    refine V_loop X h (fun z2 => M) (fun z2 => [(0, .ref (q 40)), (2, .int a2), (3, .int z2.1), (4, .int z1.2), (5, .int z2.2)]) rfl rfl (fun z2 h => ?_)
    refine V_iload X dX7_wrong_17 4 rfl ?_
    refine V_iload_n X dX7_wrong_19 1 rfl rfl ?_
    refine B_icmp_ge X 58 dX7_wrong_20 (by decide) h (fun h => ?_) (fun h => ?_)
    · refine V_iinc (v := (z1.2 + (nI 1))) (L' := [(4, .int (z1.2 + (nI 1))), (0, .ref (q 40)), (2, .int a2), (3, .int z2.1), (5, .int z2.2)]) (j := 3) X dX7_wrong_58 rfl rfl (by decide) rfl ?_
      refine V_goto X 5 dX7_wrong_61 (by decide) ?_
      exact V_sub [1, 2, 3, 0] rfl h
    · refine V_iload_n X dX7_wrong_23 2 rfl rfl ?_
      refine V_aload_n X dX7_wrong_24 0 rfl rfl ?_
      refine G_7_0 X inX7 wFL_X7_7 dX7_wrong_25 ?_
      refine V_iconst (v := (nI 1)) X dX7_wrong_28 (by decide) ?_
      refine V_iload X dX7_wrong_29 3 rfl ?_
      refine V_iadd X dX7_wrong_31 ?_
      refine A_c41_ld X h dX7_wrong_32 (fun hb3 h => ?_)
      refine V_aload_n X dX7_wrong_33 0 rfl rfl ?_
      refine G_7_0 X inX7 wFL_X7_7 dX7_wrong_34 ?_
      refine V_iconst (v := (nI 1)) X dX7_wrong_37 (by decide) ?_
      refine V_iload X dX7_wrong_38 4 rfl ?_
      refine V_iadd X dX7_wrong_40 ?_
      refine A_c41_ld X h dX7_wrong_41 (fun hb4 h => ?_)
      refine B_icmp_le X 49 dX7_wrong_42 (by decide) h (fun h => ?_) (fun h => ?_)
      · refine V_iconst (v := (nI 0)) X dX7_wrong_49 (by decide) ?_
        refine V_iadd X dX7_wrong_50 ?_
        refine V_istore_n (L' := [(3, .int (z2.1 + (nI 0))), (0, .ref (q 40)), (2, .int a2), (4, .int z1.2), (5, .int z2.2)]) X dX7_wrong_51 rfl (by decide) rfl ?_
        refine V_iinc (v := (z2.2 + (nI 1))) (L' := [(5, .int (z2.2 + (nI 1))), (3, .int (z2.1 + (nI 0))), (0, .ref (q 40)), (2, .int a2), (4, .int z1.2)]) (j := 4) X dX7_wrong_52 rfl rfl (by decide) rfl ?_
        refine V_goto X 17 dX7_wrong_55 (by decide) ?_
        exact V_sub [2, 3, 1, 4, 0] rfl h
      · refine V_iconst (v := (nI 1)) X dX7_wrong_45 (by decide) ?_
        refine V_goto X 50 dX7_wrong_46 (by decide) ?_
        refine V_iadd X dX7_wrong_50 ?_
        refine V_istore_n (L' := [(3, .int (z2.1 + (nI 1))), (0, .ref (q 40)), (2, .int a2), (4, .int z1.2), (5, .int z2.2)]) X dX7_wrong_51 rfl (by decide) rfl ?_
        refine V_iinc (v := (z2.2 + (nI 1))) (L' := [(5, .int (z2.2 + (nI 1))), (3, .int (z2.1 + (nI 1))), (0, .ref (q 40)), (2, .int a2), (4, .int z1.2)]) (j := 4) X dX7_wrong_52 rfl rfl (by decide) rfl ?_
        refine V_goto X 17 dX7_wrong_55 (by decide) ?_
        exact V_sub [2, 3, 1, 4, 0] rfl h
def rm_X7_spanOf : Room := { frames := 1, cells := 0, slots := 0, locals := 25 }
def f_X7_spanOf (F : Nat) (a1 : Int32) (a2 : Int32) (a3 : Int32) (M : Mm) : Option (Int32 × Mm) :=
  (f_X7_isSpan a1 a2 M).bind fun r1 => if r1 = 0 then (some ((-1000001 : Int32), M)) else ((f_X7_in a3 (nI 0) (nI 5)).bind fun r3 => if r3 = 0 then (some ((-1000001 : Int32), M)) else ((f_X7_counts F a1 a2 M).bind fun r5 => (if a3 = nI 0 then ((f_X7_unlike F r5).bind fun r8 => some (r8, r5)) else (if a3 = nI 1 then (if a1 = a2 then (some ((-1000004 : Int32), r5)) else ((f_X7_mostFrequent F r5).bind fun r11 => some (r11, r5))) else (if a3 = nI 2 then (if a1 = a2 then (some ((-1000004 : Int32), r5)) else ((f_X7_mostFrequent F r5).bind fun r14 => if inb r14 16 = true then some ((r5 48 (Int32.toNatClampNeg r14)), r5) else none)) else (if a3 = nI 3 then ((f_X7_sum F a1 a2 r5).bind fun r18 => some (r18, r5)) else (if a3 = nI 4 then ((f_X7_wrong F a1 a2 r5).bind fun r21 => if r21 = 0 then (some ((nI 1), r5)) else (some ((nI 0), r5))) else ((f_X7_wrong F a1 a2 r5).bind fun r23 => some (r23, r5)))))))))
set_option maxRecDepth 100000 in
set_option maxHeartbeats 4000000 in
theorem k_X7_spanOf (l : Launch) (D : va_G) (cy : Nat → ClassId) (q : Nat → Nat) (F : Nat) (a1 : Int32) (a2 : Int32) (a3 : Int32) (M : Mm) (rv : Int32) (M' : Mm) (h0 : f_X7_spanOf F a1 a2 a3 M = some (rv, M')) : KI l yX7_spanOf (Cond.code yX7_spanOf cX7_spanOf 4 (Option.some FieldType.int) :: gw) rm_X7_spanOf D cy q [.ref (q 40), .int a1, .int a2, .int a3] M rv M' := by
  refine KI.mk (L0 := [(0, .ref (q 40)), (1, .int a1), (2, .int a2), (3, .int a3)]) (by decide +kernel) rfl (Nat.le_of_ble_eq_true rfl) rfl rfl rfl ?_
  intro p e s m below meth c X0 hr hlk
  have X := Fx.gw (own := RX7) X0
  clear X0
  have h : Ok (f_X7_spanOf F a1 a2 a3 M) (fun r => r = (rv, M')) := Ok.of h0 rfl
  clear h0
  delta f_X7_spanOf at h
  refine V_aload_n X dX7_spanOf_0 0 rfl rfl ?_
  refine V_iload_n X dX7_spanOf_1 1 rfl rfl ?_
  refine V_iload_n X dX7_spanOf_2 2 rfl rfl ?_
  obtain ⟨r1, e2, h⟩ := (Ok.bind h).ex
  refine C_Vi (As := [.int a1, .int a2]) (M' := M) (k0 := 40) X rfl rfl (cwV 2 X.1.2.2.2.2 (gw_V wML_X7_69 wIM_X7_isSpan wSE_X7_isSpan wIN_X7 (gw_c wCD_X7_isSpan)) rfl rfl rfl (by decide +kernel) ⟨Nat.le_of_ble_eq_true rfl, Nat.le_of_ble_eq_true rfl⟩) rfl rfl (Nat.le_of_ble_eq_true rfl) ⟨Nat.zero_le _, Nat.zero_le _⟩ (k_X7_isSpan l D cy q a1 a2 M r1 e2) dX7_spanOf_3 ?_
  refine B_if_eq X 18 dX7_spanOf_6 (by decide) h (fun h => ?_) (fun h => ?_)
  · refine V_ldc X wKI_X7_42 dX7_spanOf_18 ?_
    have h : ((-1000001 : Int32), M) = (rv, M') := h
    exact R_i X hr hlk (congrArg Prod.fst h) (congrArg Prod.snd h) dX7_spanOf_20
  · refine V_iload_n X dX7_spanOf_9 3 rfl rfl ?_
    refine V_iconst (v := (nI 0)) X dX7_spanOf_10 (by decide) ?_
    refine V_iconst (v := (nI 5)) X dX7_spanOf_11 (by decide) ?_
    obtain ⟨r3, e4, h⟩ := (Ok.bind h).ex
    refine C_Si (As := [.int a3, .int (nI 0), .int (nI 5)]) (M' := M) X (va_cwS 3 X.1.2.2.2.2 (gw_S wML_X7_38 wST_X7_in wIN_X7 (gw_c wCD_X7_in)) rfl rfl rfl (by decide +kernel) ⟨Nat.le_of_ble_eq_true rfl, Nat.le_of_ble_eq_true rfl⟩) rfl rfl (Nat.le_of_ble_eq_true rfl) ⟨Nat.zero_le _, Nat.zero_le _⟩ (k_X7_in l D cy q a3 (nI 0) (nI 5) M r3 e4) dX7_spanOf_12 ?_
    refine B_if_ne X 21 dX7_spanOf_15 (by decide) h (fun h => ?_) (fun h => ?_)
    · refine V_aload_n X dX7_spanOf_21 0 rfl rfl ?_
      refine V_iload_n X dX7_spanOf_22 1 rfl rfl ?_
      refine V_iload_n X dX7_spanOf_23 2 rfl rfl ?_
      obtain ⟨r5, e6, h⟩ := (Ok.bind h).ex
      refine C_Vv (As := [.int a1, .int a2]) (M' := r5) (k0 := 40) X rfl rfl (cwV 2 X.1.2.2.2.2 (gw_V wML_X7_76 wIM_X7_counts wSE_X7_counts wIN_X7 (gw_c wCD_X7_counts)) rfl rfl rfl (by decide +kernel) ⟨Nat.le_of_ble_eq_true rfl, Nat.le_of_ble_eq_true rfl⟩) rfl rfl (Nat.le_of_ble_eq_true rfl) ⟨Nat.zero_le _, Nat.zero_le _⟩ (k_X7_counts l D cy q F a1 a2 M r5 e6) dX7_spanOf_24 ?_
      refine V_iload_n X dX7_spanOf_27 3 rfl rfl ?_
      by_cases g7 : a3 = nI 0
      · have h := h.pos g7
        refine V_tabIn X 64 dX7_spanOf_28 (by rw [g7] <;> decide) (by rw [g7] <;> decide) (by rw [g7] <;> rfl) (by decide) ?_
        refine V_aload_n X dX7_spanOf_64 0 rfl rfl ?_
        obtain ⟨r8, e9, h⟩ := (Ok.bind h).ex
        refine C_Vi (As := []) (M' := r5) (k0 := 40) X rfl rfl (cwV 0 X.1.2.2.2.2 (gw_V wML_X7_95 wIM_X7_unlike wSE_X7_unlike wIN_X7 (gw_c wCD_X7_unlike)) rfl rfl rfl (by decide +kernel) ⟨Nat.le_of_ble_eq_true rfl, Nat.le_of_ble_eq_true rfl⟩) rfl rfl (Nat.le_of_ble_eq_true rfl) ⟨Nat.zero_le _, Nat.zero_le _⟩ (k_X7_unlike l D cy q F r5 r8 e9) dX7_spanOf_65 ?_
        have h : (r8, r5) = (rv, M') := h
        exact R_i X hr hlk (congrArg Prod.fst h) (congrArg Prod.snd h) dX7_spanOf_68
      have h := h.neg g7
      by_cases g10 : a3 = nI 1
      · have h := h.pos g10
        refine V_tabIn X 69 dX7_spanOf_28 (by rw [g10] <;> decide) (by rw [g10] <;> decide) (by rw [g10] <;> rfl) (by decide) ?_
        refine V_iload_n X dX7_spanOf_69 1 rfl rfl ?_
        refine V_iload_n X dX7_spanOf_70 2 rfl rfl ?_
        refine B_icmp_ne X 79 dX7_spanOf_71 (by decide) h (fun h => ?_) (fun h => ?_)
        · refine V_aload_n X dX7_spanOf_79 0 rfl rfl ?_
          obtain ⟨r11, e12, h⟩ := (Ok.bind h).ex
          refine C_Vi (As := []) (M' := r5) (k0 := 40) X rfl rfl (cwV 0 X.1.2.2.2.2 (gw_V wML_X7_98 wIM_X7_mostFrequent wSE_X7_mostFrequent wIN_X7 (gw_c wCD_X7_mostFrequent)) rfl rfl rfl (by decide +kernel) ⟨Nat.le_of_ble_eq_true rfl, Nat.le_of_ble_eq_true rfl⟩) rfl rfl (Nat.le_of_ble_eq_true rfl) ⟨Nat.zero_le _, Nat.zero_le _⟩ (k_X7_mostFrequent l D cy q F r5 r11 e12) dX7_spanOf_80 ?_
          have h : (r11, r5) = (rv, M') := h
          exact R_i X hr hlk (congrArg Prod.fst h) (congrArg Prod.snd h) dX7_spanOf_83
        · refine V_ldc X wKI_X7_83 dX7_spanOf_74 ?_
          refine V_goto X 83 dX7_spanOf_76 (by decide) ?_
          have h : ((-1000004 : Int32), r5) = (rv, M') := h
          exact R_i X hr hlk (congrArg Prod.fst h) (congrArg Prod.snd h) dX7_spanOf_83
      have h := h.neg g10
      by_cases g13 : a3 = nI 2
      · have h := h.pos g13
        refine V_tabIn X 84 dX7_spanOf_28 (by rw [g13] <;> decide) (by rw [g13] <;> decide) (by rw [g13] <;> rfl) (by decide) ?_
        refine V_iload_n X dX7_spanOf_84 1 rfl rfl ?_
        refine V_iload_n X dX7_spanOf_85 2 rfl rfl ?_
        refine B_icmp_ne X 94 dX7_spanOf_86 (by decide) h (fun h => ?_) (fun h => ?_)
        · refine V_aload_n X dX7_spanOf_94 0 rfl rfl ?_
          refine G_7_13 X inX7 wFL_X7_32 dX7_spanOf_95 ?_
          refine V_aload_n X dX7_spanOf_98 0 rfl rfl ?_
          obtain ⟨r14, e15, h⟩ := (Ok.bind h).ex
          refine C_Vi (As := []) (M' := r5) (k0 := 40) X rfl rfl (cwV 0 X.1.2.2.2.2 (gw_V wML_X7_98 wIM_X7_mostFrequent wSE_X7_mostFrequent wIN_X7 (gw_c wCD_X7_mostFrequent)) rfl rfl rfl (by decide +kernel) ⟨Nat.le_of_ble_eq_true rfl, Nat.le_of_ble_eq_true rfl⟩) rfl rfl (Nat.le_of_ble_eq_true rfl) ⟨Nat.zero_le _, Nat.zero_le _⟩ (k_X7_mostFrequent l D cy q F r5 r14 e15) dX7_spanOf_99 ?_
          refine A_c48_ld X h dX7_spanOf_102 (fun hb16 h => ?_)
          have h : ((r5 48 (Int32.toNatClampNeg r14)), r5) = (rv, M') := h
          exact R_i X hr hlk (congrArg Prod.fst h) (congrArg Prod.snd h) dX7_spanOf_103
        · refine V_ldc X wKI_X7_83 dX7_spanOf_89 ?_
          refine V_goto X 103 dX7_spanOf_91 (by decide) ?_
          have h : ((-1000004 : Int32), r5) = (rv, M') := h
          exact R_i X hr hlk (congrArg Prod.fst h) (congrArg Prod.snd h) dX7_spanOf_103
      have h := h.neg g13
      by_cases g17 : a3 = nI 3
      · have h := h.pos g17
        refine V_tabIn X 104 dX7_spanOf_28 (by rw [g17] <;> decide) (by rw [g17] <;> decide) (by rw [g17] <;> rfl) (by decide) ?_
        refine V_aload_n X dX7_spanOf_104 0 rfl rfl ?_
        refine V_iload_n X dX7_spanOf_105 1 rfl rfl ?_
        refine V_iload_n X dX7_spanOf_106 2 rfl rfl ?_
        obtain ⟨r18, e19, h⟩ := (Ok.bind h).ex
        refine C_Vi (As := [.int a1, .int a2]) (M' := r5) (k0 := 40) X rfl rfl (cwV 2 X.1.2.2.2.2 (gw_V wML_X7_101 wIM_X7_sum wSE_X7_sum wIN_X7 (gw_c wCD_X7_sum)) rfl rfl rfl (by decide +kernel) ⟨Nat.le_of_ble_eq_true rfl, Nat.le_of_ble_eq_true rfl⟩) rfl rfl (Nat.le_of_ble_eq_true rfl) ⟨Nat.zero_le _, Nat.zero_le _⟩ (k_X7_sum l D cy q F a1 a2 r5 r18 e19) dX7_spanOf_107 ?_
        have h : (r18, r5) = (rv, M') := h
        exact R_i X hr hlk (congrArg Prod.fst h) (congrArg Prod.snd h) dX7_spanOf_110
      have h := h.neg g17
      by_cases g20 : a3 = nI 4
      · have h := h.pos g20
        refine V_tabIn X 111 dX7_spanOf_28 (by rw [g20] <;> decide) (by rw [g20] <;> decide) (by rw [g20] <;> rfl) (by decide) ?_
        refine V_aload_n X dX7_spanOf_111 0 rfl rfl ?_
        refine V_iload_n X dX7_spanOf_112 1 rfl rfl ?_
        refine V_iload_n X dX7_spanOf_113 2 rfl rfl ?_
        obtain ⟨r21, e22, h⟩ := (Ok.bind h).ex
        refine C_Vi (As := [.int a1, .int a2]) (M' := r5) (k0 := 40) X rfl rfl (cwV 2 X.1.2.2.2.2 (gw_V wML_X7_104 wIM_X7_wrong wSE_X7_wrong wIN_X7 (gw_c wCD_X7_wrong)) rfl rfl rfl (by decide +kernel) ⟨Nat.le_of_ble_eq_true rfl, Nat.le_of_ble_eq_true rfl⟩) rfl rfl (Nat.le_of_ble_eq_true rfl) ⟨Nat.zero_le _, Nat.zero_le _⟩ (k_X7_wrong l D cy q F a1 a2 r5 r21 e22) dX7_spanOf_114 ?_
        refine B_if_ne X 124 dX7_spanOf_117 (by decide) h (fun h => ?_) (fun h => ?_)
        · refine V_iconst (v := (nI 0)) X dX7_spanOf_124 (by decide) ?_
          have h : ((nI 0), r5) = (rv, M') := h
          exact R_i X hr hlk (congrArg Prod.fst h) (congrArg Prod.snd h) dX7_spanOf_125
        · refine V_iconst (v := (nI 1)) X dX7_spanOf_120 (by decide) ?_
          refine V_goto X 125 dX7_spanOf_121 (by decide) ?_
          have h : ((nI 1), r5) = (rv, M') := h
          exact R_i X hr hlk (congrArg Prod.fst h) (congrArg Prod.snd h) dX7_spanOf_125
      have h := h.neg g20
      have n25 := lv_neT (a := 0) g7 rfl
      have n26 := lv_neT (a := 1) g10 rfl
      have n27 := lv_neT (a := 2) g13 rfl
      have n28 := lv_neT (a := 3) g17 rfl
      have n29 := lv_neT (a := 4) g20 rfl
      refine V_tabOut X 126 dX7_spanOf_28 (by omega) (by decide) ?_
      refine V_aload_n X dX7_spanOf_126 0 rfl rfl ?_
      refine V_iload_n X dX7_spanOf_127 1 rfl rfl ?_
      refine V_iload_n X dX7_spanOf_128 2 rfl rfl ?_
      obtain ⟨r23, e24, h⟩ := (Ok.bind h).ex
      refine C_Vi (As := [.int a1, .int a2]) (M' := r5) (k0 := 40) X rfl rfl (cwV 2 X.1.2.2.2.2 (gw_V wML_X7_104 wIM_X7_wrong wSE_X7_wrong wIN_X7 (gw_c wCD_X7_wrong)) rfl rfl rfl (by decide +kernel) ⟨Nat.le_of_ble_eq_true rfl, Nat.le_of_ble_eq_true rfl⟩) rfl rfl (Nat.le_of_ble_eq_true rfl) ⟨Nat.zero_le _, Nat.zero_le _⟩ (k_X7_wrong l D cy q F a1 a2 r5 r23 e24) dX7_spanOf_129 ?_
      have h : (r23, r5) = (rv, M') := h
      exact R_i X hr hlk (congrArg Prod.fst h) (congrArg Prod.snd h) dX7_spanOf_132
    · refine V_ldc X wKI_X7_42 dX7_spanOf_18 ?_
      have h : ((-1000001 : Int32), M) = (rv, M') := h
      exact R_i X hr hlk (congrArg Prod.fst h) (congrArg Prod.snd h) dX7_spanOf_20
def rm_X7_product : Room := { frames := 1, cells := 0, slots := 0, locals := 22 }
def f_X7_product (F : Nat) (a1 : Int32) (a2 : Int32) (M : Mm) : Option (Int64) :=
  (f_X7_isSpan a1 a2 M).bind fun r1 => if r1 = 0 then (some (-1000001 : Int64)) else (lpf (fun z3 : Int64 × Int32 => if a2 ≤ z3.2 then (some (.inr z3.1)) else (if inb ((nI 1) + z3.2) 61 = true then if ¬ (Int32.toInt64 ((M 41 (Int32.toNatClampNeg ((nI 1) + z3.2))) + (nI 1))) = 0 then if (lg_cmp z3.1 ((9223372036854775807 : Int64) / (Int32.toInt64 ((M 41 (Int32.toNatClampNeg ((nI 1) + z3.2))) + (nI 1))))) ≤ 0 then (some (.inl ((z3.1 * (Int32.toInt64 ((M 41 (Int32.toNatClampNeg ((nI 1) + z3.2))) + (nI 1)))), (z3.2 + (nI 1))))) else (some (.inr (-1000003 : Int64))) else none else none)) F ((1 : Int64), a1))
set_option maxRecDepth 100000 in
set_option maxHeartbeats 4000000 in
theorem k_X7_product (l : Launch) (D : va_G) (cy : Nat → ClassId) (q : Nat → Nat) (F : Nat) (a1 : Int32) (a2 : Int32) (M : Mm) (rv : Int64) (h0 : f_X7_product F a1 a2 M = some rv) : KL l yX7_product (Cond.code yX7_product cX7_product 7 (Option.some FieldType.long) :: gw) rm_X7_product D cy q [.ref (q 40), .int a1, .int a2] M rv M := by
  refine KL.mk (L0 := [(0, .ref (q 40)), (1, .int a1), (2, .int a2)]) (by decide +kernel) rfl (Nat.le_of_ble_eq_true rfl) rfl rfl rfl ?_
  intro p e s m below meth c X0 hr hlk
  have X := Fx.gw (own := RX7) X0
  clear X0
  have h : Ok (f_X7_product F a1 a2 M) (fun r => r = rv) := Ok.of h0 rfl
  clear h0
  delta f_X7_product at h
  refine V_aload_n X dX7_product_0 0 rfl rfl ?_
  refine V_iload_n X dX7_product_1 1 rfl rfl ?_
  refine V_iload_n X dX7_product_2 2 rfl rfl ?_
  obtain ⟨r1, e2, h⟩ := (Ok.bind h).ex
  refine C_Vi (As := [.int a1, .int a2]) (M' := M) (k0 := 40) X rfl rfl (cwV 2 X.1.2.2.2.2 (gw_V wML_X7_69 wIM_X7_isSpan wSE_X7_isSpan wIN_X7 (gw_c wCD_X7_isSpan)) rfl rfl rfl (by decide +kernel) ⟨Nat.le_of_ble_eq_true rfl, Nat.le_of_ble_eq_true rfl⟩) rfl rfl (Nat.le_of_ble_eq_true rfl) ⟨Nat.zero_le _, Nat.zero_le _⟩ (k_X7_isSpan l D cy q a1 a2 M r1 e2) dX7_product_3 ?_
  refine B_if_ne X 13 dX7_product_6 (by decide) h (fun h => ?_) (fun h => ?_)
  · refine V_lconst (v := 1) X dX7_product_13 (by decide) ?_
    refine V_lstore_n (L' := [(3, .long (1 : Int64)), (0, .ref (q 40)), (1, .int a1), (2, .int a2)]) X dX7_product_14 rfl (by decide) rfl ?_
    refine V_iload_n X dX7_product_15 2 rfl rfl ?_
    refine V_istore (L' := [(5, .int a1), (3, .long (1 : Int64)), (0, .ref (q 40)), (1, .int a1), (2, .int a2)]) X dX7_product_16 (by decide) rfl ?_
    refine V_sub (L' := [(0, .ref (q 40)), (2, .int a2), (3, .long (1 : Int64)), (5, .int a1)]) [2, 4, 1, 0] rfl ?_
    refine V_loop X h (fun z3 => M) (fun z3 => [(0, .ref (q 40)), (2, .int a2), (3, .long z3.1), (5, .int z3.2)]) rfl rfl (fun z3 h => ?_)
    refine V_iload X dX7_product_18 3 rfl ?_
    refine V_iload_n X dX7_product_20 1 rfl rfl ?_
    refine B_icmp_ge X 65 dX7_product_21 (by decide) h (fun h => ?_) (fun h => ?_)
    · refine V_lload_n X dX7_product_65 2 rfl rfl ?_
      have h : z3.1 = rv := h
      exact R_l X hr hlk h rfl dX7_product_66
    · refine V_aload_n X dX7_product_24 0 rfl rfl ?_
      refine G_7_0 X inX7 wFL_X7_7 dX7_product_25 ?_
      refine V_iconst (v := (nI 1)) X dX7_product_28 (by decide) ?_
      refine V_iload X dX7_product_29 3 rfl ?_
      refine V_iadd X dX7_product_31 ?_
      refine A_c41_ld X h dX7_product_32 (fun hb4 h => ?_)
      refine V_iconst (v := (nI 1)) X dX7_product_33 (by decide) ?_
      refine V_iadd X dX7_product_34 ?_
      refine V_istore (L' := [(6, .int ((M 41 (Int32.toNatClampNeg ((nI 1) + z3.2))) + (nI 1))), (0, .ref (q 40)), (2, .int a2), (3, .long z3.1), (5, .int z3.2)]) X dX7_product_35 (by decide) rfl ?_
      refine V_lload_n X dX7_product_37 3 rfl rfl ?_
      refine V_ldc2 X wKL_X7_107 dX7_product_38 ?_
      refine V_iload X dX7_product_41 0 rfl ?_
      refine V_i2l X dX7_product_43 ?_
      obtain ⟨hz5, h⟩ := h.test
      refine V_ldiv X dX7_product_44 hz5 ?_
      refine V_lcmp X dX7_product_45 ?_
      refine B_if_le X 53 dX7_product_46 (by decide) h (fun h => ?_) (fun h => ?_)
      · refine V_lload_n X dX7_product_53 3 rfl rfl ?_
        refine V_iload X dX7_product_54 0 rfl ?_
        refine V_i2l X dX7_product_56 ?_
        refine V_lmul X dX7_product_57 ?_
        refine V_lstore_n (L' := [(3, .long (z3.1 * (Int32.toInt64 ((M 41 (Int32.toNatClampNeg ((nI 1) + z3.2))) + (nI 1))))), (6, .int ((M 41 (Int32.toNatClampNeg ((nI 1) + z3.2))) + (nI 1))), (0, .ref (q 40)), (2, .int a2), (5, .int z3.2)]) X dX7_product_58 rfl (by decide) rfl ?_
        refine V_iinc (v := (z3.2 + (nI 1))) (L' := [(5, .int (z3.2 + (nI 1))), (3, .long (z3.1 * (Int32.toInt64 ((M 41 (Int32.toNatClampNeg ((nI 1) + z3.2))) + (nI 1))))), (6, .int ((M 41 (Int32.toNatClampNeg ((nI 1) + z3.2))) + (nI 1))), (0, .ref (q 40)), (2, .int a2)]) (j := 4) X dX7_product_59 rfl rfl (by decide) rfl ?_
        refine V_goto X 18 dX7_product_62 (by decide) ?_
        exact V_sub [3, 4, 1, 0] rfl h
      · refine V_ldc2 X wKL_X7_109 dX7_product_49 ?_
        have h : (-1000003 : Int64) = rv := h
        exact R_l X hr hlk h rfl dX7_product_52
  · refine V_ldc2 X wKL_X7_91 dX7_product_9 ?_
    have h : (-1000001 : Int64) = rv := h
    exact R_l X hr hlk h rfl dX7_product_12
def rm_X7_common : Room := { frames := 1, cells := 0, slots := 0, locals := 23 }
def f_X7_common (F : Nat) (a1 : Int32) (a2 : Int32) (a3 : Int32) (a4 : Int32) (a5 : Int32) (M : Mm) : Option (Int32 × Mm) :=
  (f_X7_isSpan a1 a2 M).bind fun r1 => if r1 = 0 then (some ((-1000001 : Int32), M)) else ((f_X7_isSpan a3 a4 M).bind fun r3 => if r3 = 0 then (some ((-1000001 : Int32), M)) else ((f_X7_in a5 (nI 0) (nI 3)).bind fun r5 => if r5 = 0 then (some ((-1000001 : Int32), M)) else ((f_X7_counts F a1 a2 M).bind fun r7 => lpf (fun z9 : Int32 × Mm => if (nI 16) ≤ z9.1 then ((f_X7_counts F a3 a4 z9.2).bind fun r10 => lpf (fun z12 : Int32 × Int32 × Int32 × Int32 × Int32 => if z12.2.2.2.2 < 0 then (if a5 = 0 then (some (.inr (.inr (z12.1, r10)))) else (if a5 = (nI 1) then (some (.inr (.inr (z12.2.1, r10)))) else (if a5 = (nI 2) then (some (.inr (.inr (z12.2.2.1, r10)))) else (if z12.2.2.2.1 = 0 then (some (.inr (.inr ((nI 0), r10)))) else (some (.inr (.inr ((nI 1), r10)))))))) else (if inb z12.2.2.2.2 16 = true then if inb z12.2.2.2.2 16 = true then jn (if (r10 49 (Int32.toNatClampNeg z12.2.2.2.2)) ≤ (r10 48 (Int32.toNatClampNeg z12.2.2.2.2)) then (if inb z12.2.2.2.2 16 = true then some (.inl (r10 49 (Int32.toNatClampNeg z12.2.2.2.2))) else none) else (if inb z12.2.2.2.2 16 = true then some (.inl (r10 48 (Int32.toNatClampNeg z12.2.2.2.2))) else none)) (fun z15 : Int32 => jn (if z15 ≤ 0 then (some (.inl (nI 0))) else (some (.inl (nI 1)))) (fun z18 : Int32 => jn (if z15 ≤ 0 then (some (.inl z12.2.2.1)) else (some (.inl z12.2.2.2.2))) (fun z19 : Int32 => if z12.2.2.2.1 = 0 then (some (.inl ((z12.1 + z18), (z12.2.1 + z15), z19, (nI 0), (z12.2.2.2.2 + (-1 : Int32))))) else (if inb z12.2.2.2.2 16 = true then if inb z12.2.2.2.2 16 = true then if (r10 48 (Int32.toNatClampNeg z12.2.2.2.2)) = (r10 49 (Int32.toNatClampNeg z12.2.2.2.2)) then (some (.inl ((z12.1 + z18), (z12.2.1 + z15), z19, (nI 1), (z12.2.2.2.2 + (-1 : Int32))))) else (some (.inl ((z12.1 + z18), (z12.2.1 + z15), z19, (nI 0), (z12.2.2.2.2 + (-1 : Int32))))) else none else none)))) else none else none)) F ((nI 0), (nI 0), (-1000004 : Int32), (nI 1), (nI 15))) else (if inb z9.1 16 = true then if inb z9.1 16 = true then some (.inl ((z9.1 + (nI 1)), (up z9.2 49 (Int32.toNatClampNeg z9.1) (z9.2 48 (Int32.toNatClampNeg z9.1))))) else none else none)) F ((nI 0), r7))))
set_option maxRecDepth 100000 in
set_option maxHeartbeats 4000000 in
theorem k_X7_common (l : Launch) (D : va_G) (cy : Nat → ClassId) (q : Nat → Nat) (F : Nat) (a1 : Int32) (a2 : Int32) (a3 : Int32) (a4 : Int32) (a5 : Int32) (M : Mm) (rv : Int32) (M' : Mm) (h0 : f_X7_common F a1 a2 a3 a4 a5 M = some (rv, M')) : KI l yX7_common (Cond.code yX7_common cX7_common 12 (Option.some FieldType.int) :: gw) rm_X7_common D cy q [.ref (q 40), .int a1, .int a2, .int a3, .int a4, .int a5] M rv M' := by
  refine KI.mk (L0 := [(0, .ref (q 40)), (1, .int a1), (2, .int a2), (3, .int a3), (4, .int a4), (5, .int a5)]) (by decide +kernel) rfl (Nat.le_of_ble_eq_true rfl) rfl rfl rfl ?_
  intro p e s m below meth c X0 hr hlk
  have X := Fx.gw (own := RX7) X0
  clear X0
  have h : Ok (f_X7_common F a1 a2 a3 a4 a5 M) (fun r => r = (rv, M')) := Ok.of h0 rfl
  clear h0
  delta f_X7_common at h
  refine V_aload_n X dX7_common_0 0 rfl rfl ?_
  refine V_iload_n X dX7_common_1 1 rfl rfl ?_
  refine V_iload_n X dX7_common_2 2 rfl rfl ?_
  obtain ⟨r1, e2, h⟩ := (Ok.bind h).ex
  refine C_Vi (As := [.int a1, .int a2]) (M' := M) (k0 := 40) X rfl rfl (cwV 2 X.1.2.2.2.2 (gw_V wML_X7_69 wIM_X7_isSpan wSE_X7_isSpan wIN_X7 (gw_c wCD_X7_isSpan)) rfl rfl rfl (by decide +kernel) ⟨Nat.le_of_ble_eq_true rfl, Nat.le_of_ble_eq_true rfl⟩) rfl rfl (Nat.le_of_ble_eq_true rfl) ⟨Nat.zero_le _, Nat.zero_le _⟩ (k_X7_isSpan l D cy q a1 a2 M r1 e2) dX7_common_3 ?_
  refine B_if_eq X 29 dX7_common_6 (by decide) h (fun h => ?_) (fun h => ?_)
  · refine V_ldc X wKI_X7_42 dX7_common_29 ?_
    have h : ((-1000001 : Int32), M) = (rv, M') := h
    exact R_i X hr hlk (congrArg Prod.fst h) (congrArg Prod.snd h) dX7_common_31
  · refine V_aload_n X dX7_common_9 0 rfl rfl ?_
    refine V_iload_n X dX7_common_10 3 rfl rfl ?_
    refine V_iload X dX7_common_11 4 rfl ?_
    obtain ⟨r3, e4, h⟩ := (Ok.bind h).ex
    refine C_Vi (As := [.int a3, .int a4]) (M' := M) (k0 := 40) X rfl rfl (cwV 2 X.1.2.2.2.2 (gw_V wML_X7_69 wIM_X7_isSpan wSE_X7_isSpan wIN_X7 (gw_c wCD_X7_isSpan)) rfl rfl rfl (by decide +kernel) ⟨Nat.le_of_ble_eq_true rfl, Nat.le_of_ble_eq_true rfl⟩) rfl rfl (Nat.le_of_ble_eq_true rfl) ⟨Nat.zero_le _, Nat.zero_le _⟩ (k_X7_isSpan l D cy q a3 a4 M r3 e4) dX7_common_13 ?_
    refine B_if_eq X 29 dX7_common_16 (by decide) h (fun h => ?_) (fun h => ?_)
    · refine V_ldc X wKI_X7_42 dX7_common_29 ?_
      have h : ((-1000001 : Int32), M) = (rv, M') := h
      exact R_i X hr hlk (congrArg Prod.fst h) (congrArg Prod.snd h) dX7_common_31
    · refine V_iload X dX7_common_19 5 rfl ?_
      refine V_iconst (v := (nI 0)) X dX7_common_21 (by decide) ?_
      refine V_iconst (v := (nI 3)) X dX7_common_22 (by decide) ?_
      obtain ⟨r5, e6, h⟩ := (Ok.bind h).ex
      refine C_Si (As := [.int a5, .int (nI 0), .int (nI 3)]) (M' := M) X (va_cwS 3 X.1.2.2.2.2 (gw_S wML_X7_38 wST_X7_in wIN_X7 (gw_c wCD_X7_in)) rfl rfl rfl (by decide +kernel) ⟨Nat.le_of_ble_eq_true rfl, Nat.le_of_ble_eq_true rfl⟩) rfl rfl (Nat.le_of_ble_eq_true rfl) ⟨Nat.zero_le _, Nat.zero_le _⟩ (k_X7_in l D cy q a5 (nI 0) (nI 3) M r5 e6) dX7_common_23 ?_
      refine B_if_ne X 32 dX7_common_26 (by decide) h (fun h => ?_) (fun h => ?_)
      · refine V_aload_n X dX7_common_32 0 rfl rfl ?_
        refine V_iload_n X dX7_common_33 1 rfl rfl ?_
        refine V_iload_n X dX7_common_34 2 rfl rfl ?_
        obtain ⟨r7, e8, h⟩ := (Ok.bind h).ex
        refine C_Vv (As := [.int a1, .int a2]) (M' := r7) (k0 := 40) X rfl rfl (cwV 2 X.1.2.2.2.2 (gw_V wML_X7_76 wIM_X7_counts wSE_X7_counts wIN_X7 (gw_c wCD_X7_counts)) rfl rfl rfl (by decide +kernel) ⟨Nat.le_of_ble_eq_true rfl, Nat.le_of_ble_eq_true rfl⟩) rfl rfl (Nat.le_of_ble_eq_true rfl) ⟨Nat.zero_le _, Nat.zero_le _⟩ (k_X7_counts l D cy q F a1 a2 M r7 e8) dX7_common_35 ?_
        refine V_iconst (v := (nI 0)) X dX7_common_38 (by decide) ?_
        refine V_istore (L' := [(6, .int (nI 0)), (0, .ref (q 40)), (1, .int a1), (2, .int a2), (3, .int a3), (4, .int a4), (5, .int a5)]) X dX7_common_39 (by decide) rfl ?_
        refine V_sub (L' := [(0, .ref (q 40)), (3, .int a3), (4, .int a4), (5, .int a5), (6, .int (nI 0))]) [1, 4, 5, 6, 0] rfl ?_
        refine V_loop X h (fun z9 => z9.2) (fun z9 => [(0, .ref (q 40)), (3, .int a3), (4, .int a4), (5, .int a5), (6, .int z9.1)]) rfl rfl (fun z9 h => ?_)
        refine V_iload X dX7_common_41 4 rfl ?_
        refine V_bipush (v := (nI 16)) X dX7_common_43 (by decide) ?_
        refine B_icmp_ge X 68 dX7_common_45 (by decide) h (fun h => ?_) (fun h => ?_)
        · refine V_aload_n X dX7_common_68 0 rfl rfl ?_
          refine V_iload_n X dX7_common_69 1 rfl rfl ?_
          refine V_iload X dX7_common_70 2 rfl ?_
          obtain ⟨r10, e11, h⟩ := (Ok.bind h).ex
          refine C_Vv (As := [.int a3, .int a4]) (M' := r10) (k0 := 40) X rfl rfl (cwV 2 X.1.2.2.2.2 (gw_V wML_X7_76 wIM_X7_counts wSE_X7_counts wIN_X7 (gw_c wCD_X7_counts)) rfl rfl rfl (by decide +kernel) ⟨Nat.le_of_ble_eq_true rfl, Nat.le_of_ble_eq_true rfl⟩) rfl rfl (Nat.le_of_ble_eq_true rfl) ⟨Nat.zero_le _, Nat.zero_le _⟩ (k_X7_counts l D cy q F a3 a4 z9.2 r10 e11) dX7_common_72 ?_
          refine V_iconst (v := (nI 0)) X dX7_common_75 (by decide) ?_
          refine V_istore (L' := [(6, .int (nI 0)), (0, .ref (q 40)), (3, .int a3), (4, .int a4), (5, .int a5)]) X dX7_common_76 (by decide) rfl ?_
          refine V_iconst (v := (nI 0)) X dX7_common_78 (by decide) ?_
          refine V_istore (L' := [(7, .int (nI 0)), (6, .int (nI 0)), (0, .ref (q 40)), (3, .int a3), (4, .int a4), (5, .int a5)]) X dX7_common_79 (by decide) rfl ?_
          refine V_ldc X wKI_X7_83 dX7_common_81 ?_
          refine V_istore (L' := [(8, .int (-1000004 : Int32)), (7, .int (nI 0)), (6, .int (nI 0)), (0, .ref (q 40)), (3, .int a3), (4, .int a4), (5, .int a5)]) X dX7_common_83 (by decide) rfl ?_
          refine V_iconst (v := (nI 1)) X dX7_common_85 (by decide) ?_
          refine V_istore (L' := [(9, .int (nI 1)), (8, .int (-1000004 : Int32)), (7, .int (nI 0)), (6, .int (nI 0)), (0, .ref (q 40)), (3, .int a3), (4, .int a4), (5, .int a5)]) X dX7_common_86 (by decide) rfl ?_
          refine V_bipush (v := (nI 15)) X dX7_common_88 (by decide) ?_
          refine V_istore (L' := [(10, .int (nI 15)), (9, .int (nI 1)), (8, .int (-1000004 : Int32)), (7, .int (nI 0)), (6, .int (nI 0)), (0, .ref (q 40)), (3, .int a3), (4, .int a4), (5, .int a5)]) X dX7_common_90 (by decide) rfl ?_
          refine V_sub (L' := [(0, .ref (q 40)), (5, .int a5), (6, .int (nI 0)), (7, .int (nI 0)), (8, .int (-1000004 : Int32)), (9, .int (nI 1)), (10, .int (nI 15))]) [5, 8, 4, 3, 2, 1, 0] rfl ?_
          refine V_loop X h (fun z12 => r10) (fun z12 => [(0, .ref (q 40)), (5, .int a5), (6, .int z12.1), (7, .int z12.2.1), (8, .int z12.2.2.1), (9, .int z12.2.2.2.1), (10, .int z12.2.2.2.2)]) rfl rfl (fun z12 h => ?_)
          refine V_iload X dX7_common_92 6 rfl ?_
          refine B_if_lt X 204 dX7_common_94 (by decide) h (fun h => ?_) (fun h => ?_)
          · refine V_iload X dX7_common_204 1 rfl ?_
            refine B_if_ne X 214 dX7_common_206 (by decide) h (fun h => ?_) (fun h => ?_)
            · refine V_iload X dX7_common_214 1 rfl ?_
              refine V_iconst (v := (nI 1)) X dX7_common_216 (by decide) ?_
              refine B_icmp_ne X 225 dX7_common_217 (by decide) h (fun h => ?_) (fun h => ?_)
              · refine V_iload X dX7_common_225 1 rfl ?_
                refine V_iconst (v := (nI 2)) X dX7_common_227 (by decide) ?_
                refine B_icmp_ne X 236 dX7_common_228 (by decide) h (fun h => ?_) (fun h => ?_)
                · refine V_iload X dX7_common_236 5 rfl ?_
                  refine B_if_eq X 245 dX7_common_238 (by decide) h (fun h => ?_) (fun h => ?_)
                  · refine V_iconst (v := (nI 0)) X dX7_common_245 (by decide) ?_
                    have h : ((nI 0), r10) = (rv, M') := h
                    exact R_i X hr hlk (congrArg Prod.fst h) (congrArg Prod.snd h) dX7_common_246
                  · refine V_iconst (v := (nI 1)) X dX7_common_241 (by decide) ?_
                    refine V_goto X 246 dX7_common_242 (by decide) ?_
                    have h : ((nI 1), r10) = (rv, M') := h
                    exact R_i X hr hlk (congrArg Prod.fst h) (congrArg Prod.snd h) dX7_common_246
                · refine V_iload X dX7_common_231 4 rfl ?_
                  refine V_goto X 246 dX7_common_233 (by decide) ?_
                  have h : (z12.2.2.1, r10) = (rv, M') := h
                  exact R_i X hr hlk (congrArg Prod.fst h) (congrArg Prod.snd h) dX7_common_246
              · refine V_iload X dX7_common_220 3 rfl ?_
                refine V_goto X 246 dX7_common_222 (by decide) ?_
                have h : (z12.2.1, r10) = (rv, M') := h
                exact R_i X hr hlk (congrArg Prod.fst h) (congrArg Prod.snd h) dX7_common_246
            · refine V_iload X dX7_common_209 2 rfl ?_
              refine V_goto X 246 dX7_common_211 (by decide) ?_
              have h : (z12.1, r10) = (rv, M') := h
              exact R_i X hr hlk (congrArg Prod.fst h) (congrArg Prod.snd h) dX7_common_246
          · refine V_aload_n X dX7_common_97 0 rfl rfl ?_
            refine G_7_13 X inX7 wFL_X7_32 dX7_common_98 ?_
            refine V_iload X dX7_common_101 6 rfl ?_
            refine A_c48_ld X h dX7_common_103 (fun hb13 h => ?_)
            refine V_aload_n X dX7_common_104 0 rfl rfl ?_
            refine G_7_14 X inX7 wFL_X7_35 dX7_common_105 ?_
            refine V_iload X dX7_common_108 6 rfl ?_
            refine A_c49_ld X h dX7_common_110 (fun hb14 h => ?_)
            refine V_join X h (fun z15 => r10) (fun z15 => [(0, .ref (q 40)), (5, .int a5), (6, .int z12.1), (7, .int z12.2.1), (8, .int z12.2.2.1), (9, .int z12.2.2.2.1), (10, .int z12.2.2.2.2)]) (fun z15 => [.int z15]) 131 (fun z15 h => ?_) (fun h => ?_)
            · refine V_istore (L' := [(11, .int z15), (0, .ref (q 40)), (5, .int a5), (6, .int z12.1), (7, .int z12.2.1), (8, .int z12.2.2.1), (9, .int z12.2.2.2.1), (10, .int z12.2.2.2.2)]) X dX7_common_131 (by decide) rfl ?_
              refine V_iload X dX7_common_133 3 rfl ?_
              refine V_iload X dX7_common_135 0 rfl ?_
              refine V_join X h (fun z18 => r10) (fun z18 => [(0, .ref (q 40)), (5, .int a5), (7, .int z12.2.1), (8, .int z12.2.2.1), (9, .int z12.2.2.2.1), (10, .int z12.2.2.2.2), (11, .int z15)]) (fun z18 => [.int z18, .int z12.1]) 145 (fun z18 h => ?_) (fun h => ?_)
              · refine V_iadd X dX7_common_145 ?_
                refine V_istore (L' := [(6, .int (z12.1 + z18)), (0, .ref (q 40)), (5, .int a5), (7, .int z12.2.1), (8, .int z12.2.2.1), (9, .int z12.2.2.2.1), (10, .int z12.2.2.2.2), (11, .int z15)]) X dX7_common_146 (by decide) rfl ?_
                refine V_iload X dX7_common_148 3 rfl ?_
                refine V_iload X dX7_common_150 7 rfl ?_
                refine V_iadd X dX7_common_152 ?_
                refine V_istore (L' := [(7, .int (z12.2.1 + z15)), (6, .int (z12.1 + z18)), (0, .ref (q 40)), (5, .int a5), (8, .int z12.2.2.1), (9, .int z12.2.2.2.1), (10, .int z12.2.2.2.2), (11, .int z15)]) X dX7_common_153 (by decide) rfl ?_
                refine V_iload X dX7_common_155 7 rfl ?_
                refine V_join X h (fun z19 => r10) (fun z19 => [(0, .ref (q 40)), (5, .int a5), (6, .int (z12.1 + z18)), (7, .int (z12.2.1 + z15)), (9, .int z12.2.2.2.1), (10, .int z12.2.2.2.2)]) (fun z19 => [.int z19]) 167 (fun z19 h => ?_) (fun h => ?_)
                · refine V_istore (L' := [(8, .int z19), (0, .ref (q 40)), (5, .int a5), (6, .int (z12.1 + z18)), (7, .int (z12.2.1 + z15)), (9, .int z12.2.2.2.1), (10, .int z12.2.2.2.2)]) X dX7_common_167 (by decide) rfl ?_
                  refine V_iload X dX7_common_169 5 rfl ?_
                  refine B_if_eq X 195 dX7_common_171 (by decide) h (fun h => ?_) (fun h => ?_)
                  · refine V_iconst (v := (nI 0)) X dX7_common_195 (by decide) ?_
                    refine V_istore (L' := [(9, .int (nI 0)), (8, .int z19), (0, .ref (q 40)), (5, .int a5), (6, .int (z12.1 + z18)), (7, .int (z12.2.1 + z15)), (10, .int z12.2.2.2.2)]) X dX7_common_196 (by decide) rfl ?_
                    refine V_iinc (v := (z12.2.2.2.2 + (-1 : Int32))) (L' := [(10, .int (z12.2.2.2.2 + (-1 : Int32))), (9, .int (nI 0)), (8, .int z19), (0, .ref (q 40)), (5, .int a5), (6, .int (z12.1 + z18)), (7, .int (z12.2.1 + z15))]) (j := 6) X dX7_common_198 rfl rfl (by decide) rfl ?_
                    refine V_goto X 92 dX7_common_201 (by decide) ?_
                    exact V_sub [3, 4, 5, 6, 2, 1, 0] rfl h
                  · refine V_aload_n X dX7_common_174 1 rfl rfl ?_
                    refine G_7_13 X inX7 wFL_X7_32 dX7_common_175 ?_
                    refine V_iload X dX7_common_178 6 rfl ?_
                    refine A_c48_ld X h dX7_common_180 (fun hb20 h => ?_)
                    refine V_aload_n X dX7_common_181 1 rfl rfl ?_
                    refine G_7_14 X inX7 wFL_X7_35 dX7_common_182 ?_
                    refine V_iload X dX7_common_185 6 rfl ?_
                    refine A_c49_ld X h dX7_common_187 (fun hb21 h => ?_)
                    refine B_icmp_ne X 195 dX7_common_188 (by decide) h (fun h => ?_) (fun h => ?_)
                    · refine V_iconst (v := (nI 0)) X dX7_common_195 (by decide) ?_
                      refine V_istore (L' := [(9, .int (nI 0)), (8, .int z19), (0, .ref (q 40)), (5, .int a5), (6, .int (z12.1 + z18)), (7, .int (z12.2.1 + z15)), (10, .int z12.2.2.2.2)]) X dX7_common_196 (by decide) rfl ?_
                      refine V_iinc (v := (z12.2.2.2.2 + (-1 : Int32))) (L' := [(10, .int (z12.2.2.2.2 + (-1 : Int32))), (9, .int (nI 0)), (8, .int z19), (0, .ref (q 40)), (5, .int a5), (6, .int (z12.1 + z18)), (7, .int (z12.2.1 + z15))]) (j := 6) X dX7_common_198 rfl rfl (by decide) rfl ?_
                      refine V_goto X 92 dX7_common_201 (by decide) ?_
                      exact V_sub [3, 4, 5, 6, 2, 1, 0] rfl h
                    · refine V_iconst (v := (nI 1)) X dX7_common_191 (by decide) ?_
                      refine V_goto X 196 dX7_common_192 (by decide) ?_
                      refine V_istore (L' := [(9, .int (nI 1)), (8, .int z19), (0, .ref (q 40)), (5, .int a5), (6, .int (z12.1 + z18)), (7, .int (z12.2.1 + z15)), (10, .int z12.2.2.2.2)]) X dX7_common_196 (by decide) rfl ?_
                      refine V_iinc (v := (z12.2.2.2.2 + (-1 : Int32))) (L' := [(10, .int (z12.2.2.2.2 + (-1 : Int32))), (9, .int (nI 1)), (8, .int z19), (0, .ref (q 40)), (5, .int a5), (6, .int (z12.1 + z18)), (7, .int (z12.2.1 + z15))]) (j := 6) X dX7_common_198 rfl rfl (by decide) rfl ?_
                      refine V_goto X 92 dX7_common_201 (by decide) ?_
                      exact V_sub [3, 4, 5, 6, 2, 1, 0] rfl h
                · refine B_if_le X 165 dX7_common_157 (by decide) h (fun h => ?_) (fun h => ?_)
                  · refine V_iload X dX7_common_165 4 rfl ?_
                    exact V_sub [2, 3, 1, 0, 5, 6] rfl h
                  · refine V_iload X dX7_common_160 6 rfl ?_
                    refine V_goto X 167 dX7_common_162 (by decide) ?_
                    exact V_sub [2, 3, 1, 0, 5, 6] rfl h
              · refine B_if_le X 144 dX7_common_137 (by decide) h (fun h => ?_) (fun h => ?_)
                · refine V_iconst (v := (nI 0)) X dX7_common_144 (by decide) ?_
                  exact V_sub [1, 2, 4, 5, 6, 7, 0] rfl h
                · refine V_iconst (v := (nI 1)) X dX7_common_140 (by decide) ?_
                  refine V_goto X 145 dX7_common_141 (by decide) ?_
                  exact V_sub [1, 2, 4, 5, 6, 7, 0] rfl h
            · refine B_icmp_ge X 124 dX7_common_111 (by decide) h (fun h => ?_) (fun h => ?_)
              · refine V_aload_n X dX7_common_124 0 rfl rfl ?_
                refine G_7_14 X inX7 wFL_X7_35 dX7_common_125 ?_
                refine V_iload X dX7_common_128 6 rfl ?_
                refine A_c49_ld X h dX7_common_130 (fun hb16 h => ?_)
                exact V_sub [0, 1, 2, 3, 4, 5, 6] rfl h
              · refine V_aload_n X dX7_common_114 0 rfl rfl ?_
                refine G_7_13 X inX7 wFL_X7_32 dX7_common_115 ?_
                refine V_iload X dX7_common_118 6 rfl ?_
                refine A_c48_ld X h dX7_common_120 (fun hb17 h => ?_)
                refine V_goto X 131 dX7_common_121 (by decide) ?_
                exact V_sub [0, 1, 2, 3, 4, 5, 6] rfl h
        · refine V_aload_n X dX7_common_48 0 rfl rfl ?_
          refine G_7_14 X inX7 wFL_X7_35 dX7_common_49 ?_
          refine V_iload X dX7_common_52 4 rfl ?_
          refine V_aload_n X dX7_common_54 0 rfl rfl ?_
          refine G_7_13 X inX7 wFL_X7_32 dX7_common_55 ?_
          refine V_iload X dX7_common_58 4 rfl ?_
          refine A_c48_ld X h dX7_common_60 (fun hb22 h => ?_)
          refine A_c49_st X h dX7_common_61 (fun hb23 h => ?_)
          refine V_iinc (v := (z9.1 + (nI 1))) (L' := [(6, .int (z9.1 + (nI 1))), (0, .ref (q 40)), (3, .int a3), (4, .int a4), (5, .int a5)]) (j := 4) X dX7_common_62 rfl rfl (by decide) rfl ?_
          refine V_goto X 41 dX7_common_65 (by decide) ?_
          exact V_sub [1, 2, 3, 4, 0] rfl h
      · refine V_ldc X wKI_X7_42 dX7_common_29 ?_
        have h : ((-1000001 : Int32), M) = (rv, M') := h
        exact R_i X hr hlk (congrArg Prod.fst h) (congrArg Prod.snd h) dX7_common_31
def rm_X7_heaviest : Room := { frames := 1, cells := 0, slots := 0, locals := 24 }
def f_X7_heaviest (F : Nat) (a1 : Int32) (a2 : Int32) (M : Mm) : Option (Int32) :=
  (f_X7_in a1 (nI 1) (nI 60)).bind fun r1 => if r1 = 0 then (some (-1000001 : Int32)) else ((f_X7_in a2 (nI 0) (nI 1)).bind fun r3 => if r3 = 0 then (some (-1000001 : Int32)) else (lpf (fun z5 : Int32 × Int32 × Int32 => if inb (nI 0) 61 = true then if (M 41 (Int32.toNatClampNeg (nI 0))) < (z5.2.2 + a1) then (if a2 = 0 then (some (.inr z5.1)) else (if 0 ≤ z5.1 then (some (.inr z5.2.1)) else (some (.inr z5.1)))) else ((f_X7_sum F z5.2.2 (z5.2.2 + a1) M).bind fun r7 => jn (if r7 ≤ z5.2.1 then (some (.inl z5.1)) else (some (.inl z5.2.2))) (fun z9 : Int32 => if r7 ≤ z5.2.1 then (some (.inl (z9, z5.2.1, (z5.2.2 + (nI 1))))) else (some (.inl (z9, r7, (z5.2.2 + (nI 1))))))) else none) F ((-1000004 : Int32), (-1 : Int32), (nI 0))))
set_option maxRecDepth 100000 in
set_option maxHeartbeats 4000000 in
theorem k_X7_heaviest (l : Launch) (D : va_G) (cy : Nat → ClassId) (q : Nat → Nat) (F : Nat) (a1 : Int32) (a2 : Int32) (M : Mm) (rv : Int32) (h0 : f_X7_heaviest F a1 a2 M = some rv) : KI l yX7_heaviest (Cond.code yX7_heaviest cX7_heaviest 7 (Option.some FieldType.int) :: gw) rm_X7_heaviest D cy q [.ref (q 40), .int a1, .int a2] M rv M := by
  refine KI.mk (L0 := [(0, .ref (q 40)), (1, .int a1), (2, .int a2)]) (by decide +kernel) rfl (Nat.le_of_ble_eq_true rfl) rfl rfl rfl ?_
  intro p e s m below meth c X0 hr hlk
  have X := Fx.gw (own := RX7) X0
  clear X0
  have h : Ok (f_X7_heaviest F a1 a2 M) (fun r => r = rv) := Ok.of h0 rfl
  clear h0
  delta f_X7_heaviest at h
  refine V_iload_n X dX7_heaviest_0 1 rfl rfl ?_
  refine V_iconst (v := (nI 1)) X dX7_heaviest_1 (by decide) ?_
  refine V_bipush (v := (nI 60)) X dX7_heaviest_2 (by decide) ?_
  obtain ⟨r1, e2, h⟩ := (Ok.bind h).ex
  refine C_Si (As := [.int a1, .int (nI 1), .int (nI 60)]) (M' := M) X (va_cwS 3 X.1.2.2.2.2 (gw_S wML_X7_38 wST_X7_in wIN_X7 (gw_c wCD_X7_in)) rfl rfl rfl (by decide +kernel) ⟨Nat.le_of_ble_eq_true rfl, Nat.le_of_ble_eq_true rfl⟩) rfl rfl (Nat.le_of_ble_eq_true rfl) ⟨Nat.zero_le _, Nat.zero_le _⟩ (k_X7_in l D cy q a1 (nI 1) (nI 60) M r1 e2) dX7_heaviest_4 ?_
  refine B_if_eq X 19 dX7_heaviest_7 (by decide) h (fun h => ?_) (fun h => ?_)
  · refine V_ldc X wKI_X7_42 dX7_heaviest_19 ?_
    have h : (-1000001 : Int32) = rv := h
    exact R_i X hr hlk h rfl dX7_heaviest_21
  · refine V_iload_n X dX7_heaviest_10 2 rfl rfl ?_
    refine V_iconst (v := (nI 0)) X dX7_heaviest_11 (by decide) ?_
    refine V_iconst (v := (nI 1)) X dX7_heaviest_12 (by decide) ?_
    obtain ⟨r3, e4, h⟩ := (Ok.bind h).ex
    refine C_Si (As := [.int a2, .int (nI 0), .int (nI 1)]) (M' := M) X (va_cwS 3 X.1.2.2.2.2 (gw_S wML_X7_38 wST_X7_in wIN_X7 (gw_c wCD_X7_in)) rfl rfl rfl (by decide +kernel) ⟨Nat.le_of_ble_eq_true rfl, Nat.le_of_ble_eq_true rfl⟩) rfl rfl (Nat.le_of_ble_eq_true rfl) ⟨Nat.zero_le _, Nat.zero_le _⟩ (k_X7_in l D cy q a2 (nI 0) (nI 1) M r3 e4) dX7_heaviest_13 ?_
    refine B_if_ne X 22 dX7_heaviest_16 (by decide) h (fun h => ?_) (fun h => ?_)
    · refine V_ldc X wKI_X7_83 dX7_heaviest_22 ?_
      refine V_istore_n (L' := [(3, .int (-1000004 : Int32)), (0, .ref (q 40)), (1, .int a1), (2, .int a2)]) X dX7_heaviest_24 rfl (by decide) rfl ?_
      refine V_iconst (v := (-1 : Int32)) X dX7_heaviest_25 (by decide) ?_
      refine V_istore (L' := [(4, .int (-1 : Int32)), (3, .int (-1000004 : Int32)), (0, .ref (q 40)), (1, .int a1), (2, .int a2)]) X dX7_heaviest_26 (by decide) rfl ?_
      refine V_iconst (v := (nI 0)) X dX7_heaviest_28 (by decide) ?_
      refine V_istore (L' := [(5, .int (nI 0)), (4, .int (-1 : Int32)), (3, .int (-1000004 : Int32)), (0, .ref (q 40)), (1, .int a1), (2, .int a2)]) X dX7_heaviest_29 (by decide) rfl ?_
      refine V_sub (L' := [(0, .ref (q 40)), (1, .int a1), (2, .int a2), (3, .int (-1000004 : Int32)), (4, .int (-1 : Int32)), (5, .int (nI 0))]) [3, 4, 5, 2, 1, 0] rfl ?_
      refine V_loop X h (fun z5 => M) (fun z5 => [(0, .ref (q 40)), (1, .int a1), (2, .int a2), (3, .int z5.1), (4, .int z5.2.1), (5, .int z5.2.2)]) rfl rfl (fun z5 h => ?_)
      refine V_iload X dX7_heaviest_31 5 rfl ?_
      refine V_iload_n X dX7_heaviest_33 1 rfl rfl ?_
      refine V_iadd X dX7_heaviest_34 ?_
      refine V_aload_n X dX7_heaviest_35 0 rfl rfl ?_
      refine G_7_0 X inX7 wFL_X7_7 dX7_heaviest_36 ?_
      refine V_iconst (v := (nI 0)) X dX7_heaviest_39 (by decide) ?_
      refine A_c41_ld X h dX7_heaviest_40 (fun hb6 h => ?_)
      refine B_icmp_gt X 92 dX7_heaviest_41 (by decide) h (fun h => ?_) (fun h => ?_)
      · refine V_iload_n X dX7_heaviest_92 2 rfl rfl ?_
        refine B_if_eq X 100 dX7_heaviest_93 (by decide) h (fun h => ?_) (fun h => ?_)
        · refine V_iload_n X dX7_heaviest_100 3 rfl rfl ?_
          refine V_goto X 106 dX7_heaviest_101 (by decide) ?_
          have h : z5.1 = rv := h
          exact R_i X hr hlk h rfl dX7_heaviest_106
        · refine V_iload_n X dX7_heaviest_96 3 rfl rfl ?_
          refine B_if_ge X 104 dX7_heaviest_97 (by decide) h (fun h => ?_) (fun h => ?_)
          · refine V_iload X dX7_heaviest_104 4 rfl ?_
            have h : z5.2.1 = rv := h
            exact R_i X hr hlk h rfl dX7_heaviest_106
          · refine V_iload_n X dX7_heaviest_100 3 rfl rfl ?_
            refine V_goto X 106 dX7_heaviest_101 (by decide) ?_
            have h : z5.1 = rv := h
            exact R_i X hr hlk h rfl dX7_heaviest_106
      · refine V_aload_n X dX7_heaviest_44 0 rfl rfl ?_
        refine V_iload X dX7_heaviest_45 5 rfl ?_
        refine V_iload X dX7_heaviest_47 5 rfl ?_
        refine V_iload_n X dX7_heaviest_49 1 rfl rfl ?_
        refine V_iadd X dX7_heaviest_50 ?_
        obtain ⟨r7, e8, h⟩ := (Ok.bind h).ex
        refine C_Vi (As := [.int z5.2.2, .int (z5.2.2 + a1)]) (M' := M) (k0 := 40) X rfl rfl (cwV 2 X.1.2.2.2.2 (gw_V wML_X7_101 wIM_X7_sum wSE_X7_sum wIN_X7 (gw_c wCD_X7_sum)) rfl rfl rfl (by decide +kernel) ⟨Nat.le_of_ble_eq_true rfl, Nat.le_of_ble_eq_true rfl⟩) rfl rfl (Nat.le_of_ble_eq_true rfl) ⟨Nat.zero_le _, Nat.zero_le _⟩ (k_X7_sum l D cy q F z5.2.2 (z5.2.2 + a1) M r7 e8) dX7_heaviest_51 ?_
        refine V_istore (L' := [(6, .int r7), (0, .ref (q 40)), (1, .int a1), (2, .int a2), (3, .int z5.1), (4, .int z5.2.1), (5, .int z5.2.2)]) X dX7_heaviest_54 (by decide) rfl ?_
        refine V_iload X dX7_heaviest_56 0 rfl ?_
        refine V_iload X dX7_heaviest_58 5 rfl ?_
        refine V_join X h (fun z9 => M) (fun z9 => [(0, .ref (q 40)), (1, .int a1), (2, .int a2), (4, .int z5.2.1), (5, .int z5.2.2), (6, .int r7)]) (fun z9 => [.int z9]) 69 (fun z9 h => ?_) (fun h => ?_)
        · refine V_istore_n (L' := [(3, .int z9), (0, .ref (q 40)), (1, .int a1), (2, .int a2), (4, .int z5.2.1), (5, .int z5.2.2), (6, .int r7)]) X dX7_heaviest_69 rfl (by decide) rfl ?_
          refine V_iload X dX7_heaviest_70 6 rfl ?_
          refine V_iload X dX7_heaviest_72 4 rfl ?_
          refine B_icmp_le X 82 dX7_heaviest_74 (by decide) h (fun h => ?_) (fun h => ?_)
          · refine V_iload X dX7_heaviest_82 4 rfl ?_
            refine V_istore (L' := [(4, .int z5.2.1), (3, .int z9), (0, .ref (q 40)), (1, .int a1), (2, .int a2), (5, .int z5.2.2), (6, .int r7)]) X dX7_heaviest_84 (by decide) rfl ?_
            refine V_iinc (v := (z5.2.2 + (nI 1))) (L' := [(5, .int (z5.2.2 + (nI 1))), (4, .int z5.2.1), (3, .int z9), (0, .ref (q 40)), (1, .int a1), (2, .int a2), (6, .int r7)]) (j := 5) X dX7_heaviest_86 rfl rfl (by decide) rfl ?_
            refine V_goto X 31 dX7_heaviest_89 (by decide) ?_
            exact V_sub [3, 4, 5, 2, 1, 0] rfl h
          · refine V_iload X dX7_heaviest_77 6 rfl ?_
            refine V_goto X 84 dX7_heaviest_79 (by decide) ?_
            refine V_istore (L' := [(4, .int r7), (3, .int z9), (0, .ref (q 40)), (1, .int a1), (2, .int a2), (5, .int z5.2.2), (6, .int r7)]) X dX7_heaviest_84 (by decide) rfl ?_
            refine V_iinc (v := (z5.2.2 + (nI 1))) (L' := [(5, .int (z5.2.2 + (nI 1))), (4, .int r7), (3, .int z9), (0, .ref (q 40)), (1, .int a1), (2, .int a2), (6, .int r7)]) (j := 5) X dX7_heaviest_86 rfl rfl (by decide) rfl ?_
            refine V_goto X 31 dX7_heaviest_89 (by decide) ?_
            exact V_sub [3, 4, 5, 2, 1, 0] rfl h
        · refine B_icmp_le X 68 dX7_heaviest_60 (by decide) h (fun h => ?_) (fun h => ?_)
          · refine V_iload_n X dX7_heaviest_68 4 rfl rfl ?_
            exact V_sub [1, 2, 3, 5, 6, 0] rfl h
          · refine V_iload X dX7_heaviest_63 6 rfl ?_
            refine V_goto X 69 dX7_heaviest_65 (by decide) ?_
            exact V_sub [1, 2, 3, 5, 6, 0] rfl h
    · refine V_ldc X wKI_X7_42 dX7_heaviest_19 ?_
      have h : (-1000001 : Int32) = rv := h
      exact R_i X hr hlk h rfl dX7_heaviest_21
def rm_X7_ones : Room := { frames := 0, cells := 0, slots := 0, locals := 0 }
def f_X7_ones (F : Nat) (M : Mm) : Option (Int32) :=
  lpf (fun z1 : Int32 × Int32 => if inb (nI 0) 61 = true then if (M 41 (Int32.toNatClampNeg (nI 0))) ≤ z1.2 then (some (.inr z1.1)) else (lpf (fun z3 : Int32 × Int32 => if (nI 4) ≤ z3.2 then (some (.inr (.inl (z3.1, (z1.2 + (nI 1)))))) else (if inb ((nI 1) + z1.2) 61 = true then some (.inl ((z3.1 + (((M 41 (Int32.toNatClampNeg ((nI 1) + z1.2))) >>> (z3.2 &&& 31)) &&& (nI 1))), (z3.2 + (nI 1)))) else none)) F (z1.1, (nI 0))) else none) F ((nI 0), (nI 0))
set_option maxRecDepth 100000 in
set_option maxHeartbeats 4000000 in
theorem k_X7_ones (l : Launch) (D : va_G) (cy : Nat → ClassId) (q : Nat → Nat) (F : Nat) (M : Mm) (rv : Int32) (h0 : f_X7_ones F M = some rv) : KI l yX7_ones (Cond.code yX7_ones cX7_ones 4 (Option.some FieldType.int) :: gw) rm_X7_ones D cy q [.ref (q 40)] M rv M := by
  refine KI.mk (L0 := [(0, .ref (q 40))]) (by decide +kernel) rfl (Nat.le_of_ble_eq_true rfl) rfl rfl rfl ?_
  intro p e s m below meth c X0 hr hlk
  have X := Fx.gw (own := RX7) X0
  clear X0
  have h : Ok (f_X7_ones F M) (fun r => r = rv) := Ok.of h0 rfl
  clear h0
  delta f_X7_ones at h
  refine V_iconst (v := (nI 0)) X dX7_ones_0 (by decide) ?_
  refine V_istore_n (L' := [(1, .int (nI 0)), (0, .ref (q 40))]) X dX7_ones_1 rfl (by decide) rfl ?_
  refine V_iconst (v := (nI 0)) X dX7_ones_2 (by decide) ?_
  refine V_istore_n (L' := [(2, .int (nI 0)), (1, .int (nI 0)), (0, .ref (q 40))]) X dX7_ones_3 rfl (by decide) rfl ?_
  refine V_sub (L' := [(0, .ref (q 40)), (1, .int (nI 0)), (2, .int (nI 0))]) [2, 1, 0] rfl ?_
  refine V_loop X h (fun z1 => M) (fun z1 => [(0, .ref (q 40)), (1, .int z1.1), (2, .int z1.2)]) rfl rfl (fun z1 h => ?_)
  refine V_iload_n X dX7_ones_4 2 rfl rfl ?_
  refine V_aload_n X dX7_ones_5 0 rfl rfl ?_
  refine G_7_0 X inX7 wFL_X7_7 dX7_ones_6 ?_
  refine V_iconst (v := (nI 0)) X dX7_ones_9 (by decide) ?_
  refine A_c41_ld X h dX7_ones_10 (fun hb2 h => ?_)
  refine B_icmp_ge X 48 dX7_ones_11 (by decide) h (fun h => ?_) (fun h => ?_)
  · refine V_iload_n X dX7_ones_48 1 rfl rfl ?_
    have h : z1.1 = rv := h
    exact R_i X hr hlk h rfl dX7_ones_49
  · refine V_iconst (v := (nI 0)) X dX7_ones_14 (by decide) ?_
    refine V_istore_n (L' := [(3, .int (nI 0)), (0, .ref (q 40)), (1, .int z1.1), (2, .int z1.2)]) X dX7_ones_15 rfl (by decide) rfl ?_
    refine V_sub (L' := [(0, .ref (q 40)), (1, .int z1.1), (2, .int z1.2), (3, .int (nI 0))]) [1, 2, 3, 0] rfl ?_
    refine V_loop X h (fun z3 => M) (fun z3 => [(0, .ref (q 40)), (1, .int z3.1), (2, .int z1.2), (3, .int z3.2)]) rfl rfl (fun z3 h => ?_)
    refine V_iload_n X dX7_ones_16 3 rfl rfl ?_
    refine V_iconst (v := (nI 4)) X dX7_ones_17 (by decide) ?_
    refine B_icmp_ge X 42 dX7_ones_18 (by decide) h (fun h => ?_) (fun h => ?_)
    · refine V_iinc (v := (z1.2 + (nI 1))) (L' := [(2, .int (z1.2 + (nI 1))), (0, .ref (q 40)), (1, .int z3.1), (3, .int z3.2)]) (j := 2) X dX7_ones_42 rfl rfl (by decide) rfl ?_
      refine V_goto X 4 dX7_ones_45 (by decide) ?_
      exact V_sub [1, 2, 0] rfl h
    · refine V_iload_n X dX7_ones_21 1 rfl rfl ?_
      refine V_aload_n X dX7_ones_22 0 rfl rfl ?_
      refine G_7_0 X inX7 wFL_X7_7 dX7_ones_23 ?_
      refine V_iconst (v := (nI 1)) X dX7_ones_26 (by decide) ?_
      refine V_iload_n X dX7_ones_27 2 rfl rfl ?_
      refine V_iadd X dX7_ones_28 ?_
      refine A_c41_ld X h dX7_ones_29 (fun hb4 h => ?_)
      refine V_iload_n X dX7_ones_30 3 rfl rfl ?_
      refine V_ishr X dX7_ones_31 ?_
      refine V_iconst (v := (nI 1)) X dX7_ones_32 (by decide) ?_
      refine V_iand X dX7_ones_33 ?_
      refine V_iadd X dX7_ones_34 ?_
      refine V_istore_n (L' := [(1, .int (z3.1 + (((M 41 (Int32.toNatClampNeg ((nI 1) + z1.2))) >>> (z3.2 &&& 31)) &&& (nI 1)))), (0, .ref (q 40)), (2, .int z1.2), (3, .int z3.2)]) X dX7_ones_35 rfl (by decide) rfl ?_
      refine V_iinc (v := (z3.2 + (nI 1))) (L' := [(3, .int (z3.2 + (nI 1))), (1, .int (z3.1 + (((M 41 (Int32.toNatClampNeg ((nI 1) + z1.2))) >>> (z3.2 &&& 31)) &&& (nI 1)))), (0, .ref (q 40)), (2, .int z1.2)]) (j := 3) X dX7_ones_36 rfl rfl (by decide) rfl ?_
      refine V_goto X 16 dX7_ones_39 (by decide) ?_
      exact V_sub [2, 1, 3, 0] rfl h
def rm_X7_count : Room := { frames := 1, cells := 0, slots := 0, locals := 23 }
def f_X7_count (F : Nat) (a1 : Int32) (M : Mm) : Option (Int32 × Mm) :=
  if inb (nI 0) 61 = true then (f_X7_counts F (nI 0) (M 41 (Int32.toNatClampNeg (nI 0))) M).bind fun r2 => (if a1 = nI 0 then (if inb (nI 0) 61 = true then some ((r2 41 (Int32.toNatClampNeg (nI 0))), r2) else none) else (if a1 = nI 1 then ((f_X7_unlike F r2).bind fun r7 => some (r7, r2)) else (if a1 = nI 2 then ((f_X7_ones F r2).bind fun r10 => some (r10, r2)) else (if a1 = nI 3 then ((f_X7_blocks r2).bind fun r13 => some (r13, r2)) else (if a1 = nI 4 then (some ((r2 40 4), r2)) else (if a1 = nI 5 then (some ((r2 40 6), r2)) else (some ((-1000001 : Int32), r2)))))))) else none
set_option maxRecDepth 100000 in
set_option maxHeartbeats 4000000 in
theorem k_X7_count (l : Launch) (D : va_G) (cy : Nat → ClassId) (q : Nat → Nat) (F : Nat) (a1 : Int32) (M : Mm) (rv : Int32) (M' : Mm) (h0 : f_X7_count F a1 M = some (rv, M')) : KI l yX7_count (Cond.code yX7_count cX7_count 2 (Option.some FieldType.int) :: gw) rm_X7_count D cy q [.ref (q 40), .int a1] M rv M' := by
  refine KI.mk (L0 := [(0, .ref (q 40)), (1, .int a1)]) (by decide +kernel) rfl (Nat.le_of_ble_eq_true rfl) rfl rfl rfl ?_
  intro p e s m below meth c X0 hr hlk
  have X := Fx.gw (own := RX7) X0
  clear X0
  have h : Ok (f_X7_count F a1 M) (fun r => r = (rv, M')) := Ok.of h0 rfl
  clear h0
  delta f_X7_count at h
  refine V_aload_n X dX7_count_0 0 rfl rfl ?_
  refine V_iconst (v := (nI 0)) X dX7_count_1 (by decide) ?_
  refine V_aload_n X dX7_count_2 0 rfl rfl ?_
  refine G_7_0 X inX7 wFL_X7_7 dX7_count_3 ?_
  refine V_iconst (v := (nI 0)) X dX7_count_6 (by decide) ?_
  refine A_c41_ld X h dX7_count_7 (fun hb1 h => ?_)
  obtain ⟨r2, e3, h⟩ := (Ok.bind h).ex
  refine C_Vv (As := [.int (nI 0), .int (M 41 (Int32.toNatClampNeg (nI 0)))]) (M' := r2) (k0 := 40) X rfl rfl (cwV 2 X.1.2.2.2.2 (gw_V wML_X7_76 wIM_X7_counts wSE_X7_counts wIN_X7 (gw_c wCD_X7_counts)) rfl rfl rfl (by decide +kernel) ⟨Nat.le_of_ble_eq_true rfl, Nat.le_of_ble_eq_true rfl⟩) rfl rfl (Nat.le_of_ble_eq_true rfl) ⟨Nat.zero_le _, Nat.zero_le _⟩ (k_X7_counts l D cy q F (nI 0) (M 41 (Int32.toNatClampNeg (nI 0))) M r2 e3) dX7_count_8 ?_
  refine V_iload_n X dX7_count_11 1 rfl rfl ?_
  by_cases g4 : a1 = nI 0
  · have h := h.pos g4
    refine V_tabIn X 52 dX7_count_12 (by rw [g4] <;> decide) (by rw [g4] <;> decide) (by rw [g4] <;> rfl) (by decide) ?_
    refine V_aload_n X dX7_count_52 0 rfl rfl ?_
    refine G_7_0 X inX7 wFL_X7_7 dX7_count_53 ?_
    refine V_iconst (v := (nI 0)) X dX7_count_56 (by decide) ?_
    refine A_c41_ld X h dX7_count_57 (fun hb5 h => ?_)
    have h : ((r2 41 (Int32.toNatClampNeg (nI 0))), r2) = (rv, M') := h
    exact R_i X hr hlk (congrArg Prod.fst h) (congrArg Prod.snd h) dX7_count_58
  have h := h.neg g4
  by_cases g6 : a1 = nI 1
  · have h := h.pos g6
    refine V_tabIn X 59 dX7_count_12 (by rw [g6] <;> decide) (by rw [g6] <;> decide) (by rw [g6] <;> rfl) (by decide) ?_
    refine V_aload_n X dX7_count_59 0 rfl rfl ?_
    obtain ⟨r7, e8, h⟩ := (Ok.bind h).ex
    refine C_Vi (As := []) (M' := r2) (k0 := 40) X rfl rfl (cwV 0 X.1.2.2.2.2 (gw_V wML_X7_95 wIM_X7_unlike wSE_X7_unlike wIN_X7 (gw_c wCD_X7_unlike)) rfl rfl rfl (by decide +kernel) ⟨Nat.le_of_ble_eq_true rfl, Nat.le_of_ble_eq_true rfl⟩) rfl rfl (Nat.le_of_ble_eq_true rfl) ⟨Nat.zero_le _, Nat.zero_le _⟩ (k_X7_unlike l D cy q F r2 r7 e8) dX7_count_60 ?_
    have h : (r7, r2) = (rv, M') := h
    exact R_i X hr hlk (congrArg Prod.fst h) (congrArg Prod.snd h) dX7_count_63
  have h := h.neg g6
  by_cases g9 : a1 = nI 2
  · have h := h.pos g9
    refine V_tabIn X 64 dX7_count_12 (by rw [g9] <;> decide) (by rw [g9] <;> decide) (by rw [g9] <;> rfl) (by decide) ?_
    refine V_aload_n X dX7_count_64 0 rfl rfl ?_
    obtain ⟨r10, e11, h⟩ := (Ok.bind h).ex
    refine C_Vi (As := []) (M' := r2) (k0 := 40) X rfl rfl (cwV 0 X.1.2.2.2.2 (gw_V wML_X7_111 wIM_X7_ones wSE_X7_ones wIN_X7 (gw_c wCD_X7_ones)) rfl rfl rfl (by decide +kernel) ⟨Nat.le_of_ble_eq_true rfl, Nat.le_of_ble_eq_true rfl⟩) rfl rfl (Nat.le_of_ble_eq_true rfl) ⟨Nat.zero_le _, Nat.zero_le _⟩ (k_X7_ones l D cy q F r2 r10 e11) dX7_count_65 ?_
    have h : (r10, r2) = (rv, M') := h
    exact R_i X hr hlk (congrArg Prod.fst h) (congrArg Prod.snd h) dX7_count_68
  have h := h.neg g9
  by_cases g12 : a1 = nI 3
  · have h := h.pos g12
    refine V_tabIn X 69 dX7_count_12 (by rw [g12] <;> decide) (by rw [g12] <;> decide) (by rw [g12] <;> rfl) (by decide) ?_
    refine V_aload_n X dX7_count_69 0 rfl rfl ?_
    obtain ⟨r13, e14, h⟩ := (Ok.bind h).ex
    refine C_Vi (As := []) (M' := r2) (k0 := 40) X rfl rfl (cwV 0 X.1.2.2.2.2 (gw_V wML_X7_87 wIM_X7_blocks wSE_X7_blocks wIN_X7 (gw_c wCD_X7_blocks)) rfl rfl rfl (by decide +kernel) ⟨Nat.le_of_ble_eq_true rfl, Nat.le_of_ble_eq_true rfl⟩) rfl rfl (Nat.le_of_ble_eq_true rfl) ⟨Nat.zero_le _, Nat.zero_le _⟩ (k_X7_blocks l D cy q r2 r13 e14) dX7_count_70 ?_
    have h : (r13, r2) = (rv, M') := h
    exact R_i X hr hlk (congrArg Prod.fst h) (congrArg Prod.snd h) dX7_count_73
  have h := h.neg g12
  by_cases g15 : a1 = nI 4
  · have h := h.pos g15
    refine V_tabIn X 74 dX7_count_12 (by rw [g15] <;> decide) (by rw [g15] <;> decide) (by rw [g15] <;> rfl) (by decide) ?_
    refine V_aload_n X dX7_count_74 0 rfl rfl ?_
    refine G_7_4 X inX7 wFL_X7_43 dX7_count_75 ?_
    have h : ((r2 40 4), r2) = (rv, M') := h
    exact R_i X hr hlk (congrArg Prod.fst h) (congrArg Prod.snd h) dX7_count_78
  have h := h.neg g15
  by_cases g16 : a1 = nI 5
  · have h := h.pos g16
    refine V_tabIn X 79 dX7_count_12 (by rw [g16] <;> decide) (by rw [g16] <;> decide) (by rw [g16] <;> rfl) (by decide) ?_
    refine V_aload_n X dX7_count_79 0 rfl rfl ?_
    refine G_7_6 X inX7 wFL_X7_114 dX7_count_80 ?_
    have h : ((r2 40 6), r2) = (rv, M') := h
    exact R_i X hr hlk (congrArg Prod.fst h) (congrArg Prod.snd h) dX7_count_83
  have h := h.neg g16
  have n17 := lv_neT (a := 0) g4 rfl
  have n18 := lv_neT (a := 1) g6 rfl
  have n19 := lv_neT (a := 2) g9 rfl
  have n20 := lv_neT (a := 3) g12 rfl
  have n21 := lv_neT (a := 4) g15 rfl
  have n22 := lv_neT (a := 5) g16 rfl
  refine V_tabOut X 84 dX7_count_12 (by omega) (by decide) ?_
  refine V_ldc X wKI_X7_42 dX7_count_84 ?_
  have h : ((-1000001 : Int32), r2) = (rv, M') := h
  exact R_i X hr hlk (congrArg Prod.fst h) (congrArg Prod.snd h) dX7_count_86
def rm_X7_undo : Room := { frames := 0, cells := 0, slots := 0, locals := 0 }
def f_X7_undo (F : Nat) (M : Mm) : Option (Int32 × Mm) :=
  if (M 40 4) = 0 then (some ((-1000002 : Int32), M)) else (lpf (fun z1 : Int32 × Mm => if (nI 61) ≤ z1.1 then (some (.inr ((z1.2 40 4), z1.2))) else (if inb (((nI 61) * (z1.2 40 4)) + z1.1) 244 = true then if inb z1.1 61 = true then some (.inl ((z1.1 + (nI 1)), (up z1.2 41 (Int32.toNatClampNeg z1.1) (z1.2 42 (Int32.toNatClampNeg (((nI 61) * (z1.2 40 4)) + z1.1)))))) else none else none)) F ((nI 0), (up M 40 4 ((M 40 4) - (nI 1)))))
set_option maxRecDepth 100000 in
set_option maxHeartbeats 4000000 in
theorem k_X7_undo (l : Launch) (D : va_G) (cy : Nat → ClassId) (q : Nat → Nat) (F : Nat) (M : Mm) (rv : Int32) (M' : Mm) (h0 : f_X7_undo F M = some (rv, M')) : KI l yX7_undo (Cond.code yX7_undo cX7_undo 2 (Option.some FieldType.int) :: gw) rm_X7_undo D cy q [.ref (q 40)] M rv M' := by
  refine KI.mk (L0 := [(0, .ref (q 40))]) (by decide +kernel) rfl (Nat.le_of_ble_eq_true rfl) rfl rfl rfl ?_
  intro p e s m below meth c X0 hr hlk
  have X := Fx.gw (own := RX7) X0
  clear X0
  have h : Ok (f_X7_undo F M) (fun r => r = (rv, M')) := Ok.of h0 rfl
  clear h0
  delta f_X7_undo at h
  refine V_aload_n X dX7_undo_0 0 rfl rfl ?_
  refine G_7_4 X inX7 wFL_X7_43 dX7_undo_1 ?_
  refine B_if_ne X 10 dX7_undo_4 (by decide) h (fun h => ?_) (fun h => ?_)
  · refine V_aload_n X dX7_undo_10 0 rfl rfl ?_
    refine V_dup X dX7_undo_11 rfl ?_
    refine G_7_4 X inX7 wFL_X7_43 dX7_undo_12 ?_
    refine V_iconst (v := (nI 1)) X dX7_undo_15 (by decide) ?_
    refine V_isub X dX7_undo_16 ?_
    refine P_7_4 X inX7 wFL_X7_43 dX7_undo_17 ?_
    refine V_iconst (v := (nI 0)) X dX7_undo_20 (by decide) ?_
    refine V_istore_n (L' := [(1, .int (nI 0)), (0, .ref (q 40))]) X dX7_undo_21 rfl (by decide) rfl ?_
    refine V_sub (L' := [(0, .ref (q 40)), (1, .int (nI 0))]) [1, 0] rfl ?_
    refine V_loop X h (fun z1 => z1.2) (fun z1 => [(0, .ref (q 40)), (1, .int z1.1)]) rfl rfl (fun z1 h => ?_)
    refine V_iload_n X dX7_undo_22 1 rfl rfl ?_
    refine V_bipush (v := (nI 61)) X dX7_undo_23 (by decide) ?_
    refine B_icmp_ge X 54 dX7_undo_25 (by decide) h (fun h => ?_) (fun h => ?_)
    · refine V_aload_n X dX7_undo_54 0 rfl rfl ?_
      refine G_7_4 X inX7 wFL_X7_43 dX7_undo_55 ?_
      have h : ((z1.2 40 4), z1.2) = (rv, M') := h
      exact R_i X hr hlk (congrArg Prod.fst h) (congrArg Prod.snd h) dX7_undo_58
    · refine V_aload_n X dX7_undo_28 0 rfl rfl ?_
      refine G_7_0 X inX7 wFL_X7_7 dX7_undo_29 ?_
      refine V_iload_n X dX7_undo_32 1 rfl rfl ?_
      refine V_aload_n X dX7_undo_33 0 rfl rfl ?_
      refine G_7_1 X inX7 wFL_X7_13 dX7_undo_34 ?_
      refine V_bipush (v := (nI 61)) X dX7_undo_37 (by decide) ?_
      refine V_aload_n X dX7_undo_39 0 rfl rfl ?_
      refine G_7_4 X inX7 wFL_X7_43 dX7_undo_40 ?_
      refine V_imul X dX7_undo_43 ?_
      refine V_iload_n X dX7_undo_44 1 rfl rfl ?_
      refine V_iadd X dX7_undo_45 ?_
      refine A_c42_ld X h dX7_undo_46 (fun hb2 h => ?_)
      refine A_c41_st X h dX7_undo_47 (fun hb3 h => ?_)
      refine V_iinc (v := (z1.1 + (nI 1))) (L' := [(1, .int (z1.1 + (nI 1))), (0, .ref (q 40))]) (j := 1) X dX7_undo_48 rfl rfl (by decide) rfl ?_
      refine V_goto X 22 dX7_undo_51 (by decide) ?_
      exact V_sub [1, 0] rfl h
  · refine V_ldc X wKI_X7_117 dX7_undo_7 ?_
    have h : ((-1000002 : Int32), M) = (rv, M') := h
    exact R_i X hr hlk (congrArg Prod.fst h) (congrArg Prod.snd h) dX7_undo_9
def rm_X7_type : Room := { frames := 1, cells := 0, slots := 0, locals := 22 }
def f_X7_type (a1 : Int32) (M : Mm) : Option (Int32 × Mm) :=
  (f_X7_in a1 (nI 32) (nI 126)).bind fun r1 => if r1 = 0 then (some ((-1000001 : Int32), M)) else (if (M 40 6) = (nI 60) then (some ((-1000003 : Int32), M)) else (if inb (M 40 6) 60 = true then some (((up (up M 45 (Int32.toNatClampNeg (M 40 6)) (vp_nar .char (((Int32.toUInt32 a1) % 65536).toInt32))) 40 6 (((up M 45 (Int32.toNatClampNeg (M 40 6)) (vp_nar .char (((Int32.toUInt32 a1) % 65536).toInt32))) 40 6) + (nI 1))) 40 6), (up (up M 45 (Int32.toNatClampNeg (M 40 6)) (vp_nar .char (((Int32.toUInt32 a1) % 65536).toInt32))) 40 6 (((up M 45 (Int32.toNatClampNeg (M 40 6)) (vp_nar .char (((Int32.toUInt32 a1) % 65536).toInt32))) 40 6) + (nI 1)))) else none))
set_option maxRecDepth 100000 in
set_option maxHeartbeats 4000000 in
theorem k_X7_type (l : Launch) (D : va_G) (cy : Nat → ClassId) (q : Nat → Nat) (a1 : Int32) (M : Mm) (rv : Int32) (M' : Mm) (h0 : f_X7_type a1 M = some (rv, M')) : KI l yX7_type (Cond.code yX7_type cX7_type 2 (Option.some FieldType.int) :: gw) rm_X7_type D cy q [.ref (q 40), .int a1] M rv M' := by
  refine KI.mk (L0 := [(0, .ref (q 40)), (1, .int a1)]) (by decide +kernel) rfl (Nat.le_of_ble_eq_true rfl) rfl rfl rfl ?_
  intro p e s m below meth c X0 hr hlk
  have X := Fx.gw (own := RX7) X0
  clear X0
  have h : Ok (f_X7_type a1 M) (fun r => r = (rv, M')) := Ok.of h0 rfl
  clear h0
  delta f_X7_type at h
  refine V_iload_n X dX7_type_0 1 rfl rfl ?_
  refine V_bipush (v := (nI 32)) X dX7_type_1 (by decide) ?_
  refine V_bipush (v := (nI 126)) X dX7_type_3 (by decide) ?_
  obtain ⟨r1, e2, h⟩ := (Ok.bind h).ex
  refine C_Si (As := [.int a1, .int (nI 32), .int (nI 126)]) (M' := M) X (va_cwS 3 X.1.2.2.2.2 (gw_S wML_X7_38 wST_X7_in wIN_X7 (gw_c wCD_X7_in)) rfl rfl rfl (by decide +kernel) ⟨Nat.le_of_ble_eq_true rfl, Nat.le_of_ble_eq_true rfl⟩) rfl rfl (Nat.le_of_ble_eq_true rfl) ⟨Nat.zero_le _, Nat.zero_le _⟩ (k_X7_in l D cy q a1 (nI 32) (nI 126) M r1 e2) dX7_type_5 ?_
  refine B_if_ne X 14 dX7_type_8 (by decide) h (fun h => ?_) (fun h => ?_)
  · refine V_aload_n X dX7_type_14 0 rfl rfl ?_
    refine G_7_6 X inX7 wFL_X7_114 dX7_type_15 ?_
    refine V_bipush (v := (nI 60)) X dX7_type_18 (by decide) ?_
    refine B_icmp_ne X 26 dX7_type_20 (by decide) h (fun h => ?_) (fun h => ?_)
    · refine V_aload_n X dX7_type_26 0 rfl rfl ?_
      refine G_7_5 X inX7 wFL_X7_22 dX7_type_27 ?_
      refine V_aload_n X dX7_type_30 0 rfl rfl ?_
      refine G_7_6 X inX7 wFL_X7_114 dX7_type_31 ?_
      refine V_iload_n X dX7_type_34 1 rfl rfl ?_
      refine V_i2c X dX7_type_35 ?_
      refine A_c45_st X h dX7_type_36 (fun hb3 h => ?_)
      refine V_aload_n X dX7_type_37 0 rfl rfl ?_
      refine V_dup X dX7_type_38 rfl ?_
      refine G_7_6 X inX7 wFL_X7_114 dX7_type_39 ?_
      refine V_iconst (v := (nI 1)) X dX7_type_42 (by decide) ?_
      refine V_iadd X dX7_type_43 ?_
      refine P_7_6 X inX7 wFL_X7_114 dX7_type_44 ?_
      refine V_aload_n X dX7_type_47 0 rfl rfl ?_
      refine G_7_6 X inX7 wFL_X7_114 dX7_type_48 ?_
      have h : (((up (up M 45 (Int32.toNatClampNeg (M 40 6)) (vp_nar .char (((Int32.toUInt32 a1) % 65536).toInt32))) 40 6 (((up M 45 (Int32.toNatClampNeg (M 40 6)) (vp_nar .char (((Int32.toUInt32 a1) % 65536).toInt32))) 40 6) + (nI 1))) 40 6), (up (up M 45 (Int32.toNatClampNeg (M 40 6)) (vp_nar .char (((Int32.toUInt32 a1) % 65536).toInt32))) 40 6 (((up M 45 (Int32.toNatClampNeg (M 40 6)) (vp_nar .char (((Int32.toUInt32 a1) % 65536).toInt32))) 40 6) + (nI 1)))) = (rv, M') := h
      exact R_i X hr hlk (congrArg Prod.fst h) (congrArg Prod.snd h) dX7_type_51
    · refine V_ldc X wKI_X7_47 dX7_type_23 ?_
      have h : ((-1000003 : Int32), M) = (rv, M') := h
      exact R_i X hr hlk (congrArg Prod.fst h) (congrArg Prod.snd h) dX7_type_25
  · refine V_ldc X wKI_X7_42 dX7_type_11 ?_
    have h : ((-1000001 : Int32), M) = (rv, M') := h
    exact R_i X hr hlk (congrArg Prod.fst h) (congrArg Prod.snd h) dX7_type_13
def rm_X7_clearText : Room := { frames := 0, cells := 0, slots := 0, locals := 0 }
def f_X7_clearText (M : Mm) : Option (Int32 × Mm) :=
  some ((M 40 6), (up M 40 6 (nI 0)))
set_option maxRecDepth 100000 in
set_option maxHeartbeats 4000000 in
theorem k_X7_clearText (l : Launch) (D : va_G) (cy : Nat → ClassId) (q : Nat → Nat)  (M : Mm) (rv : Int32) (M' : Mm) (h0 : f_X7_clearText M = some (rv, M')) : KI l yX7_clearText (Cond.code yX7_clearText cX7_clearText 2 (Option.some FieldType.int) :: gw) rm_X7_clearText D cy q [.ref (q 40)] M rv M' := by
  refine KI.mk (L0 := [(0, .ref (q 40))]) (by decide +kernel) rfl (Nat.le_of_ble_eq_true rfl) rfl rfl rfl ?_
  intro p e s m below meth c X0 hr hlk
  have X := Fx.gw (own := RX7) X0
  clear X0
  have h : Ok (f_X7_clearText M) (fun r => r = (rv, M')) := Ok.of h0 rfl
  clear h0
  delta f_X7_clearText at h
  refine V_aload_n X dX7_clearText_0 0 rfl rfl ?_
  refine G_7_6 X inX7 wFL_X7_114 dX7_clearText_1 ?_
  refine V_istore_n (L' := [(1, .int (M 40 6)), (0, .ref (q 40))]) X dX7_clearText_4 rfl (by decide) rfl ?_
  refine V_aload_n X dX7_clearText_5 1 rfl rfl ?_
  refine V_iconst (v := (nI 0)) X dX7_clearText_6 (by decide) ?_
  refine P_7_6 X inX7 wFL_X7_114 dX7_clearText_7 ?_
  refine V_iload_n X dX7_clearText_10 0 rfl rfl ?_
  have h : ((M 40 6), (up M 40 6 (nI 0))) = (rv, M') := h
  exact R_i X hr hlk (congrArg Prod.fst h) (congrArg Prod.snd h) dX7_clearText_11
def rm_X7_sign : Room := { frames := 0, cells := 0, slots := 0, locals := 0 }
def f_X7_sign (M : Mm) : Option (Int32) :=
  if (M 40 6) ≤ (M 40 7) then (some (-1 : Int32)) else (if inb (M 40 7) 60 = true then some (M 45 (Int32.toNatClampNeg (M 40 7))) else none)
set_option maxRecDepth 100000 in
set_option maxHeartbeats 4000000 in
theorem k_X7_sign (l : Launch) (D : va_G) (cy : Nat → ClassId) (q : Nat → Nat)  (M : Mm) (rv : Int32) (h0 : f_X7_sign M = some rv) : KI l yX7_sign (Cond.code yX7_sign cX7_sign 1 (Option.some FieldType.int) :: gw) rm_X7_sign D cy q [.ref (q 40)] M rv M := by
  refine KI.mk (L0 := [(0, .ref (q 40))]) (by decide +kernel) rfl (Nat.le_of_ble_eq_true rfl) rfl rfl rfl ?_
  intro p e s m below meth c X0 hr hlk
  have X := Fx.gw (own := RX7) X0
  clear X0
  have h : Ok (f_X7_sign M) (fun r => r = rv) := Ok.of h0 rfl
  clear h0
  delta f_X7_sign at h
  refine V_aload_n X dX7_sign_0 0 rfl rfl ?_
  refine G_7_7 X inX7 wFL_X7_118 dX7_sign_1 ?_
  refine V_aload_n X dX7_sign_4 0 rfl rfl ?_
  refine G_7_6 X inX7 wFL_X7_114 dX7_sign_5 ?_
  refine B_icmp_ge X 23 dX7_sign_8 (by decide) h (fun h => ?_) (fun h => ?_)
  · refine V_iconst (v := (-1 : Int32)) X dX7_sign_23 (by decide) ?_
    have h : (-1 : Int32) = rv := h
    exact R_i X hr hlk h rfl dX7_sign_24
  · refine V_aload_n X dX7_sign_11 0 rfl rfl ?_
    refine G_7_5 X inX7 wFL_X7_22 dX7_sign_12 ?_
    refine V_aload_n X dX7_sign_15 0 rfl rfl ?_
    refine G_7_7 X inX7 wFL_X7_118 dX7_sign_16 ?_
    refine A_c45_ld X h dX7_sign_19 (fun hb1 h => ?_)
    refine V_goto X 24 dX7_sign_20 (by decide) ?_
    have h : (M 45 (Int32.toNatClampNeg (M 40 7))) = rv := h
    exact R_i X hr hlk h rfl dX7_sign_24
def rm_X7_readsNumber : Room := { frames := 1, cells := 0, slots := 0, locals := 22 }
def f_X7_readsNumber (F : Nat) (M : Mm) : Option (Int32 × Mm) :=
  lpf (fun z1 : Mm => (f_X7_sign z1).bind fun r2 => (f_X7_in r2 (nI 48) (nI 57)).bind fun r4 => if r4 = 0 then (if (z1 40 7) ≤ (M 40 7) then (some (.inr ((nI 0), z1))) else (some (.inr ((nI 1), z1)))) else (if ((M 40 7) + (nI 2)) ≤ (z1 40 7) then (if (z1 40 7) ≤ (M 40 7) then (some (.inr ((nI 0), z1))) else (some (.inr ((nI 1), z1)))) else ((f_X7_sign z1).bind fun r6 => some (.inl (up (up z1 40 10 ((((nI 10) * (z1 40 10)) + r6) - (nI 48))) 40 7 (((up z1 40 10 ((((nI 10) * (z1 40 10)) + r6) - (nI 48))) 40 7) + (nI 1))))))) F (up M 40 10 (nI 0))
set_option maxRecDepth 100000 in
set_option maxHeartbeats 4000000 in
theorem k_X7_readsNumber (l : Launch) (D : va_G) (cy : Nat → ClassId) (q : Nat → Nat) (F : Nat) (M : Mm) (rv : Int32) (M' : Mm) (h0 : f_X7_readsNumber F M = some (rv, M')) : KI l yX7_readsNumber (Cond.code yX7_readsNumber cX7_readsNumber 2 (Option.some FieldType.boolean) :: gw) rm_X7_readsNumber D cy q [.ref (q 40)] M rv M' := by
  refine KI.mk (L0 := [(0, .ref (q 40))]) (by decide +kernel) rfl (Nat.le_of_ble_eq_true rfl) rfl rfl rfl ?_
  intro p e s m below meth c X0 hr hlk
  have X := Fx.gw (own := RX7) X0
  clear X0
  have h : Ok (f_X7_readsNumber F M) (fun r => r = (rv, M')) := Ok.of h0 rfl
  clear h0
  delta f_X7_readsNumber at h
  refine V_aload_n X dX7_readsNumber_0 0 rfl rfl ?_
  refine G_7_7 X inX7 wFL_X7_118 dX7_readsNumber_1 ?_
  refine V_istore_n (L' := [(1, .int (M 40 7)), (0, .ref (q 40))]) X dX7_readsNumber_4 rfl (by decide) rfl ?_
  refine V_aload_n X dX7_readsNumber_5 1 rfl rfl ?_
  refine V_iconst (v := (nI 0)) X dX7_readsNumber_6 (by decide) ?_
  refine P_7_10 X inX7 wFL_X7_124 dX7_readsNumber_7 ?_
  refine V_sub (L' := [(0, .ref (q 40)), (1, .int (M 40 7))]) [1, 0] rfl ?_
  refine V_loop X h (fun z1 => z1) (fun z1 => [(0, .ref (q 40)), (1, .int (M 40 7))]) rfl rfl (fun z1 h => ?_)
  refine V_aload_n X dX7_readsNumber_10 0 rfl rfl ?_
  obtain ⟨r2, e3, h⟩ := (Ok.bind h).ex
  refine C_Vi (As := []) (M' := z1) (k0 := 40) X rfl rfl (cwV 0 X.1.2.2.2.2 (gw_V wML_X7_121 wIM_X7_sign wSE_X7_sign wIN_X7 (gw_c wCD_X7_sign)) rfl rfl rfl (by decide +kernel) ⟨Nat.le_of_ble_eq_true rfl, Nat.le_of_ble_eq_true rfl⟩) rfl rfl (Nat.le_of_ble_eq_true rfl) ⟨Nat.zero_le _, Nat.zero_le _⟩ (k_X7_sign l D cy q z1 r2 e3) dX7_readsNumber_11 ?_
  refine V_bipush (v := (nI 48)) X dX7_readsNumber_14 (by decide) ?_
  refine V_bipush (v := (nI 57)) X dX7_readsNumber_16 (by decide) ?_
  obtain ⟨r4, e5, h⟩ := (Ok.bind h).ex
  refine C_Si (As := [.int r2, .int (nI 48), .int (nI 57)]) (M' := z1) X (va_cwS 3 X.1.2.2.2.2 (gw_S wML_X7_38 wST_X7_in wIN_X7 (gw_c wCD_X7_in)) rfl rfl rfl (by decide +kernel) ⟨Nat.le_of_ble_eq_true rfl, Nat.le_of_ble_eq_true rfl⟩) rfl rfl (Nat.le_of_ble_eq_true rfl) ⟨Nat.zero_le _, Nat.zero_le _⟩ (k_X7_in l D cy q r2 (nI 48) (nI 57) z1 r4 e5) dX7_readsNumber_18 ?_
  refine B_if_eq X 66 dX7_readsNumber_21 (by decide) h (fun h => ?_) (fun h => ?_)
  · refine V_aload_n X dX7_readsNumber_66 0 rfl rfl ?_
    refine G_7_7 X inX7 wFL_X7_118 dX7_readsNumber_67 ?_
    refine V_iload_n X dX7_readsNumber_70 1 rfl rfl ?_
    refine B_icmp_le X 78 dX7_readsNumber_71 (by decide) h (fun h => ?_) (fun h => ?_)
    · refine V_iconst (v := (nI 0)) X dX7_readsNumber_78 (by decide) ?_
      have h : ((nI 0), z1) = (rv, M') := h
      exact R_z X hr hlk rfl (congrArg Prod.fst h) (congrArg Prod.snd h) dX7_readsNumber_79
    · refine V_iconst (v := (nI 1)) X dX7_readsNumber_74 (by decide) ?_
      refine V_goto X 79 dX7_readsNumber_75 (by decide) ?_
      have h : ((nI 1), z1) = (rv, M') := h
      exact R_z X hr hlk rfl (congrArg Prod.fst h) (congrArg Prod.snd h) dX7_readsNumber_79
  · refine V_aload_n X dX7_readsNumber_24 0 rfl rfl ?_
    refine G_7_7 X inX7 wFL_X7_118 dX7_readsNumber_25 ?_
    refine V_iload_n X dX7_readsNumber_28 1 rfl rfl ?_
    refine V_iconst (v := (nI 2)) X dX7_readsNumber_29 (by decide) ?_
    refine V_iadd X dX7_readsNumber_30 ?_
    refine B_icmp_ge X 66 dX7_readsNumber_31 (by decide) h (fun h => ?_) (fun h => ?_)
    · refine V_aload_n X dX7_readsNumber_66 0 rfl rfl ?_
      refine G_7_7 X inX7 wFL_X7_118 dX7_readsNumber_67 ?_
      refine V_iload_n X dX7_readsNumber_70 1 rfl rfl ?_
      refine B_icmp_le X 78 dX7_readsNumber_71 (by decide) h (fun h => ?_) (fun h => ?_)
      · refine V_iconst (v := (nI 0)) X dX7_readsNumber_78 (by decide) ?_
        have h : ((nI 0), z1) = (rv, M') := h
        exact R_z X hr hlk rfl (congrArg Prod.fst h) (congrArg Prod.snd h) dX7_readsNumber_79
      · refine V_iconst (v := (nI 1)) X dX7_readsNumber_74 (by decide) ?_
        refine V_goto X 79 dX7_readsNumber_75 (by decide) ?_
        have h : ((nI 1), z1) = (rv, M') := h
        exact R_z X hr hlk rfl (congrArg Prod.fst h) (congrArg Prod.snd h) dX7_readsNumber_79
    · refine V_aload_n X dX7_readsNumber_34 0 rfl rfl ?_
      refine V_bipush (v := (nI 10)) X dX7_readsNumber_35 (by decide) ?_
      refine V_aload_n X dX7_readsNumber_37 0 rfl rfl ?_
      refine G_7_10 X inX7 wFL_X7_124 dX7_readsNumber_38 ?_
      refine V_imul X dX7_readsNumber_41 ?_
      refine V_aload_n X dX7_readsNumber_42 0 rfl rfl ?_
      obtain ⟨r6, e7, h⟩ := (Ok.bind h).ex
      refine C_Vi (As := []) (M' := z1) (k0 := 40) X rfl rfl (cwV 0 X.1.2.2.2.2 (gw_V wML_X7_121 wIM_X7_sign wSE_X7_sign wIN_X7 (gw_c wCD_X7_sign)) rfl rfl rfl (by decide +kernel) ⟨Nat.le_of_ble_eq_true rfl, Nat.le_of_ble_eq_true rfl⟩) rfl rfl (Nat.le_of_ble_eq_true rfl) ⟨Nat.zero_le _, Nat.zero_le _⟩ (k_X7_sign l D cy q z1 r6 e7) dX7_readsNumber_43 ?_
      refine V_iadd X dX7_readsNumber_46 ?_
      refine V_bipush (v := (nI 48)) X dX7_readsNumber_47 (by decide) ?_
      refine V_isub X dX7_readsNumber_49 ?_
      refine P_7_10 X inX7 wFL_X7_124 dX7_readsNumber_50 ?_
      refine V_aload_n X dX7_readsNumber_53 0 rfl rfl ?_
      refine V_dup X dX7_readsNumber_54 rfl ?_
      refine G_7_7 X inX7 wFL_X7_118 dX7_readsNumber_55 ?_
      refine V_iconst (v := (nI 1)) X dX7_readsNumber_58 (by decide) ?_
      refine V_iadd X dX7_readsNumber_59 ?_
      refine P_7_7 X inX7 wFL_X7_118 dX7_readsNumber_60 ?_
      refine V_goto X 10 dX7_readsNumber_63 (by decide) ?_
      exact V_sub [0, 1] rfl h
def rm_X7_reads : Room := { frames := 1, cells := 0, slots := 0, locals := 20 }
def f_X7_reads (a1 : Int32) (M : Mm) : Option (Int32 × Mm) :=
  (f_X7_sign M).bind fun r1 => jn (if r1 = a1 then (some (.inl (nI 1))) else (some (.inl (nI 0)))) (fun z3 : Int32 => if z3 = 0 then (if isB z3 = true then some (z3, (up M 40 7 ((M 40 7) + (nI 0)))) else none) else (if isB z3 = true then some (z3, (up M 40 7 ((M 40 7) + (nI 1)))) else none))
set_option maxRecDepth 100000 in
set_option maxHeartbeats 4000000 in
theorem k_X7_reads (l : Launch) (D : va_G) (cy : Nat → ClassId) (q : Nat → Nat) (a1 : Int32) (M : Mm) (rv : Int32) (M' : Mm) (h0 : f_X7_reads a1 M = some (rv, M')) : KI l yX7_reads (Cond.code yX7_reads cX7_reads 3 (Option.some FieldType.boolean) :: gw) rm_X7_reads D cy q [.ref (q 40), .int a1] M rv M' := by
  refine KI.mk (L0 := [(0, .ref (q 40)), (1, .int a1)]) (by decide +kernel) rfl (Nat.le_of_ble_eq_true rfl) rfl rfl rfl ?_
  intro p e s m below meth c X0 hr hlk
  have X := Fx.gw (own := RX7) X0
  clear X0
  have h : Ok (f_X7_reads a1 M) (fun r => r = (rv, M')) := Ok.of h0 rfl
  clear h0
  delta f_X7_reads at h
  refine V_aload_n X dX7_reads_0 0 rfl rfl ?_
  obtain ⟨r1, e2, h⟩ := (Ok.bind h).ex
  refine C_Vi (As := []) (M' := M) (k0 := 40) X rfl rfl (cwV 0 X.1.2.2.2.2 (gw_V wML_X7_121 wIM_X7_sign wSE_X7_sign wIN_X7 (gw_c wCD_X7_sign)) rfl rfl rfl (by decide +kernel) ⟨Nat.le_of_ble_eq_true rfl, Nat.le_of_ble_eq_true rfl⟩) rfl rfl (Nat.le_of_ble_eq_true rfl) ⟨Nat.zero_le _, Nat.zero_le _⟩ (k_X7_sign l D cy q M r1 e2) dX7_reads_1 ?_
  refine V_iload_n X dX7_reads_4 1 rfl rfl ?_
  refine V_join X h (fun z3 => M) (fun z3 => [(0, .ref (q 40))]) (fun z3 => [.int z3]) 13 (fun z3 h => ?_) (fun h => ?_)
  · refine V_istore_n (L' := [(2, .int z3), (0, .ref (q 40))]) X dX7_reads_13 rfl (by decide) rfl ?_
    refine V_aload_n X dX7_reads_14 1 rfl rfl ?_
    refine V_dup X dX7_reads_15 rfl ?_
    refine G_7_7 X inX7 wFL_X7_118 dX7_reads_16 ?_
    refine V_iload_n X dX7_reads_19 0 rfl rfl ?_
    refine B_if_eq X 27 dX7_reads_20 (by decide) h (fun h => ?_) (fun h => ?_)
    · refine V_iconst (v := (nI 0)) X dX7_reads_27 (by decide) ?_
      refine V_iadd X dX7_reads_28 ?_
      refine P_7_7 X inX7 wFL_X7_118 dX7_reads_29 ?_
      refine V_iload_n X dX7_reads_32 0 rfl rfl ?_
      obtain ⟨hz4, h⟩ := h.test
      have h : (z3, (up M 40 7 ((M 40 7) + (nI 0)))) = (rv, M') := h
      exact R_z X hr hlk (isB_ok hz4) (congrArg Prod.fst h) (congrArg Prod.snd h) dX7_reads_33
    · refine V_iconst (v := (nI 1)) X dX7_reads_23 (by decide) ?_
      refine V_goto X 28 dX7_reads_24 (by decide) ?_
      refine V_iadd X dX7_reads_28 ?_
      refine P_7_7 X inX7 wFL_X7_118 dX7_reads_29 ?_
      refine V_iload_n X dX7_reads_32 0 rfl rfl ?_
      obtain ⟨hz5, h⟩ := h.test
      have h : (z3, (up M 40 7 ((M 40 7) + (nI 1)))) = (rv, M') := h
      exact R_z X hr hlk (isB_ok hz5) (congrArg Prod.fst h) (congrArg Prod.snd h) dX7_reads_33
  · refine B_icmp_ne X 12 dX7_reads_5 (by decide) h (fun h => ?_) (fun h => ?_)
    · refine V_iconst (v := (nI 0)) X dX7_reads_12 (by decide) ?_
      exact V_sub [0] rfl h
    · refine V_iconst (v := (nI 1)) X dX7_reads_8 (by decide) ?_
      refine V_goto X 13 dX7_reads_9 (by decide) ?_
      exact V_sub [0] rfl h
def rm_X7_symbol : Room := { frames := 1, cells := 0, slots := 0, locals := 22 }
def f_X7_symbol (M : Mm) : Option (Int32) :=
  (f_X7_sign M).bind fun r1 => (f_X7_in r1 (nI 48) (nI 57)).bind fun r3 => if r3 = 0 then ((f_X7_in r1 (nI 97) (nI 102)).bind fun r5 => if r5 = 0 then (some (-1 : Int32)) else (some ((r1 - (nI 97)) + (nI 10)))) else (some (r1 - (nI 48)))
set_option maxRecDepth 100000 in
set_option maxHeartbeats 4000000 in
theorem k_X7_symbol (l : Launch) (D : va_G) (cy : Nat → ClassId) (q : Nat → Nat)  (M : Mm) (rv : Int32) (h0 : f_X7_symbol M = some rv) : KI l yX7_symbol (Cond.code yX7_symbol cX7_symbol 2 (Option.some FieldType.int) :: gw) rm_X7_symbol D cy q [.ref (q 40)] M rv M := by
  refine KI.mk (L0 := [(0, .ref (q 40))]) (by decide +kernel) rfl (Nat.le_of_ble_eq_true rfl) rfl rfl rfl ?_
  intro p e s m below meth c X0 hr hlk
  have X := Fx.gw (own := RX7) X0
  clear X0
  have h : Ok (f_X7_symbol M) (fun r => r = rv) := Ok.of h0 rfl
  clear h0
  delta f_X7_symbol at h
  refine V_aload_n X dX7_symbol_0 0 rfl rfl ?_
  obtain ⟨r1, e2, h⟩ := (Ok.bind h).ex
  refine C_Vi (As := []) (M' := M) (k0 := 40) X rfl rfl (cwV 0 X.1.2.2.2.2 (gw_V wML_X7_121 wIM_X7_sign wSE_X7_sign wIN_X7 (gw_c wCD_X7_sign)) rfl rfl rfl (by decide +kernel) ⟨Nat.le_of_ble_eq_true rfl, Nat.le_of_ble_eq_true rfl⟩) rfl rfl (Nat.le_of_ble_eq_true rfl) ⟨Nat.zero_le _, Nat.zero_le _⟩ (k_X7_sign l D cy q M r1 e2) dX7_symbol_1 ?_
  refine V_istore_n (L' := [(1, .int r1), (0, .ref (q 40))]) X dX7_symbol_4 rfl (by decide) rfl ?_
  refine V_iload_n X dX7_symbol_5 0 rfl rfl ?_
  refine V_bipush (v := (nI 48)) X dX7_symbol_6 (by decide) ?_
  refine V_bipush (v := (nI 57)) X dX7_symbol_8 (by decide) ?_
  obtain ⟨r3, e4, h⟩ := (Ok.bind h).ex
  refine C_Si (As := [.int r1, .int (nI 48), .int (nI 57)]) (M' := M) X (va_cwS 3 X.1.2.2.2.2 (gw_S wML_X7_38 wST_X7_in wIN_X7 (gw_c wCD_X7_in)) rfl rfl rfl (by decide +kernel) ⟨Nat.le_of_ble_eq_true rfl, Nat.le_of_ble_eq_true rfl⟩) rfl rfl (Nat.le_of_ble_eq_true rfl) ⟨Nat.zero_le _, Nat.zero_le _⟩ (k_X7_in l D cy q r1 (nI 48) (nI 57) M r3 e4) dX7_symbol_10 ?_
  refine B_if_eq X 23 dX7_symbol_13 (by decide) h (fun h => ?_) (fun h => ?_)
  · refine V_iload_n X dX7_symbol_23 0 rfl rfl ?_
    refine V_bipush (v := (nI 97)) X dX7_symbol_24 (by decide) ?_
    refine V_bipush (v := (nI 102)) X dX7_symbol_26 (by decide) ?_
    obtain ⟨r5, e6, h⟩ := (Ok.bind h).ex
    refine C_Si (As := [.int r1, .int (nI 97), .int (nI 102)]) (M' := M) X (va_cwS 3 X.1.2.2.2.2 (gw_S wML_X7_38 wST_X7_in wIN_X7 (gw_c wCD_X7_in)) rfl rfl rfl (by decide +kernel) ⟨Nat.le_of_ble_eq_true rfl, Nat.le_of_ble_eq_true rfl⟩) rfl rfl (Nat.le_of_ble_eq_true rfl) ⟨Nat.zero_le _, Nat.zero_le _⟩ (k_X7_in l D cy q r1 (nI 97) (nI 102) M r5 e6) dX7_symbol_28 ?_
    refine B_if_eq X 44 dX7_symbol_31 (by decide) h (fun h => ?_) (fun h => ?_)
    · refine V_iconst (v := (-1 : Int32)) X dX7_symbol_44 (by decide) ?_
      have h : (-1 : Int32) = rv := h
      exact R_i X hr hlk h rfl dX7_symbol_45
    · refine V_iload_n X dX7_symbol_34 0 rfl rfl ?_
      refine V_bipush (v := (nI 97)) X dX7_symbol_35 (by decide) ?_
      refine V_isub X dX7_symbol_37 ?_
      refine V_bipush (v := (nI 10)) X dX7_symbol_38 (by decide) ?_
      refine V_iadd X dX7_symbol_40 ?_
      refine V_goto X 45 dX7_symbol_41 (by decide) ?_
      have h : ((r1 - (nI 97)) + (nI 10)) = rv := h
      exact R_i X hr hlk h rfl dX7_symbol_45
  · refine V_iload_n X dX7_symbol_16 0 rfl rfl ?_
    refine V_bipush (v := (nI 48)) X dX7_symbol_17 (by decide) ?_
    refine V_isub X dX7_symbol_19 ?_
    refine V_goto X 45 dX7_symbol_20 (by decide) ?_
    have h : (r1 - (nI 48)) = rv := h
    exact R_i X hr hlk h rfl dX7_symbol_45
def rm_X7_readsSymbols : Room := { frames := 2, cells := 0, slots := 0, locals := 43 }
def f_X7_readsSymbols (F : Nat) (M : Mm) : Option (Int32 × Mm) :=
  lpf (fun z1 : Mm => (f_X7_symbol z1).bind fun r2 => if r2 < 0 then (if (z1 40 7) ≤ (M 40 7) then (some (.inr ((nI 0), z1))) else ((f_X7_reads (nI 59) z1).bind fun r4 => if r4.1 = 0 then (some (.inr ((nI 0), r4.2))) else (some (.inr ((nI 1), r4.2))))) else (some (.inl (up z1 40 7 ((z1 40 7) + (nI 1)))))) F M
set_option maxRecDepth 100000 in
set_option maxHeartbeats 4000000 in
theorem k_X7_readsSymbols (l : Launch) (D : va_G) (cy : Nat → ClassId) (q : Nat → Nat) (F : Nat) (M : Mm) (rv : Int32) (M' : Mm) (h0 : f_X7_readsSymbols F M = some (rv, M')) : KI l yX7_readsSymbols (Cond.code yX7_readsSymbols cX7_readsSymbols 2 (Option.some FieldType.boolean) :: gw) rm_X7_readsSymbols D cy q [.ref (q 40)] M rv M' := by
  refine KI.mk (L0 := [(0, .ref (q 40))]) (by decide +kernel) rfl (Nat.le_of_ble_eq_true rfl) rfl rfl rfl ?_
  intro p e s m below meth c X0 hr hlk
  have X := Fx.gw (own := RX7) X0
  clear X0
  have h : Ok (f_X7_readsSymbols F M) (fun r => r = (rv, M')) := Ok.of h0 rfl
  clear h0
  delta f_X7_readsSymbols at h
  refine V_aload_n X dX7_readsSymbols_0 0 rfl rfl ?_
  refine G_7_7 X inX7 wFL_X7_118 dX7_readsSymbols_1 ?_
  refine V_istore_n (L' := [(1, .int (M 40 7)), (0, .ref (q 40))]) X dX7_readsSymbols_4 rfl (by decide) rfl ?_
  refine V_sub (L' := [(0, .ref (q 40)), (1, .int (M 40 7))]) [1, 0] rfl ?_
  refine V_loop X h (fun z1 => z1) (fun z1 => [(0, .ref (q 40)), (1, .int (M 40 7))]) rfl rfl (fun z1 h => ?_)
  refine V_aload_n X dX7_readsSymbols_5 0 rfl rfl ?_
  obtain ⟨r2, e3, h⟩ := (Ok.bind h).ex
  refine C_Vi (As := []) (M' := z1) (k0 := 40) X rfl rfl (cwV 0 X.1.2.2.2.2 (gw_V wML_X7_127 wIM_X7_symbol wSE_X7_symbol wIN_X7 (gw_c wCD_X7_symbol)) rfl rfl rfl (by decide +kernel) ⟨Nat.le_of_ble_eq_true rfl, Nat.le_of_ble_eq_true rfl⟩) rfl rfl (Nat.le_of_ble_eq_true rfl) ⟨Nat.zero_le _, Nat.zero_le _⟩ (k_X7_symbol l D cy q z1 r2 e3) dX7_readsSymbols_6 ?_
  refine B_if_lt X 25 dX7_readsSymbols_9 (by decide) h (fun h => ?_) (fun h => ?_)
  · refine V_aload_n X dX7_readsSymbols_25 0 rfl rfl ?_
    refine G_7_7 X inX7 wFL_X7_118 dX7_readsSymbols_26 ?_
    refine V_iload_n X dX7_readsSymbols_29 1 rfl rfl ?_
    refine B_icmp_le X 46 dX7_readsSymbols_30 (by decide) h (fun h => ?_) (fun h => ?_)
    · refine V_iconst (v := (nI 0)) X dX7_readsSymbols_46 (by decide) ?_
      have h : ((nI 0), z1) = (rv, M') := h
      exact R_z X hr hlk rfl (congrArg Prod.fst h) (congrArg Prod.snd h) dX7_readsSymbols_47
    · refine V_aload_n X dX7_readsSymbols_33 0 rfl rfl ?_
      refine V_bipush (v := (nI 59)) X dX7_readsSymbols_34 (by decide) ?_
      obtain ⟨r4, e5, h⟩ := (Ok.bind h).ex
      refine C_Vi (As := [.int (nI 59)]) (M' := r4.2) (k0 := 40) X rfl rfl (cwV 1 X.1.2.2.2.2 (gw_V wML_X7_130 wIM_X7_reads wSE_X7_reads wIN_X7 (gw_c wCD_X7_reads)) rfl rfl rfl (by decide +kernel) ⟨Nat.le_of_ble_eq_true rfl, Nat.le_of_ble_eq_true rfl⟩) rfl rfl (Nat.le_of_ble_eq_true rfl) ⟨Nat.zero_le _, Nat.zero_le _⟩ (k_X7_reads l D cy q (nI 59) z1 r4.1 r4.2 e5) dX7_readsSymbols_36 ?_
      refine B_if_eq X 46 dX7_readsSymbols_39 (by decide) h (fun h => ?_) (fun h => ?_)
      · refine V_iconst (v := (nI 0)) X dX7_readsSymbols_46 (by decide) ?_
        have h : ((nI 0), r4.2) = (rv, M') := h
        exact R_z X hr hlk rfl (congrArg Prod.fst h) (congrArg Prod.snd h) dX7_readsSymbols_47
      · refine V_iconst (v := (nI 1)) X dX7_readsSymbols_42 (by decide) ?_
        refine V_goto X 47 dX7_readsSymbols_43 (by decide) ?_
        have h : ((nI 1), r4.2) = (rv, M') := h
        exact R_z X hr hlk rfl (congrArg Prod.fst h) (congrArg Prod.snd h) dX7_readsSymbols_47
  · refine V_aload_n X dX7_readsSymbols_12 0 rfl rfl ?_
    refine V_dup X dX7_readsSymbols_13 rfl ?_
    refine G_7_7 X inX7 wFL_X7_118 dX7_readsSymbols_14 ?_
    refine V_iconst (v := (nI 1)) X dX7_readsSymbols_17 (by decide) ?_
    refine V_iadd X dX7_readsSymbols_18 ?_
    refine P_7_7 X inX7 wFL_X7_118 dX7_readsSymbols_19 ?_
    refine V_goto X 5 dX7_readsSymbols_22 (by decide) ?_
    exact V_sub [0, 1] rfl h
def rm_X7_putsAll : Room := { frames := 2, cells := 0, slots := 0, locals := 45 }
def f_X7_putsAll (F : Nat) (a1 : Int32) (a2 : Int32) (a3 : Int32) (M : Mm) : Option (Int32 × Mm) :=
  if inb (nI 0) 61 = true then if a1 ≤ (M 41 (Int32.toNatClampNeg (nI 0))) then (if inb (nI 0) 61 = true then if (((M 41 (Int32.toNatClampNeg (nI 0))) + a3) - a2) ≤ (nI 60) then (lpf (fun z3 : Int32 × Mm => if a3 ≤ z3.1 then (some (.inr ((nI 0), (up z3.2 40 7 (M 40 7))))) else ((f_X7_symbol (up z3.2 40 7 z3.1)).bind fun r4 => (f_X7_puts F ((a1 + z3.1) - a2) r4 (up z3.2 40 7 z3.1)).bind fun r6 => some (.inl ((z3.1 + (nI 1)), r6.2)))) F (a2, M)) else (some ((nI 3), M)) else none) else (some ((nI 2), M)) else none
set_option maxRecDepth 100000 in
set_option maxHeartbeats 4000000 in
theorem k_X7_putsAll (l : Launch) (D : va_G) (cy : Nat → ClassId) (q : Nat → Nat) (F : Nat) (a1 : Int32) (a2 : Int32) (a3 : Int32) (M : Mm) (rv : Int32) (M' : Mm) (h0 : f_X7_putsAll F a1 a2 a3 M = some (rv, M')) : KI l yX7_putsAll (Cond.code yX7_putsAll cX7_putsAll 6 (Option.some FieldType.int) :: gw) rm_X7_putsAll D cy q [.ref (q 40), .int a1, .int a2, .int a3] M rv M' := by
  refine KI.mk (L0 := [(0, .ref (q 40)), (1, .int a1), (2, .int a2), (3, .int a3)]) (by decide +kernel) rfl (Nat.le_of_ble_eq_true rfl) rfl rfl rfl ?_
  intro p e s m below meth c X0 hr hlk
  have X := Fx.gw (own := RX7) X0
  clear X0
  have h : Ok (f_X7_putsAll F a1 a2 a3 M) (fun r => r = (rv, M')) := Ok.of h0 rfl
  clear h0
  delta f_X7_putsAll at h
  refine V_iload_n X dX7_putsAll_0 1 rfl rfl ?_
  refine V_aload_n X dX7_putsAll_1 0 rfl rfl ?_
  refine G_7_0 X inX7 wFL_X7_7 dX7_putsAll_2 ?_
  refine V_iconst (v := (nI 0)) X dX7_putsAll_5 (by decide) ?_
  refine A_c41_ld X h dX7_putsAll_6 (fun hb1 h => ?_)
  refine B_icmp_le X 12 dX7_putsAll_7 (by decide) h (fun h => ?_) (fun h => ?_)
  · refine V_aload_n X dX7_putsAll_12 0 rfl rfl ?_
    refine G_7_0 X inX7 wFL_X7_7 dX7_putsAll_13 ?_
    refine V_iconst (v := (nI 0)) X dX7_putsAll_16 (by decide) ?_
    refine A_c41_ld X h dX7_putsAll_17 (fun hb2 h => ?_)
    refine V_iload_n X dX7_putsAll_18 3 rfl rfl ?_
    refine V_iadd X dX7_putsAll_19 ?_
    refine V_iload_n X dX7_putsAll_20 2 rfl rfl ?_
    refine V_isub X dX7_putsAll_21 ?_
    refine V_bipush (v := (nI 60)) X dX7_putsAll_22 (by decide) ?_
    refine B_icmp_le X 29 dX7_putsAll_24 (by decide) h (fun h => ?_) (fun h => ?_)
    · refine V_aload_n X dX7_putsAll_29 0 rfl rfl ?_
      refine G_7_7 X inX7 wFL_X7_118 dX7_putsAll_30 ?_
      refine V_istore (L' := [(4, .int (M 40 7)), (0, .ref (q 40)), (1, .int a1), (2, .int a2), (3, .int a3)]) X dX7_putsAll_33 (by decide) rfl ?_
      refine V_iload_n X dX7_putsAll_35 3 rfl rfl ?_
      refine V_istore (L' := [(5, .int a2), (4, .int (M 40 7)), (0, .ref (q 40)), (1, .int a1), (2, .int a2), (3, .int a3)]) X dX7_putsAll_36 (by decide) rfl ?_
      refine V_sub (L' := [(0, .ref (q 40)), (1, .int a1), (2, .int a2), (3, .int a3), (4, .int (M 40 7)), (5, .int a2)]) [2, 3, 4, 5, 1, 0] rfl ?_
      refine V_loop X h (fun z3 => z3.2) (fun z3 => [(0, .ref (q 40)), (1, .int a1), (2, .int a2), (3, .int a3), (4, .int (M 40 7)), (5, .int z3.1)]) rfl rfl (fun z3 h => ?_)
      refine V_iload X dX7_putsAll_38 5 rfl ?_
      refine V_iload_n X dX7_putsAll_40 3 rfl rfl ?_
      refine B_icmp_ge X 71 dX7_putsAll_41 (by decide) h (fun h => ?_) (fun h => ?_)
      · refine V_aload_n X dX7_putsAll_71 0 rfl rfl ?_
        refine V_iload X dX7_putsAll_72 4 rfl ?_
        refine P_7_7 X inX7 wFL_X7_118 dX7_putsAll_74 ?_
        refine V_iconst (v := (nI 0)) X dX7_putsAll_77 (by decide) ?_
        have h : ((nI 0), (up z3.2 40 7 (M 40 7))) = (rv, M') := h
        exact R_i X hr hlk (congrArg Prod.fst h) (congrArg Prod.snd h) dX7_putsAll_78
      · refine V_aload_n X dX7_putsAll_44 0 rfl rfl ?_
        refine V_iload X dX7_putsAll_45 5 rfl ?_
        refine P_7_7 X inX7 wFL_X7_118 dX7_putsAll_47 ?_
        refine V_aload_n X dX7_putsAll_50 0 rfl rfl ?_
        refine V_iload_n X dX7_putsAll_51 1 rfl rfl ?_
        refine V_iload X dX7_putsAll_52 5 rfl ?_
        refine V_iadd X dX7_putsAll_54 ?_
        refine V_iload_n X dX7_putsAll_55 2 rfl rfl ?_
        refine V_isub X dX7_putsAll_56 ?_
        refine V_aload_n X dX7_putsAll_57 0 rfl rfl ?_
        obtain ⟨r4, e5, h⟩ := (Ok.bind h).ex
        refine C_Vi (As := []) (M' := (up z3.2 40 7 z3.1)) (k0 := 40) X rfl rfl (cwV 0 X.1.2.2.2.2 (gw_V wML_X7_127 wIM_X7_symbol wSE_X7_symbol wIN_X7 (gw_c wCD_X7_symbol)) rfl rfl rfl (by decide +kernel) ⟨Nat.le_of_ble_eq_true rfl, Nat.le_of_ble_eq_true rfl⟩) rfl rfl (Nat.le_of_ble_eq_true rfl) ⟨Nat.zero_le _, Nat.zero_le _⟩ (k_X7_symbol l D cy q (up z3.2 40 7 z3.1) r4 e5) dX7_putsAll_58 ?_
        obtain ⟨r6, e7, h⟩ := (Ok.bind h).ex
        refine C_Vi (As := [.int ((a1 + z3.1) - a2), .int r4]) (M' := r6.2) (k0 := 40) X rfl rfl (cwV 2 X.1.2.2.2.2 (gw_V wML_X7_51 wIM_X7_puts wSE_X7_puts wIN_X7 (gw_c wCD_X7_puts)) rfl rfl rfl (by decide +kernel) ⟨Nat.le_of_ble_eq_true rfl, Nat.le_of_ble_eq_true rfl⟩) rfl rfl (Nat.le_of_ble_eq_true rfl) ⟨Nat.zero_le _, Nat.zero_le _⟩ (k_X7_puts l D cy q F ((a1 + z3.1) - a2) r4 (up z3.2 40 7 z3.1) r6.1 r6.2 e7) dX7_putsAll_61 ?_
        refine V_pop X dX7_putsAll_64 rfl ?_
        refine V_iinc (v := (z3.1 + (nI 1))) (L' := [(5, .int (z3.1 + (nI 1))), (0, .ref (q 40)), (1, .int a1), (2, .int a2), (3, .int a3), (4, .int (M 40 7))]) (j := 5) X dX7_putsAll_65 rfl rfl (by decide) rfl ?_
        refine V_goto X 38 dX7_putsAll_68 (by decide) ?_
        exact V_sub [1, 2, 3, 4, 5, 0] rfl h
    · refine V_iconst (v := (nI 3)) X dX7_putsAll_27 (by decide) ?_
      have h : ((nI 3), M) = (rv, M') := h
      exact R_i X hr hlk (congrArg Prod.fst h) (congrArg Prod.snd h) dX7_putsAll_28
  · refine V_iconst (v := (nI 2)) X dX7_putsAll_10 (by decide) ?_
    have h : ((nI 2), M) = (rv, M') := h
    exact R_i X hr hlk (congrArg Prod.fst h) (congrArg Prod.snd h) dX7_putsAll_11
def rm_X7_takesAll : Room := { frames := 3, cells := 0, slots := 0, locals := 66 }
def f_X7_takesAll (F : Nat) (a1 : Int32) (a2 : Int32) (M : Mm) : Option (Int32 × Mm) :=
  if inb (nI 0) 61 = true then if (a1 + a2) ≤ (M 41 (Int32.toNatClampNeg (nI 0))) then (lpf (fun z2 : Int32 × Mm => if a2 ≤ z2.1 then (some (.inr ((nI 0), z2.2))) else ((f_X7_takes F a1 z2.2).bind fun r3 => some (.inl ((z2.1 + (nI 1)), r3.2)))) F ((nI 0), M)) else (some ((nI 2), M)) else none
set_option maxRecDepth 100000 in
set_option maxHeartbeats 4000000 in
theorem k_X7_takesAll (l : Launch) (D : va_G) (cy : Nat → ClassId) (q : Nat → Nat) (F : Nat) (a1 : Int32) (a2 : Int32) (M : Mm) (rv : Int32) (M' : Mm) (h0 : f_X7_takesAll F a1 a2 M = some (rv, M')) : KI l yX7_takesAll (Cond.code yX7_takesAll cX7_takesAll 4 (Option.some FieldType.int) :: gw) rm_X7_takesAll D cy q [.ref (q 40), .int a1, .int a2] M rv M' := by
  refine KI.mk (L0 := [(0, .ref (q 40)), (1, .int a1), (2, .int a2)]) (by decide +kernel) rfl (Nat.le_of_ble_eq_true rfl) rfl rfl rfl ?_
  intro p e s m below meth c X0 hr hlk
  have X := Fx.gw (own := RX7) X0
  clear X0
  have h : Ok (f_X7_takesAll F a1 a2 M) (fun r => r = (rv, M')) := Ok.of h0 rfl
  clear h0
  delta f_X7_takesAll at h
  refine V_iload_n X dX7_takesAll_0 1 rfl rfl ?_
  refine V_iload_n X dX7_takesAll_1 2 rfl rfl ?_
  refine V_iadd X dX7_takesAll_2 ?_
  refine V_aload_n X dX7_takesAll_3 0 rfl rfl ?_
  refine G_7_0 X inX7 wFL_X7_7 dX7_takesAll_4 ?_
  refine V_iconst (v := (nI 0)) X dX7_takesAll_7 (by decide) ?_
  refine A_c41_ld X h dX7_takesAll_8 (fun hb1 h => ?_)
  refine B_icmp_le X 14 dX7_takesAll_9 (by decide) h (fun h => ?_) (fun h => ?_)
  · refine V_iconst (v := (nI 0)) X dX7_takesAll_14 (by decide) ?_
    refine V_istore_n (L' := [(3, .int (nI 0)), (0, .ref (q 40)), (1, .int a1), (2, .int a2)]) X dX7_takesAll_15 rfl (by decide) rfl ?_
    refine V_sub (L' := [(0, .ref (q 40)), (1, .int a1), (2, .int a2), (3, .int (nI 0))]) [1, 2, 3, 0] rfl ?_
    refine V_loop X h (fun z2 => z2.2) (fun z2 => [(0, .ref (q 40)), (1, .int a1), (2, .int a2), (3, .int z2.1)]) rfl rfl (fun z2 h => ?_)
    refine V_iload_n X dX7_takesAll_16 3 rfl rfl ?_
    refine V_iload_n X dX7_takesAll_17 2 rfl rfl ?_
    refine B_icmp_ge X 33 dX7_takesAll_18 (by decide) h (fun h => ?_) (fun h => ?_)
    · refine V_iconst (v := (nI 0)) X dX7_takesAll_33 (by decide) ?_
      have h : ((nI 0), z2.2) = (rv, M') := h
      exact R_i X hr hlk (congrArg Prod.fst h) (congrArg Prod.snd h) dX7_takesAll_34
    · refine V_aload_n X dX7_takesAll_21 0 rfl rfl ?_
      refine V_iload_n X dX7_takesAll_22 1 rfl rfl ?_
      obtain ⟨r3, e4, h⟩ := (Ok.bind h).ex
      refine C_Vi (As := [.int a1]) (M' := r3.2) (k0 := 40) X rfl rfl (cwV 1 X.1.2.2.2.2 (gw_V wML_X7_63 wIM_X7_takes wSE_X7_takes wIN_X7 (gw_c wCD_X7_takes)) rfl rfl rfl (by decide +kernel) ⟨Nat.le_of_ble_eq_true rfl, Nat.le_of_ble_eq_true rfl⟩) rfl rfl (Nat.le_of_ble_eq_true rfl) ⟨Nat.zero_le _, Nat.zero_le _⟩ (k_X7_takes l D cy q F a1 z2.2 r3.1 r3.2 e4) dX7_takesAll_23 ?_
      refine V_pop X dX7_takesAll_26 rfl ?_
      refine V_iinc (v := (z2.1 + (nI 1))) (L' := [(3, .int (z2.1 + (nI 1))), (0, .ref (q 40)), (1, .int a1), (2, .int a2)]) (j := 3) X dX7_takesAll_27 rfl rfl (by decide) rfl ?_
      refine V_goto X 16 dX7_takesAll_30 (by decide) ?_
      exact V_sub [1, 2, 3, 0] rfl h
  · refine V_iconst (v := (nI 2)) X dX7_takesAll_12 (by decide) ?_
    have h : ((nI 2), M) = (rv, M') := h
    exact R_i X hr hlk (congrArg Prod.fst h) (congrArg Prod.snd h) dX7_takesAll_13
def rm_X7_doesNext : Room := { frames := 4, cells := 0, slots := 0, locals := 90 }
def f_X7_doesNext (F : Nat) (M : Mm) : Option (Int32 × Mm) :=
  (f_X7_sign M).bind fun r1 => jn (if r1 = (nI 43) then (some (.inl (nI 1))) else (if r1 = (nI 45) then (some (.inl (nI 1))) else (if r1 = (nI 120) then (some (.inl (nI 1))) else (if r1 = (nI 114) then (some (.inl (nI 1))) else (some (.inl (nI 0))))))) (fun z3 : Int32 => jn (if z3 = 0 then (some (.inl (nI 0))) else (some (.inl (nI 1)))) (fun z4 : Int32 => jn (if z3 = 0 then (some (.inl ((nI 0), (up (up M 40 9 (-1000004 : Int32)) 40 7 (((up M 40 9 (-1000004 : Int32)) 40 7) + z4))))) else ((f_X7_readsNumber F (up (up M 40 9 (-1000004 : Int32)) 40 7 (((up M 40 9 (-1000004 : Int32)) 40 7) + z4))).bind fun r6 => if r6.1 = 0 then (some (.inl ((nI 0), r6.2))) else (some (.inl ((nI 1), r6.2))))) (fun z5 : Int32 × Mm => jn (if z5.1 = 0 then (some (.inl ((nI 0), z5.2))) else ((f_X7_reads (nI 44) z5.2).bind fun r9 => if r9.1 = 0 then (some (.inl ((nI 0), r9.2))) else (some (.inl ((nI 1), r9.2))))) (fun z8 : Int32 × Mm => jn (if z8.1 = 0 then (some (.inl ((nI 0), z8.2))) else (if r1 = (nI 43) then ((f_X7_readsSymbols F z8.2).bind fun r16 => if r16.1 = 0 then (some (.inl ((nI 0), r16.2))) else (some (.inl ((nI 1), r16.2)))) else ((f_X7_readsNumber F z8.2).bind fun r12 => if r12.1 = 0 then (some (.inl ((nI 0), r12.2))) else ((f_X7_reads (nI 59) r12.2).bind fun r14 => if r14.1 = 0 then (some (.inl ((nI 0), r14.2))) else (some (.inl ((nI 1), r14.2))))))) (fun z11 : Int32 × Mm => if z11.1 = 0 then (some ((nI 1), (up z11.2 40 9 ((z11.2 40 7) - (M 40 7))))) else ((if r1 = nI 43 then ((f_X7_putsAll F (z5.2 40 10) (z8.2 40 7) ((z11.2 40 7) - (nI 1)) z11.2).bind fun r19 => some (r19.1, r19.2)) else (if r1 = nI 45 then ((f_X7_takesAll F (z5.2 40 10) (z11.2 40 10) z11.2).bind fun r22 => some (r22.1, r22.2)) else (if r1 = nI 120 then ((f_X7_swaps (z5.2 40 10) (z11.2 40 10) z11.2).bind fun r25 => if 0 ≤ r25.1 then (some ((nI 0), r25.2)) else (some ((nI 2), r25.2))) else ((f_X7_turns F (z5.2 40 10) (z11.2 40 10) z11.2).bind fun r27 => if 0 ≤ r27.1 then (some ((nI 0), r27.2)) else (some ((nI 2), r27.2))))))))))))
set_option maxRecDepth 100000 in
set_option maxHeartbeats 4000000 in
theorem k_X7_doesNext (l : Launch) (D : va_G) (cy : Nat → ClassId) (q : Nat → Nat) (F : Nat) (M : Mm) (rv : Int32) (M' : Mm) (h0 : f_X7_doesNext F M = some (rv, M')) : KI l yX7_doesNext (Cond.code yX7_doesNext cX7_doesNext 7 (Option.some FieldType.int) :: gw) rm_X7_doesNext D cy q [.ref (q 40)] M rv M' := by
  refine KI.mk (L0 := [(0, .ref (q 40))]) (by decide +kernel) rfl (Nat.le_of_ble_eq_true rfl) rfl rfl rfl ?_
  intro p e s m below meth c X0 hr hlk
  have X := Fx.gw (own := RX7) X0
  clear X0
  have h : Ok (f_X7_doesNext F M) (fun r => r = (rv, M')) := Ok.of h0 rfl
  clear h0
  delta f_X7_doesNext at h
  refine V_aload_n X dX7_doesNext_0 0 rfl rfl ?_
  refine G_7_7 X inX7 wFL_X7_118 dX7_doesNext_1 ?_
  refine V_istore_n (L' := [(1, .int (M 40 7)), (0, .ref (q 40))]) X dX7_doesNext_4 rfl (by decide) rfl ?_
  refine V_aload_n X dX7_doesNext_5 1 rfl rfl ?_
  obtain ⟨r1, e2, h⟩ := (Ok.bind h).ex
  refine C_Vi (As := []) (M' := M) (k0 := 40) X rfl rfl (cwV 0 X.1.2.2.2.2 (gw_V wML_X7_121 wIM_X7_sign wSE_X7_sign wIN_X7 (gw_c wCD_X7_sign)) rfl rfl rfl (by decide +kernel) ⟨Nat.le_of_ble_eq_true rfl, Nat.le_of_ble_eq_true rfl⟩) rfl rfl (Nat.le_of_ble_eq_true rfl) ⟨Nat.zero_le _, Nat.zero_le _⟩ (k_X7_sign l D cy q M r1 e2) dX7_doesNext_6 ?_
  refine V_istore_n (L' := [(2, .int r1), (1, .int (M 40 7)), (0, .ref (q 40))]) X dX7_doesNext_9 rfl (by decide) rfl ?_
  refine V_aload_n X dX7_doesNext_10 2 rfl rfl ?_
  refine V_ldc X wKI_X7_83 dX7_doesNext_11 ?_
  refine P_7_9 X inX7 wFL_X7_134 dX7_doesNext_13 ?_
  refine V_iload_n X dX7_doesNext_16 0 rfl rfl ?_
  refine V_bipush (v := (nI 43)) X dX7_doesNext_17 (by decide) ?_
  refine V_join X h (fun z3 => (up M 40 9 (-1000004 : Int32))) (fun z3 => [(0, .ref (q 40)), (1, .int (M 40 7)), (2, .int r1)]) (fun z3 => [.int z3]) 45 (fun z3 h => ?_) (fun h => ?_)
  · refine V_istore_n (L' := [(3, .int z3), (0, .ref (q 40)), (1, .int (M 40 7)), (2, .int r1)]) X dX7_doesNext_45 rfl (by decide) rfl ?_
    refine V_aload_n X dX7_doesNext_46 1 rfl rfl ?_
    refine V_dup X dX7_doesNext_47 rfl ?_
    refine G_7_7 X inX7 wFL_X7_118 dX7_doesNext_48 ?_
    refine V_iload_n X dX7_doesNext_51 0 rfl rfl ?_
    refine V_join X h (fun z4 => (up M 40 9 (-1000004 : Int32))) (fun z4 => [(0, .ref (q 40)), (1, .int (M 40 7)), (2, .int r1), (3, .int z3)]) (fun z4 => [.int z4, .int ((up M 40 9 (-1000004 : Int32)) 40 7), .ref (q 40)]) 60 (fun z4 h => ?_) (fun h => ?_)
    · refine V_iadd X dX7_doesNext_60 ?_
      refine P_7_7 X inX7 wFL_X7_118 dX7_doesNext_61 ?_
      refine V_iload_n X dX7_doesNext_64 3 rfl rfl ?_
      refine V_join X h (fun z5 => z5.2) (fun z5 => [(0, .ref (q 40)), (1, .int (M 40 7)), (2, .int r1)]) (fun z5 => [.int z5.1]) 80 (fun z5 h => ?_) (fun h => ?_)
      · refine V_istore_n (L' := [(3, .int z5.1), (0, .ref (q 40)), (1, .int (M 40 7)), (2, .int r1)]) X dX7_doesNext_80 rfl (by decide) rfl ?_
        refine V_aload_n X dX7_doesNext_81 1 rfl rfl ?_
        refine G_7_10 X inX7 wFL_X7_124 dX7_doesNext_82 ?_
        refine V_istore (L' := [(4, .int (z5.2 40 10)), (3, .int z5.1), (0, .ref (q 40)), (1, .int (M 40 7)), (2, .int r1)]) X dX7_doesNext_85 (by decide) rfl ?_
        refine V_iload_n X dX7_doesNext_87 1 rfl rfl ?_
        refine V_join X h (fun z8 => z8.2) (fun z8 => [(0, .ref (q 40)), (1, .int (M 40 7)), (2, .int r1), (4, .int (z5.2 40 10))]) (fun z8 => [.int z8.1]) 105 (fun z8 h => ?_) (fun h => ?_)
        · refine V_istore_n (L' := [(3, .int z8.1), (0, .ref (q 40)), (1, .int (M 40 7)), (2, .int r1), (4, .int (z5.2 40 10))]) X dX7_doesNext_105 rfl (by decide) rfl ?_
          refine V_aload_n X dX7_doesNext_106 1 rfl rfl ?_
          refine G_7_7 X inX7 wFL_X7_118 dX7_doesNext_107 ?_
          refine V_istore (L' := [(5, .int (z8.2 40 7)), (3, .int z8.1), (0, .ref (q 40)), (1, .int (M 40 7)), (2, .int r1), (4, .int (z5.2 40 10))]) X dX7_doesNext_110 (by decide) rfl ?_
          refine V_iload_n X dX7_doesNext_112 1 rfl rfl ?_
          refine V_join X h (fun z11 => z11.2) (fun z11 => [(0, .ref (q 40)), (1, .int (M 40 7)), (2, .int r1), (4, .int (z5.2 40 10)), (5, .int (z8.2 40 7))]) (fun z11 => [.int z11.1]) 153 (fun z11 h => ?_) (fun h => ?_)
          · refine V_istore_n (L' := [(3, .int z11.1), (0, .ref (q 40)), (1, .int (M 40 7)), (2, .int r1), (4, .int (z5.2 40 10)), (5, .int (z8.2 40 7))]) X dX7_doesNext_153 rfl (by decide) rfl ?_
            refine V_iload_n X dX7_doesNext_154 0 rfl rfl ?_
            refine B_if_ne X 170 dX7_doesNext_155 (by decide) h (fun h => ?_) (fun h => ?_)
            · refine V_aload_n X dX7_doesNext_170 1 rfl rfl ?_
              refine G_7_10 X inX7 wFL_X7_124 dX7_doesNext_171 ?_
              refine V_istore (L' := [(6, .int (z11.2 40 10)), (3, .int z11.1), (0, .ref (q 40)), (1, .int (M 40 7)), (2, .int r1), (4, .int (z5.2 40 10)), (5, .int (z8.2 40 7))]) X dX7_doesNext_174 (by decide) rfl ?_
              refine V_iload_n X dX7_doesNext_176 4 rfl rfl ?_
              by_cases g18 : r1 = nI 43
              · have h := h.pos g18
                refine V_lookup X 212 dX7_doesNext_177 (by decide) (by rw [g18] <;> rfl) (by decide) ?_
                refine V_aload_n X dX7_doesNext_212 2 rfl rfl ?_
                refine V_iload X dX7_doesNext_213 5 rfl ?_
                refine V_iload X dX7_doesNext_215 6 rfl ?_
                refine V_aload_n X dX7_doesNext_217 2 rfl rfl ?_
                refine G_7_7 X inX7 wFL_X7_118 dX7_doesNext_218 ?_
                refine V_iconst (v := (nI 1)) X dX7_doesNext_221 (by decide) ?_
                refine V_isub X dX7_doesNext_222 ?_
                obtain ⟨r19, e20, h⟩ := (Ok.bind h).ex
                refine C_Vi (As := [.int (z5.2 40 10), .int (z8.2 40 7), .int ((z11.2 40 7) - (nI 1))]) (M' := r19.2) (k0 := 40) X rfl rfl (cwV 3 X.1.2.2.2.2 (gw_V wML_X7_144 wIM_X7_putsAll wSE_X7_putsAll wIN_X7 (gw_c wCD_X7_putsAll)) rfl rfl rfl (by decide +kernel) ⟨Nat.le_of_ble_eq_true rfl, Nat.le_of_ble_eq_true rfl⟩) rfl rfl (Nat.le_of_ble_eq_true rfl) ⟨Nat.zero_le _, Nat.zero_le _⟩ (k_X7_putsAll l D cy q F (z5.2 40 10) (z8.2 40 7) ((z11.2 40 7) - (nI 1)) z11.2 r19.1 r19.2 e20) dX7_doesNext_223 ?_
                have h : (r19.1, r19.2) = (rv, M') := h
                exact R_i X hr hlk (congrArg Prod.fst h) (congrArg Prod.snd h) dX7_doesNext_226
              have h := h.neg g18
              by_cases g21 : r1 = nI 45
              · have h := h.pos g21
                refine V_lookup X 227 dX7_doesNext_177 (by decide) (by rw [g21] <;> rfl) (by decide) ?_
                refine V_aload_n X dX7_doesNext_227 2 rfl rfl ?_
                refine V_iload X dX7_doesNext_228 5 rfl ?_
                refine V_iload X dX7_doesNext_230 0 rfl ?_
                obtain ⟨r22, e23, h⟩ := (Ok.bind h).ex
                refine C_Vi (As := [.int (z5.2 40 10), .int (z11.2 40 10)]) (M' := r22.2) (k0 := 40) X rfl rfl (cwV 2 X.1.2.2.2.2 (gw_V wML_X7_148 wIM_X7_takesAll wSE_X7_takesAll wIN_X7 (gw_c wCD_X7_takesAll)) rfl rfl rfl (by decide +kernel) ⟨Nat.le_of_ble_eq_true rfl, Nat.le_of_ble_eq_true rfl⟩) rfl rfl (Nat.le_of_ble_eq_true rfl) ⟨Nat.zero_le _, Nat.zero_le _⟩ (k_X7_takesAll l D cy q F (z5.2 40 10) (z11.2 40 10) z11.2 r22.1 r22.2 e23) dX7_doesNext_232 ?_
                have h : (r22.1, r22.2) = (rv, M') := h
                exact R_i X hr hlk (congrArg Prod.fst h) (congrArg Prod.snd h) dX7_doesNext_235
              have h := h.neg g21
              by_cases g24 : r1 = nI 120
              · have h := h.pos g24
                refine V_lookup X 236 dX7_doesNext_177 (by decide) (by rw [g24] <;> rfl) (by decide) ?_
                refine V_aload_n X dX7_doesNext_236 2 rfl rfl ?_
                refine V_iload X dX7_doesNext_237 5 rfl ?_
                refine V_iload X dX7_doesNext_239 0 rfl ?_
                obtain ⟨r25, e26, h⟩ := (Ok.bind h).ex
                refine C_Vi (As := [.int (z5.2 40 10), .int (z11.2 40 10)]) (M' := r25.2) (k0 := 40) X rfl rfl (cwV 2 X.1.2.2.2.2 (gw_V wML_X7_66 wIM_X7_swaps wSE_X7_swaps wIN_X7 (gw_c wCD_X7_swaps)) rfl rfl rfl (by decide +kernel) ⟨Nat.le_of_ble_eq_true rfl, Nat.le_of_ble_eq_true rfl⟩) rfl rfl (Nat.le_of_ble_eq_true rfl) ⟨Nat.zero_le _, Nat.zero_le _⟩ (k_X7_swaps l D cy q (z5.2 40 10) (z11.2 40 10) z11.2 r25.1 r25.2 e26) dX7_doesNext_241 ?_
                refine B_if_ge X 251 dX7_doesNext_244 (by decide) h (fun h => ?_) (fun h => ?_)
                · refine V_iconst (v := (nI 0)) X dX7_doesNext_251 (by decide) ?_
                  have h : ((nI 0), r25.2) = (rv, M') := h
                  exact R_i X hr hlk (congrArg Prod.fst h) (congrArg Prod.snd h) dX7_doesNext_252
                · refine V_iconst (v := (nI 2)) X dX7_doesNext_247 (by decide) ?_
                  refine V_goto X 252 dX7_doesNext_248 (by decide) ?_
                  have h : ((nI 2), r25.2) = (rv, M') := h
                  exact R_i X hr hlk (congrArg Prod.fst h) (congrArg Prod.snd h) dX7_doesNext_252
              have h := h.neg g24
              refine V_lookup (off := 76) X 253 dX7_doesNext_177 (by decide) ((lv_osw g18 rfl).trans ((lv_osw g21 rfl).trans ((lv_osw g24 rfl).trans (rfl)))) (by decide) ?_
              refine V_aload_n X dX7_doesNext_253 2 rfl rfl ?_
              refine V_iload X dX7_doesNext_254 5 rfl ?_
              refine V_iload X dX7_doesNext_256 0 rfl ?_
              obtain ⟨r27, e28, h⟩ := (Ok.bind h).ex
              refine C_Vi (As := [.int (z5.2 40 10), .int (z11.2 40 10)]) (M' := r27.2) (k0 := 40) X rfl rfl (cwV 2 X.1.2.2.2.2 (gw_V wML_X7_73 wIM_X7_turns wSE_X7_turns wIN_X7 (gw_c wCD_X7_turns)) rfl rfl rfl (by decide +kernel) ⟨Nat.le_of_ble_eq_true rfl, Nat.le_of_ble_eq_true rfl⟩) rfl rfl (Nat.le_of_ble_eq_true rfl) ⟨Nat.zero_le _, Nat.zero_le _⟩ (k_X7_turns l D cy q F (z5.2 40 10) (z11.2 40 10) z11.2 r27.1 r27.2 e28) dX7_doesNext_258 ?_
              refine B_if_ge X 268 dX7_doesNext_261 (by decide) h (fun h => ?_) (fun h => ?_)
              · refine V_iconst (v := (nI 0)) X dX7_doesNext_268 (by decide) ?_
                have h : ((nI 0), r27.2) = (rv, M') := h
                exact R_i X hr hlk (congrArg Prod.fst h) (congrArg Prod.snd h) dX7_doesNext_269
              · refine V_iconst (v := (nI 2)) X dX7_doesNext_264 (by decide) ?_
                refine V_goto X 269 dX7_doesNext_265 (by decide) ?_
                have h : ((nI 2), r27.2) = (rv, M') := h
                exact R_i X hr hlk (congrArg Prod.fst h) (congrArg Prod.snd h) dX7_doesNext_269
            · refine V_aload_n X dX7_doesNext_158 1 rfl rfl ?_
              refine V_aload_n X dX7_doesNext_159 1 rfl rfl ?_
              refine G_7_7 X inX7 wFL_X7_118 dX7_doesNext_160 ?_
              refine V_iload_n X dX7_doesNext_163 2 rfl rfl ?_
              refine V_isub X dX7_doesNext_164 ?_
              refine P_7_9 X inX7 wFL_X7_134 dX7_doesNext_165 ?_
              refine V_iconst (v := (nI 1)) X dX7_doesNext_168 (by decide) ?_
              have h : ((nI 1), (up z11.2 40 9 ((z11.2 40 7) - (M 40 7)))) = (rv, M') := h
              exact R_i X hr hlk (congrArg Prod.fst h) (congrArg Prod.snd h) dX7_doesNext_169
          · refine B_if_eq X 152 dX7_doesNext_113 (by decide) h (fun h => ?_) (fun h => ?_)
            · refine V_iconst (v := (nI 0)) X dX7_doesNext_152 (by decide) ?_
              exact V_sub [2, 3, 4, 5, 0] rfl h
            · refine V_iload_n X dX7_doesNext_116 4 rfl rfl ?_
              refine V_bipush (v := (nI 43)) X dX7_doesNext_117 (by decide) ?_
              refine B_icmp_ne X 132 dX7_doesNext_119 (by decide) h (fun h => ?_) (fun h => ?_)
              · refine V_aload_n X dX7_doesNext_132 2 rfl rfl ?_
                obtain ⟨r12, e13, h⟩ := (Ok.bind h).ex
                refine C_Vi (As := []) (M' := r12.2) (k0 := 40) X rfl rfl (cwV 0 X.1.2.2.2.2 (gw_V wML_X7_137 wIM_X7_readsNumber wSE_X7_readsNumber wIN_X7 (gw_c wCD_X7_readsNumber)) rfl rfl rfl (by decide +kernel) ⟨Nat.le_of_ble_eq_true rfl, Nat.le_of_ble_eq_true rfl⟩) rfl rfl (Nat.le_of_ble_eq_true rfl) ⟨Nat.zero_le _, Nat.zero_le _⟩ (k_X7_readsNumber l D cy q F z8.2 r12.1 r12.2 e13) dX7_doesNext_133 ?_
                refine B_if_eq X 152 dX7_doesNext_136 (by decide) h (fun h => ?_) (fun h => ?_)
                · refine V_iconst (v := (nI 0)) X dX7_doesNext_152 (by decide) ?_
                  exact V_sub [2, 3, 4, 5, 0] rfl h
                · refine V_aload_n X dX7_doesNext_139 2 rfl rfl ?_
                  refine V_bipush (v := (nI 59)) X dX7_doesNext_140 (by decide) ?_
                  obtain ⟨r14, e15, h⟩ := (Ok.bind h).ex
                  refine C_Vi (As := [.int (nI 59)]) (M' := r14.2) (k0 := 40) X rfl rfl (cwV 1 X.1.2.2.2.2 (gw_V wML_X7_130 wIM_X7_reads wSE_X7_reads wIN_X7 (gw_c wCD_X7_reads)) rfl rfl rfl (by decide +kernel) ⟨Nat.le_of_ble_eq_true rfl, Nat.le_of_ble_eq_true rfl⟩) rfl rfl (Nat.le_of_ble_eq_true rfl) ⟨Nat.zero_le _, Nat.zero_le _⟩ (k_X7_reads l D cy q (nI 59) r12.2 r14.1 r14.2 e15) dX7_doesNext_142 ?_
                  refine B_if_eq X 152 dX7_doesNext_145 (by decide) h (fun h => ?_) (fun h => ?_)
                  · refine V_iconst (v := (nI 0)) X dX7_doesNext_152 (by decide) ?_
                    exact V_sub [2, 3, 4, 5, 0] rfl h
                  · refine V_iconst (v := (nI 1)) X dX7_doesNext_148 (by decide) ?_
                    refine V_goto X 153 dX7_doesNext_149 (by decide) ?_
                    exact V_sub [2, 3, 4, 5, 0] rfl h
              · refine V_aload_n X dX7_doesNext_122 2 rfl rfl ?_
                obtain ⟨r16, e17, h⟩ := (Ok.bind h).ex
                refine C_Vi (As := []) (M' := r16.2) (k0 := 40) X rfl rfl (cwV 0 X.1.2.2.2.2 (gw_V wML_X7_141 wIM_X7_readsSymbols wSE_X7_readsSymbols wIN_X7 (gw_c wCD_X7_readsSymbols)) rfl rfl rfl (by decide +kernel) ⟨Nat.le_of_ble_eq_true rfl, Nat.le_of_ble_eq_true rfl⟩) rfl rfl (Nat.le_of_ble_eq_true rfl) ⟨Nat.zero_le _, Nat.zero_le _⟩ (k_X7_readsSymbols l D cy q F z8.2 r16.1 r16.2 e17) dX7_doesNext_123 ?_
                refine B_if_eq X 152 dX7_doesNext_126 (by decide) h (fun h => ?_) (fun h => ?_)
                · refine V_iconst (v := (nI 0)) X dX7_doesNext_152 (by decide) ?_
                  exact V_sub [2, 3, 4, 5, 0] rfl h
                · refine V_goto X 148 dX7_doesNext_129 (by decide) ?_
                  refine V_iconst (v := (nI 1)) X dX7_doesNext_148 (by decide) ?_
                  refine V_goto X 153 dX7_doesNext_149 (by decide) ?_
                  exact V_sub [2, 3, 4, 5, 0] rfl h
        · refine B_if_eq X 104 dX7_doesNext_88 (by decide) h (fun h => ?_) (fun h => ?_)
          · refine V_iconst (v := (nI 0)) X dX7_doesNext_104 (by decide) ?_
            exact V_sub [2, 3, 4, 0] rfl h
          · refine V_aload_n X dX7_doesNext_91 2 rfl rfl ?_
            refine V_bipush (v := (nI 44)) X dX7_doesNext_92 (by decide) ?_
            obtain ⟨r9, e10, h⟩ := (Ok.bind h).ex
            refine C_Vi (As := [.int (nI 44)]) (M' := r9.2) (k0 := 40) X rfl rfl (cwV 1 X.1.2.2.2.2 (gw_V wML_X7_130 wIM_X7_reads wSE_X7_reads wIN_X7 (gw_c wCD_X7_reads)) rfl rfl rfl (by decide +kernel) ⟨Nat.le_of_ble_eq_true rfl, Nat.le_of_ble_eq_true rfl⟩) rfl rfl (Nat.le_of_ble_eq_true rfl) ⟨Nat.zero_le _, Nat.zero_le _⟩ (k_X7_reads l D cy q (nI 44) z5.2 r9.1 r9.2 e10) dX7_doesNext_94 ?_
            refine B_if_eq X 104 dX7_doesNext_97 (by decide) h (fun h => ?_) (fun h => ?_)
            · refine V_iconst (v := (nI 0)) X dX7_doesNext_104 (by decide) ?_
              exact V_sub [2, 3, 4, 0] rfl h
            · refine V_iconst (v := (nI 1)) X dX7_doesNext_100 (by decide) ?_
              refine V_goto X 105 dX7_doesNext_101 (by decide) ?_
              exact V_sub [2, 3, 4, 0] rfl h
      · refine B_if_eq X 79 dX7_doesNext_65 (by decide) h (fun h => ?_) (fun h => ?_)
        · refine V_iconst (v := (nI 0)) X dX7_doesNext_79 (by decide) ?_
          exact V_sub [0, 1, 2] rfl h
        · refine V_aload_n X dX7_doesNext_68 0 rfl rfl ?_
          obtain ⟨r6, e7, h⟩ := (Ok.bind h).ex
          refine C_Vi (As := []) (M' := r6.2) (k0 := 40) X rfl rfl (cwV 0 X.1.2.2.2.2 (gw_V wML_X7_137 wIM_X7_readsNumber wSE_X7_readsNumber wIN_X7 (gw_c wCD_X7_readsNumber)) rfl rfl rfl (by decide +kernel) ⟨Nat.le_of_ble_eq_true rfl, Nat.le_of_ble_eq_true rfl⟩) rfl rfl (Nat.le_of_ble_eq_true rfl) ⟨Nat.zero_le _, Nat.zero_le _⟩ (k_X7_readsNumber l D cy q F (up (up M 40 9 (-1000004 : Int32)) 40 7 (((up M 40 9 (-1000004 : Int32)) 40 7) + z4)) r6.1 r6.2 e7) dX7_doesNext_69 ?_
          refine B_if_eq X 79 dX7_doesNext_72 (by decide) h (fun h => ?_) (fun h => ?_)
          · refine V_iconst (v := (nI 0)) X dX7_doesNext_79 (by decide) ?_
            exact V_sub [0, 1, 2] rfl h
          · refine V_iconst (v := (nI 1)) X dX7_doesNext_75 (by decide) ?_
            refine V_goto X 80 dX7_doesNext_76 (by decide) ?_
            exact V_sub [0, 1, 2] rfl h
    · refine B_if_eq X 59 dX7_doesNext_52 (by decide) h (fun h => ?_) (fun h => ?_)
      · refine V_iconst (v := (nI 0)) X dX7_doesNext_59 (by decide) ?_
        exact V_sub [1, 2, 3, 0] rfl h
      · refine V_iconst (v := (nI 1)) X dX7_doesNext_55 (by decide) ?_
        refine V_goto X 60 dX7_doesNext_56 (by decide) ?_
        exact V_sub [1, 2, 3, 0] rfl h
  · refine B_icmp_eq X 40 dX7_doesNext_19 (by decide) h (fun h => ?_) (fun h => ?_)
    · refine V_iconst (v := (nI 1)) X dX7_doesNext_40 (by decide) ?_
      refine V_goto X 45 dX7_doesNext_41 (by decide) ?_
      exact V_sub [2, 1, 0] rfl h
    · refine V_iload_n X dX7_doesNext_22 0 rfl rfl ?_
      refine V_bipush (v := (nI 45)) X dX7_doesNext_23 (by decide) ?_
      refine B_icmp_eq X 40 dX7_doesNext_25 (by decide) h (fun h => ?_) (fun h => ?_)
      · refine V_iconst (v := (nI 1)) X dX7_doesNext_40 (by decide) ?_
        refine V_goto X 45 dX7_doesNext_41 (by decide) ?_
        exact V_sub [2, 1, 0] rfl h
      · refine V_iload_n X dX7_doesNext_28 0 rfl rfl ?_
        refine V_bipush (v := (nI 120)) X dX7_doesNext_29 (by decide) ?_
        refine B_icmp_eq X 40 dX7_doesNext_31 (by decide) h (fun h => ?_) (fun h => ?_)
        · refine V_iconst (v := (nI 1)) X dX7_doesNext_40 (by decide) ?_
          refine V_goto X 45 dX7_doesNext_41 (by decide) ?_
          exact V_sub [2, 1, 0] rfl h
        · refine V_iload_n X dX7_doesNext_34 0 rfl rfl ?_
          refine V_bipush (v := (nI 114)) X dX7_doesNext_35 (by decide) ?_
          refine B_icmp_ne X 44 dX7_doesNext_37 (by decide) h (fun h => ?_) (fun h => ?_)
          · refine V_iconst (v := (nI 0)) X dX7_doesNext_44 (by decide) ?_
            exact V_sub [2, 1, 0] rfl h
          · refine V_iconst (v := (nI 1)) X dX7_doesNext_40 (by decide) ?_
            refine V_goto X 45 dX7_doesNext_41 (by decide) ?_
            exact V_sub [2, 1, 0] rfl h
