def rm_X6_undo : Room := { frames := 2, cells := 0, slots := 0, locals := 43 }
def f_X6_undo (F : Nat) (M : Mm) : Option (Int32 × Mm) :=
  (f_X0_size M).bind fun r1 => if r1 = 0 then (some ((-1000002 : Int32), M)) else ((f_X0_restore F 1 M).bind fun r3 => (f_X0_size r3).bind fun r5 => some (r5, r3))
set_option maxRecDepth 100000 in
set_option maxHeartbeats 4000000 in
theorem k_X6_undo (l : Launch) (D : va_G) (cy : Nat → ClassId) (q : Nat → Nat) (F : Nat) (M : Mm) (rv : Int32) (M' : Mm) (h0 : f_X6_undo F M = some (rv, M')) : KI l yX6_undo (Cond.code yX6_undo cX6_undo 1 (Option.some FieldType.int) :: gw) rm_X6_undo D cy q [.ref (q 0)] M rv M' := by
  refine KI.mk (L0 := [(0, .ref (q 0))]) (by decide +kernel) rfl (Nat.le_of_ble_eq_true rfl) rfl rfl rfl ?_
  intro p e s m below meth c X0 hr hlk
  have X := Fx.gw (own := RX6) X0
  clear X0
  have h : Ok (f_X6_undo F M) (fun r => r = (rv, M')) := Ok.of h0 rfl
  clear h0
  delta f_X6_undo at h
  refine V_aload_n X dX6_undo_0 0 rfl rfl ?_
  refine G_6_1 X inX6 wFL_X6_19 dX6_undo_1 ?_
  obtain ⟨r1, e2, h⟩ := (Ok.bind h).ex
  refine C_Vi (As := []) (M' := M) (k0 := 13) X rfl rfl (cwV 0 X.1.2.2.2.2 (gw_V wML_X6_186 wIM_X0_size wSE_X0_size wIN_X0 (gw_c wCD_X0_size)) rfl rfl rfl (by decide +kernel) ⟨Nat.le_of_ble_eq_true rfl, Nat.le_of_ble_eq_true rfl⟩) rfl rfl (Nat.le_of_ble_eq_true rfl) ⟨Nat.zero_le _, Nat.zero_le _⟩ (k_X0_size l D cy q M r1 e2) dX6_undo_4 ?_
  refine B_if_ne X 13 dX6_undo_7 (by decide) h (fun h => ?_) (fun h => ?_)
  · refine V_aload_n X dX6_undo_13 0 rfl rfl ?_
    refine G_6_1 X inX6 wFL_X6_19 dX6_undo_14 ?_
    refine V_aload_n X dX6_undo_17 0 rfl rfl ?_
    refine G_6_0 X inX6 wFL_X6_10 dX6_undo_18 ?_
    obtain ⟨r3, e4, h⟩ := (Ok.bind h).ex
    refine C_Vv (As := [.ref (q 1)]) (M' := r3) (k0 := 13) X rfl rfl (cwV 1 X.1.2.2.2.2 (gw_V wML_X6_193 wIM_X0_restore wSE_X0_restore wIN_X0 (gw_c wCD_X0_restore)) rfl rfl rfl (by decide +kernel) ⟨Nat.le_of_ble_eq_true rfl, Nat.le_of_ble_eq_true rfl⟩) rfl rfl (Nat.le_of_ble_eq_true rfl) ⟨Nat.zero_le _, Nat.zero_le _⟩ (k_X0_restore l D cy q F 1 row_1 M r3 e4) dX6_undo_21 ?_
    refine V_aload_n X dX6_undo_24 0 rfl rfl ?_
    refine G_6_1 X inX6 wFL_X6_19 dX6_undo_25 ?_
    obtain ⟨r5, e6, h⟩ := (Ok.bind h).ex
    refine C_Vi (As := []) (M' := r3) (k0 := 13) X rfl rfl (cwV 0 X.1.2.2.2.2 (gw_V wML_X6_186 wIM_X0_size wSE_X0_size wIN_X0 (gw_c wCD_X0_size)) rfl rfl rfl (by decide +kernel) ⟨Nat.le_of_ble_eq_true rfl, Nat.le_of_ble_eq_true rfl⟩) rfl rfl (Nat.le_of_ble_eq_true rfl) ⟨Nat.zero_le _, Nat.zero_le _⟩ (k_X0_size l D cy q r3 r5 e6) dX6_undo_28 ?_
    have h : (r5, r3) = (rv, M') := h
    exact R_i X hr hlk (congrArg Prod.fst h) (congrArg Prod.snd h) dX6_undo_31
  · refine V_ldc X wKI_X6_192 dX6_undo_10 ?_
    have h : ((-1000002 : Int32), M) = (rv, M') := h
    exact R_i X hr hlk (congrArg Prod.fst h) (congrArg Prod.snd h) dX6_undo_12
def rm_X5_append : Room := { frames := 0, cells := 0, slots := 0, locals := 0 }
def f_X5_append (a1 : Int32) (M : Mm) : Option (Mm) :=
  if (nI 60) ≤ (M 37 1) then (some M) else (if inb (M 37 1) 60 = true then some (up (up M 38 (Int32.toNatClampNeg (M 37 1)) (vp_nar .char a1)) 37 1 (((up M 38 (Int32.toNatClampNeg (M 37 1)) (vp_nar .char a1)) 37 1) + (nI 1))) else none)
set_option maxRecDepth 100000 in
set_option maxHeartbeats 4000000 in
theorem k_X5_append (l : Launch) (D : va_G) (cy : Nat → ClassId) (q : Nat → Nat) (a1 : Int32) (M : Mm) (M' : Mm) (h0 : f_X5_append a1 M = some M') : KV l yX5_append (Cond.code yX5_append cX5_append 2 none :: gw) rm_X5_append D cy q [.ref (q 37), .int a1] M M' := by
  refine KV.mk (L0 := [(0, .ref (q 37)), (1, .int a1)]) (by decide +kernel) rfl (Nat.le_of_ble_eq_true rfl) rfl rfl rfl ?_
  intro p e s m below meth c X0 hr hlk
  have X := Fx.gw (own := RX5) X0
  clear X0
  have h : Ok (f_X5_append a1 M) (fun r => r = M') := Ok.of h0 rfl
  clear h0
  delta f_X5_append at h
  refine V_aload_n X dX5_append_0 0 rfl rfl ?_
  refine G_5_1 X inX5 wFL_X5_15 dX5_append_1 ?_
  refine V_bipush (v := (nI 60)) X dX5_append_4 (by decide) ?_
  refine B_icmp_ge X 29 dX5_append_6 (by decide) h (fun h => ?_) (fun h => ?_)
  · have h : M = M' := h
    exact R_v X hr hlk h dX5_append_29
  · refine V_aload_n X dX5_append_9 0 rfl rfl ?_
    refine G_5_0 X inX5 wFL_X5_9 dX5_append_10 ?_
    refine V_aload_n X dX5_append_13 0 rfl rfl ?_
    refine G_5_1 X inX5 wFL_X5_15 dX5_append_14 ?_
    refine V_iload_n X dX5_append_17 1 rfl rfl ?_
    refine A_c38_st X h dX5_append_18 (fun hb1 h => ?_)
    refine V_aload_n X dX5_append_19 0 rfl rfl ?_
    refine V_dup X dX5_append_20 rfl ?_
    refine G_5_1 X inX5 wFL_X5_15 dX5_append_21 ?_
    refine V_iconst (v := (nI 1)) X dX5_append_24 (by decide) ?_
    refine V_iadd X dX5_append_25 ?_
    refine P_5_1 X inX5 wFL_X5_15 dX5_append_26 ?_
    have h : (up (up M 38 (Int32.toNatClampNeg (M 37 1)) (vp_nar .char a1)) 37 1 (((up M 38 (Int32.toNatClampNeg (M 37 1)) (vp_nar .char a1)) 37 1) + (nI 1))) = M' := h
    exact R_v X hr hlk h dX5_append_29
def rm_X6_type : Room := { frames := 1, cells := 0, slots := 0, locals := 21 }
def f_X6_type (a1 : Int32) (M : Mm) : Option (Int32 × Mm) :=
  if a1 < (nI 32) then (some ((-1000001 : Int32), M)) else (if a1 ≤ (nI 126) then ((f_X5_length M).bind fun r1 => if r1 < (nI 60) then ((f_X5_append (((Int32.toUInt32 a1) % 65536).toInt32) M).bind fun r3 => (f_X5_length r3).bind fun r5 => some (r5, r3)) else (some ((-1000003 : Int32), M))) else (some ((-1000001 : Int32), M)))
set_option maxRecDepth 100000 in
set_option maxHeartbeats 4000000 in
theorem k_X6_type (l : Launch) (D : va_G) (cy : Nat → ClassId) (q : Nat → Nat) (a1 : Int32) (M : Mm) (rv : Int32) (M' : Mm) (h0 : f_X6_type a1 M = some (rv, M')) : KI l yX6_type (Cond.code yX6_type cX6_type 2 (Option.some FieldType.int) :: gw) rm_X6_type D cy q [.ref (q 0), .int a1] M rv M' := by
  refine KI.mk (L0 := [(0, .ref (q 0)), (1, .int a1)]) (by decide +kernel) rfl (Nat.le_of_ble_eq_true rfl) rfl rfl rfl ?_
  intro p e s m below meth c X0 hr hlk
  have X := Fx.gw (own := RX6) X0
  clear X0
  have h : Ok (f_X6_type a1 M) (fun r => r = (rv, M')) := Ok.of h0 rfl
  clear h0
  delta f_X6_type at h
  refine V_iload_n X dX6_type_0 1 rfl rfl ?_
  refine V_bipush (v := (nI 32)) X dX6_type_1 (by decide) ?_
  refine B_icmp_lt X 12 dX6_type_3 (by decide) h (fun h => ?_) (fun h => ?_)
  · refine V_ldc X wKI_X6_66 dX6_type_12 ?_
    have h : ((-1000001 : Int32), M) = (rv, M') := h
    exact R_i X hr hlk (congrArg Prod.fst h) (congrArg Prod.snd h) dX6_type_14
  · refine V_iload_n X dX6_type_6 1 rfl rfl ?_
    refine V_bipush (v := (nI 126)) X dX6_type_7 (by decide) ?_
    refine B_icmp_le X 15 dX6_type_9 (by decide) h (fun h => ?_) (fun h => ?_)
    · refine V_aload_n X dX6_type_15 0 rfl rfl ?_
      refine G_6_6 X inX6 wFL_X6_51 dX6_type_16 ?_
      obtain ⟨r1, e2, h⟩ := (Ok.bind h).ex
      refine C_Vi (As := []) (M' := M) (k0 := 37) X rfl rfl (cwV 0 X.1.2.2.2.2 (gw_V wML_X6_187 wIM_X5_length wSE_X5_length wIN_X5 (gw_c wCD_X5_length)) rfl rfl rfl (by decide +kernel) ⟨Nat.le_of_ble_eq_true rfl, Nat.le_of_ble_eq_true rfl⟩) rfl rfl (Nat.le_of_ble_eq_true rfl) ⟨Nat.zero_le _, Nat.zero_le _⟩ (k_X5_length l D cy q M r1 e2) dX6_type_19 ?_
      refine V_bipush (v := (nI 60)) X dX6_type_22 (by decide) ?_
      refine B_icmp_lt X 30 dX6_type_24 (by decide) h (fun h => ?_) (fun h => ?_)
      · refine V_aload_n X dX6_type_30 0 rfl rfl ?_
        refine G_6_6 X inX6 wFL_X6_51 dX6_type_31 ?_
        refine V_iload_n X dX6_type_34 1 rfl rfl ?_
        refine V_i2c X dX6_type_35 ?_
        obtain ⟨r3, e4, h⟩ := (Ok.bind h).ex
        refine C_Vv (As := [.int ((Int32.toUInt32 a1) % 65536).toInt32]) (M' := r3) (k0 := 37) X rfl rfl (cwV 1 X.1.2.2.2.2 (gw_V wML_X6_196 wIM_X5_append wSE_X5_append wIN_X5 (gw_c wCD_X5_append)) rfl rfl rfl (by decide +kernel) ⟨Nat.le_of_ble_eq_true rfl, Nat.le_of_ble_eq_true rfl⟩) rfl rfl (Nat.le_of_ble_eq_true rfl) ⟨Nat.zero_le _, Nat.zero_le _⟩ (k_X5_append l D cy q (((Int32.toUInt32 a1) % 65536).toInt32) M r3 e4) dX6_type_36 ?_
        refine V_aload_n X dX6_type_39 0 rfl rfl ?_
        refine G_6_6 X inX6 wFL_X6_51 dX6_type_40 ?_
        obtain ⟨r5, e6, h⟩ := (Ok.bind h).ex
        refine C_Vi (As := []) (M' := r3) (k0 := 37) X rfl rfl (cwV 0 X.1.2.2.2.2 (gw_V wML_X6_187 wIM_X5_length wSE_X5_length wIN_X5 (gw_c wCD_X5_length)) rfl rfl rfl (by decide +kernel) ⟨Nat.le_of_ble_eq_true rfl, Nat.le_of_ble_eq_true rfl⟩) rfl rfl (Nat.le_of_ble_eq_true rfl) ⟨Nat.zero_le _, Nat.zero_le _⟩ (k_X5_length l D cy q r3 r5 e6) dX6_type_43 ?_
        have h : (r5, r3) = (rv, M') := h
        exact R_i X hr hlk (congrArg Prod.fst h) (congrArg Prod.snd h) dX6_type_46
      · refine V_ldc X wKI_X6_67 dX6_type_27 ?_
        have h : ((-1000003 : Int32), M) = (rv, M') := h
        exact R_i X hr hlk (congrArg Prod.fst h) (congrArg Prod.snd h) dX6_type_29
    · refine V_ldc X wKI_X6_66 dX6_type_12 ?_
      have h : ((-1000001 : Int32), M) = (rv, M') := h
      exact R_i X hr hlk (congrArg Prod.fst h) (congrArg Prod.snd h) dX6_type_14
def rm_X5_empty : Room := { frames := 0, cells := 0, slots := 0, locals := 0 }
def f_X5_empty (M : Mm) : Option (Mm) :=
  some (up M 37 1 (nI 0))
set_option maxRecDepth 100000 in
set_option maxHeartbeats 4000000 in
theorem k_X5_empty (l : Launch) (D : va_G) (cy : Nat → ClassId) (q : Nat → Nat)  (M : Mm) (M' : Mm) (h0 : f_X5_empty M = some M') : KV l yX5_empty (Cond.code yX5_empty cX5_empty 1 none :: gw) rm_X5_empty D cy q [.ref (q 37)] M M' := by
  refine KV.mk (L0 := [(0, .ref (q 37))]) (by decide +kernel) rfl (Nat.le_of_ble_eq_true rfl) rfl rfl rfl ?_
  intro p e s m below meth c X0 hr hlk
  have X := Fx.gw (own := RX5) X0
  clear X0
  have h : Ok (f_X5_empty M) (fun r => r = M') := Ok.of h0 rfl
  clear h0
  delta f_X5_empty at h
  refine V_aload_n X dX5_empty_0 0 rfl rfl ?_
  refine V_iconst (v := (nI 0)) X dX5_empty_1 (by decide) ?_
  refine P_5_1 X inX5 wFL_X5_15 dX5_empty_2 ?_
  have h : (up M 37 1 (nI 0)) = M' := h
  exact R_v X hr hlk h dX5_empty_5
def rm_X6_clearText : Room := { frames := 1, cells := 0, slots := 0, locals := 20 }
def f_X6_clearText (M : Mm) : Option (Int32 × Mm) :=
  (f_X5_length M).bind fun r1 => (f_X5_empty M).bind fun r3 => some (r1, r3)
set_option maxRecDepth 100000 in
set_option maxHeartbeats 4000000 in
theorem k_X6_clearText (l : Launch) (D : va_G) (cy : Nat → ClassId) (q : Nat → Nat)  (M : Mm) (rv : Int32) (M' : Mm) (h0 : f_X6_clearText M = some (rv, M')) : KI l yX6_clearText (Cond.code yX6_clearText cX6_clearText 2 (Option.some FieldType.int) :: gw) rm_X6_clearText D cy q [.ref (q 0)] M rv M' := by
  refine KI.mk (L0 := [(0, .ref (q 0))]) (by decide +kernel) rfl (Nat.le_of_ble_eq_true rfl) rfl rfl rfl ?_
  intro p e s m below meth c X0 hr hlk
  have X := Fx.gw (own := RX6) X0
  clear X0
  have h : Ok (f_X6_clearText M) (fun r => r = (rv, M')) := Ok.of h0 rfl
  clear h0
  delta f_X6_clearText at h
  refine V_aload_n X dX6_clearText_0 0 rfl rfl ?_
  refine G_6_6 X inX6 wFL_X6_51 dX6_clearText_1 ?_
  obtain ⟨r1, e2, h⟩ := (Ok.bind h).ex
  refine C_Vi (As := []) (M' := M) (k0 := 37) X rfl rfl (cwV 0 X.1.2.2.2.2 (gw_V wML_X6_187 wIM_X5_length wSE_X5_length wIN_X5 (gw_c wCD_X5_length)) rfl rfl rfl (by decide +kernel) ⟨Nat.le_of_ble_eq_true rfl, Nat.le_of_ble_eq_true rfl⟩) rfl rfl (Nat.le_of_ble_eq_true rfl) ⟨Nat.zero_le _, Nat.zero_le _⟩ (k_X5_length l D cy q M r1 e2) dX6_clearText_4 ?_
  refine V_istore_n (L' := [(1, .int r1), (0, .ref (q 0))]) X dX6_clearText_7 rfl (by decide) rfl ?_
  refine V_aload_n X dX6_clearText_8 1 rfl rfl ?_
  refine G_6_6 X inX6 wFL_X6_51 dX6_clearText_9 ?_
  obtain ⟨r3, e4, h⟩ := (Ok.bind h).ex
  refine C_Vv (As := []) (M' := r3) (k0 := 37) X rfl rfl (cwV 0 X.1.2.2.2.2 (gw_V wML_X6_200 wIM_X5_empty wSE_X5_empty wIN_X5 (gw_c wCD_X5_empty)) rfl rfl rfl (by decide +kernel) ⟨Nat.le_of_ble_eq_true rfl, Nat.le_of_ble_eq_true rfl⟩) rfl rfl (Nat.le_of_ble_eq_true rfl) ⟨Nat.zero_le _, Nat.zero_le _⟩ (k_X5_empty l D cy q M r3 e4) dX6_clearText_12 ?_
  refine V_iload_n X dX6_clearText_15 0 rfl rfl ?_
  have h : (r1, r3) = (rv, M') := h
  exact R_i X hr hlk (congrArg Prod.fst h) (congrArg Prod.snd h) dX6_clearText_16
def rm_X5_at : Room := { frames := 0, cells := 0, slots := 0, locals := 0 }
def f_X5_at (a1 : Int32) (M : Mm) : Option (Int32) :=
  if a1 < 0 then (some (-1 : Int32)) else (if (M 37 1) ≤ a1 then (some (-1 : Int32)) else (if inb a1 60 = true then some (M 38 (Int32.toNatClampNeg a1)) else none))
set_option maxRecDepth 100000 in
set_option maxHeartbeats 4000000 in
theorem k_X5_at (l : Launch) (D : va_G) (cy : Nat → ClassId) (q : Nat → Nat) (a1 : Int32) (M : Mm) (rv : Int32) (h0 : f_X5_at a1 M = some rv) : KI l yX5_at (Cond.code yX5_at cX5_at 2 (Option.some FieldType.int) :: gw) rm_X5_at D cy q [.ref (q 37), .int a1] M rv M := by
  refine KI.mk (L0 := [(0, .ref (q 37)), (1, .int a1)]) (by decide +kernel) rfl (Nat.le_of_ble_eq_true rfl) rfl rfl rfl ?_
  intro p e s m below meth c X0 hr hlk
  have X := Fx.gw (own := RX5) X0
  clear X0
  have h : Ok (f_X5_at a1 M) (fun r => r = rv) := Ok.of h0 rfl
  clear h0
  delta f_X5_at at h
  refine V_iload_n X dX5_at_0 1 rfl rfl ?_
  refine B_if_lt X 21 dX5_at_1 (by decide) h (fun h => ?_) (fun h => ?_)
  · refine V_iconst (v := (-1 : Int32)) X dX5_at_21 (by decide) ?_
    have h : (-1 : Int32) = rv := h
    exact R_i X hr hlk h rfl dX5_at_22
  · refine V_iload_n X dX5_at_4 1 rfl rfl ?_
    refine V_aload_n X dX5_at_5 0 rfl rfl ?_
    refine G_5_1 X inX5 wFL_X5_15 dX5_at_6 ?_
    refine B_icmp_ge X 21 dX5_at_9 (by decide) h (fun h => ?_) (fun h => ?_)
    · refine V_iconst (v := (-1 : Int32)) X dX5_at_21 (by decide) ?_
      have h : (-1 : Int32) = rv := h
      exact R_i X hr hlk h rfl dX5_at_22
    · refine V_aload_n X dX5_at_12 0 rfl rfl ?_
      refine G_5_0 X inX5 wFL_X5_9 dX5_at_13 ?_
      refine V_iload_n X dX5_at_16 1 rfl rfl ?_
      refine A_c38_ld X h dX5_at_17 (fun hb1 h => ?_)
      refine V_goto X 22 dX5_at_18 (by decide) ?_
      have h : (M 38 (Int32.toNatClampNeg a1)) = rv := h
      exact R_i X hr hlk h rfl dX5_at_22
def rm_X5_digitOf : Room := { frames := 0, cells := 0, slots := 0, locals := 0 }
def f_X5_digitOf (a0 : Int32) : Option (Int32) :=
  if a0 < (nI 48) then (some (-1 : Int32)) else (if (nI 57) < a0 then (some (-1 : Int32)) else (some (a0 - (nI 48))))
set_option maxRecDepth 100000 in
set_option maxHeartbeats 4000000 in
theorem k_X5_digitOf (l : Launch) (D : va_G) (cy : Nat → ClassId) (q : Nat → Nat) (a0 : Int32) (M : Mm) (rv : Int32) (h0 : f_X5_digitOf a0 = some rv) : KI l yX5_digitOf (Cond.code yX5_digitOf cX5_digitOf 1 (Option.some FieldType.int) :: gw) rm_X5_digitOf D cy q [.int a0] M rv M := by
  refine KI.mk (L0 := [(0, .int a0)]) (by decide +kernel) rfl (Nat.le_of_ble_eq_true rfl) rfl rfl rfl ?_
  intro p e s m below meth c X0 hr hlk
  have X := Fx.gw (own := RX5) X0
  clear X0
  have h : Ok (f_X5_digitOf a0) (fun r => r = rv) := Ok.of h0 rfl
  clear h0
  delta f_X5_digitOf at h
  refine V_iload_n X dX5_digitOf_0 0 rfl rfl ?_
  refine V_bipush (v := (nI 48)) X dX5_digitOf_1 (by decide) ?_
  refine B_icmp_lt X 19 dX5_digitOf_3 (by decide) h (fun h => ?_) (fun h => ?_)
  · refine V_iconst (v := (-1 : Int32)) X dX5_digitOf_19 (by decide) ?_
    have h : (-1 : Int32) = rv := h
    exact R_i X hr hlk h rfl dX5_digitOf_20
  · refine V_iload_n X dX5_digitOf_6 0 rfl rfl ?_
    refine V_bipush (v := (nI 57)) X dX5_digitOf_7 (by decide) ?_
    refine B_icmp_gt X 19 dX5_digitOf_9 (by decide) h (fun h => ?_) (fun h => ?_)
    · refine V_iconst (v := (-1 : Int32)) X dX5_digitOf_19 (by decide) ?_
      have h : (-1 : Int32) = rv := h
      exact R_i X hr hlk h rfl dX5_digitOf_20
    · refine V_iload_n X dX5_digitOf_12 0 rfl rfl ?_
      refine V_bipush (v := (nI 48)) X dX5_digitOf_13 (by decide) ?_
      refine V_isub X dX5_digitOf_15 ?_
      refine V_goto X 20 dX5_digitOf_16 (by decide) ?_
      have h : (a0 - (nI 48)) = rv := h
      exact R_i X hr hlk h rfl dX5_digitOf_20
def rm_X5_digitAt : Room := { frames := 1, cells := 0, slots := 0, locals := 21 }
def f_X5_digitAt (a1 : Int32) (M : Mm) : Option (Int32) :=
  (f_X5_at a1 M).bind fun r1 => (f_X5_digitOf r1).bind fun r3 => some r3
set_option maxRecDepth 100000 in
set_option maxHeartbeats 4000000 in
theorem k_X5_digitAt (l : Launch) (D : va_G) (cy : Nat → ClassId) (q : Nat → Nat) (a1 : Int32) (M : Mm) (rv : Int32) (h0 : f_X5_digitAt a1 M = some rv) : KI l yX5_digitAt (Cond.code yX5_digitAt cX5_digitAt 2 (Option.some FieldType.int) :: gw) rm_X5_digitAt D cy q [.ref (q 37), .int a1] M rv M := by
  refine KI.mk (L0 := [(0, .ref (q 37)), (1, .int a1)]) (by decide +kernel) rfl (Nat.le_of_ble_eq_true rfl) rfl rfl rfl ?_
  intro p e s m below meth c X0 hr hlk
  have X := Fx.gw (own := RX5) X0
  clear X0
  have h : Ok (f_X5_digitAt a1 M) (fun r => r = rv) := Ok.of h0 rfl
  clear h0
  delta f_X5_digitAt at h
  refine V_aload_n X dX5_digitAt_0 0 rfl rfl ?_
  refine V_iload_n X dX5_digitAt_1 1 rfl rfl ?_
  obtain ⟨r1, e2, h⟩ := (Ok.bind h).ex
  refine C_Vi (As := [.int a1]) (M' := M) (k0 := 37) X rfl rfl (cwV 1 X.1.2.2.2.2 (gw_V wML_X5_19 wIM_X5_at wSE_X5_at wIN_X5 (gw_c wCD_X5_at)) rfl rfl rfl (by decide +kernel) ⟨Nat.le_of_ble_eq_true rfl, Nat.le_of_ble_eq_true rfl⟩) rfl rfl (Nat.le_of_ble_eq_true rfl) ⟨Nat.zero_le _, Nat.zero_le _⟩ (k_X5_at l D cy q a1 M r1 e2) dX5_digitAt_2 ?_
  obtain ⟨r3, e4, h⟩ := (Ok.bind h).ex
  refine C_Si (As := [.int r1]) (M' := M) X (va_cwS 1 X.1.2.2.2.2 (gw_S wML_X5_23 wST_X5_digitOf wIN_X5 (gw_c wCD_X5_digitOf)) rfl rfl rfl (by decide +kernel) ⟨Nat.le_of_ble_eq_true rfl, Nat.le_of_ble_eq_true rfl⟩) rfl rfl (Nat.le_of_ble_eq_true rfl) ⟨Nat.zero_le _, Nat.zero_le _⟩ (k_X5_digitOf l D cy q r1 M r3 e4) dX5_digitAt_5 ?_
  have h : r3 = rv := h
  exact R_i X hr hlk h rfl dX5_digitAt_8
def rm_X2_readNumber : Room := { frames := 2, cells := 0, slots := 0, locals := 42 }
def f_X2_readNumber (M : Mm) : Option (Int32 × Mm) :=
  (f_X5_digitAt (M 39 2) M).bind fun r1 => if r1 = (-1 : Int32) then (some ((-1 : Int32), M)) else ((f_X5_digitAt ((up M 39 2 ((M 39 2) + (nI 1))) 39 2) (up M 39 2 ((M 39 2) + (nI 1)))).bind fun r3 => if r3 = (-1 : Int32) then (some (r1, (up M 39 2 ((M 39 2) + (nI 1))))) else (some (((r1 * (nI 10)) + r3), (up (up M 39 2 ((M 39 2) + (nI 1))) 39 2 (((up M 39 2 ((M 39 2) + (nI 1))) 39 2) + (nI 1))))))
set_option maxRecDepth 100000 in
set_option maxHeartbeats 4000000 in
theorem k_X2_readNumber (l : Launch) (D : va_G) (cy : Nat → ClassId) (q : Nat → Nat)  (M : Mm) (rv : Int32) (M' : Mm) (h0 : f_X2_readNumber M = some (rv, M')) : KI l yX2_readNumber (Cond.code yX2_readNumber cX2_readNumber 3 (Option.some FieldType.int) :: gw) rm_X2_readNumber D cy q [.ref (q 39)] M rv M' := by
  refine KI.mk (L0 := [(0, .ref (q 39))]) (by decide +kernel) rfl (Nat.le_of_ble_eq_true rfl) rfl rfl rfl ?_
  intro p e s m below meth c X0 hr hlk
  have X := Fx.gw (own := RX2) X0
  clear X0
  have h : Ok (f_X2_readNumber M) (fun r => r = (rv, M')) := Ok.of h0 rfl
  clear h0
  delta f_X2_readNumber at h
  refine V_aload_n X dX2_readNumber_0 0 rfl rfl ?_
  refine G_2_0 X inX2 wFL_X2_12 dX2_readNumber_1 ?_
  refine V_aload_n X dX2_readNumber_4 0 rfl rfl ?_
  refine G_2_2 X inX2 wFL_X2_39 dX2_readNumber_5 ?_
  obtain ⟨r1, e2, h⟩ := (Ok.bind h).ex
  refine C_Vi (As := [.int (M 39 2)]) (M' := M) (k0 := 37) X rfl rfl (cwV 1 X.1.2.2.2.2 (gw_V wML_X2_82 wIM_X5_digitAt wSE_X5_digitAt wIN_X5 (gw_c wCD_X5_digitAt)) rfl rfl rfl (by decide +kernel) ⟨Nat.le_of_ble_eq_true rfl, Nat.le_of_ble_eq_true rfl⟩) rfl rfl (Nat.le_of_ble_eq_true rfl) ⟨Nat.zero_le _, Nat.zero_le _⟩ (k_X5_digitAt l D cy q (M 39 2) M r1 e2) dX2_readNumber_8 ?_
  refine V_istore_n (L' := [(1, .int r1), (0, .ref (q 39))]) X dX2_readNumber_11 rfl (by decide) rfl ?_
  refine V_iload_n X dX2_readNumber_12 0 rfl rfl ?_
  refine V_iconst (v := (-1 : Int32)) X dX2_readNumber_13 (by decide) ?_
  refine B_icmp_ne X 19 dX2_readNumber_14 (by decide) h (fun h => ?_) (fun h => ?_)
  · refine V_aload_n X dX2_readNumber_19 1 rfl rfl ?_
    refine V_dup X dX2_readNumber_20 rfl ?_
    refine G_2_2 X inX2 wFL_X2_39 dX2_readNumber_21 ?_
    refine V_iconst (v := (nI 1)) X dX2_readNumber_24 (by decide) ?_
    refine V_iadd X dX2_readNumber_25 ?_
    refine P_2_2 X inX2 wFL_X2_39 dX2_readNumber_26 ?_
    refine V_aload_n X dX2_readNumber_29 1 rfl rfl ?_
    refine G_2_0 X inX2 wFL_X2_12 dX2_readNumber_30 ?_
    refine V_aload_n X dX2_readNumber_33 1 rfl rfl ?_
    refine G_2_2 X inX2 wFL_X2_39 dX2_readNumber_34 ?_
    obtain ⟨r3, e4, h⟩ := (Ok.bind h).ex
    refine C_Vi (As := [.int ((up M 39 2 ((M 39 2) + (nI 1))) 39 2)]) (M' := (up M 39 2 ((M 39 2) + (nI 1)))) (k0 := 37) X rfl rfl (cwV 1 X.1.2.2.2.2 (gw_V wML_X2_82 wIM_X5_digitAt wSE_X5_digitAt wIN_X5 (gw_c wCD_X5_digitAt)) rfl rfl rfl (by decide +kernel) ⟨Nat.le_of_ble_eq_true rfl, Nat.le_of_ble_eq_true rfl⟩) rfl rfl (Nat.le_of_ble_eq_true rfl) ⟨Nat.zero_le _, Nat.zero_le _⟩ (k_X5_digitAt l D cy q ((up M 39 2 ((M 39 2) + (nI 1))) 39 2) (up M 39 2 ((M 39 2) + (nI 1))) r3 e4) dX2_readNumber_37 ?_
    refine V_istore_n (L' := [(2, .int r3), (1, .int r1), (0, .ref (q 39))]) X dX2_readNumber_40 rfl (by decide) rfl ?_
    refine V_iload_n X dX2_readNumber_41 0 rfl rfl ?_
    refine V_iconst (v := (-1 : Int32)) X dX2_readNumber_42 (by decide) ?_
    refine B_icmp_ne X 48 dX2_readNumber_43 (by decide) h (fun h => ?_) (fun h => ?_)
    · refine V_aload_n X dX2_readNumber_48 2 rfl rfl ?_
      refine V_dup X dX2_readNumber_49 rfl ?_
      refine G_2_2 X inX2 wFL_X2_39 dX2_readNumber_50 ?_
      refine V_iconst (v := (nI 1)) X dX2_readNumber_53 (by decide) ?_
      refine V_iadd X dX2_readNumber_54 ?_
      refine P_2_2 X inX2 wFL_X2_39 dX2_readNumber_55 ?_
      refine V_iload_n X dX2_readNumber_58 1 rfl rfl ?_
      refine V_bipush (v := (nI 10)) X dX2_readNumber_59 (by decide) ?_
      refine V_imul X dX2_readNumber_61 ?_
      refine V_iload_n X dX2_readNumber_62 0 rfl rfl ?_
      refine V_iadd X dX2_readNumber_63 ?_
      have h : (((r1 * (nI 10)) + r3), (up (up M 39 2 ((M 39 2) + (nI 1))) 39 2 (((up M 39 2 ((M 39 2) + (nI 1))) 39 2) + (nI 1)))) = (rv, M') := h
      exact R_i X hr hlk (congrArg Prod.fst h) (congrArg Prod.snd h) dX2_readNumber_64
    · refine V_iload_n X dX2_readNumber_46 1 rfl rfl ?_
      have h : (r1, (up M 39 2 ((M 39 2) + (nI 1)))) = (rv, M') := h
      exact R_i X hr hlk (congrArg Prod.fst h) (congrArg Prod.snd h) dX2_readNumber_47
  · refine V_iconst (v := (-1 : Int32)) X dX2_readNumber_17 (by decide) ?_
    have h : ((-1 : Int32), M) = (rv, M') := h
    exact R_i X hr hlk (congrArg Prod.fst h) (congrArg Prod.snd h) dX2_readNumber_18
def rm_X2_readSign : Room := { frames := 1, cells := 0, slots := 0, locals := 21 }
def f_X2_readSign (a1 : Int32) (M : Mm) : Option (Int32 × Mm) :=
  (f_X5_at (M 39 2) M).bind fun r1 => if r1 = a1 then (some ((nI 1), (up M 39 2 ((M 39 2) + (nI 1))))) else (some ((nI 0), M))
set_option maxRecDepth 100000 in
set_option maxHeartbeats 4000000 in
theorem k_X2_readSign (l : Launch) (D : va_G) (cy : Nat → ClassId) (q : Nat → Nat) (a1 : Int32) (M : Mm) (rv : Int32) (M' : Mm) (h0 : f_X2_readSign a1 M = some (rv, M')) : KI l yX2_readSign (Cond.code yX2_readSign cX2_readSign 2 (Option.some FieldType.boolean) :: gw) rm_X2_readSign D cy q [.ref (q 39), .int a1] M rv M' := by
  refine KI.mk (L0 := [(0, .ref (q 39)), (1, .int a1)]) (by decide +kernel) rfl (Nat.le_of_ble_eq_true rfl) rfl rfl rfl ?_
  intro p e s m below meth c X0 hr hlk
  have X := Fx.gw (own := RX2) X0
  clear X0
  have h : Ok (f_X2_readSign a1 M) (fun r => r = (rv, M')) := Ok.of h0 rfl
  clear h0
  delta f_X2_readSign at h
  refine V_aload_n X dX2_readSign_0 0 rfl rfl ?_
  refine G_2_0 X inX2 wFL_X2_12 dX2_readSign_1 ?_
  refine V_aload_n X dX2_readSign_4 0 rfl rfl ?_
  refine G_2_2 X inX2 wFL_X2_39 dX2_readSign_5 ?_
  obtain ⟨r1, e2, h⟩ := (Ok.bind h).ex
  refine C_Vi (As := [.int (M 39 2)]) (M' := M) (k0 := 37) X rfl rfl (cwV 1 X.1.2.2.2.2 (gw_V wML_X2_59 wIM_X5_at wSE_X5_at wIN_X5 (gw_c wCD_X5_at)) rfl rfl rfl (by decide +kernel) ⟨Nat.le_of_ble_eq_true rfl, Nat.le_of_ble_eq_true rfl⟩) rfl rfl (Nat.le_of_ble_eq_true rfl) ⟨Nat.zero_le _, Nat.zero_le _⟩ (k_X5_at l D cy q (M 39 2) M r1 e2) dX2_readSign_8 ?_
  refine V_iload_n X dX2_readSign_11 1 rfl rfl ?_
  refine B_icmp_eq X 17 dX2_readSign_12 (by decide) h (fun h => ?_) (fun h => ?_)
  · refine V_aload_n X dX2_readSign_17 0 rfl rfl ?_
    refine V_dup X dX2_readSign_18 rfl ?_
    refine G_2_2 X inX2 wFL_X2_39 dX2_readSign_19 ?_
    refine V_iconst (v := (nI 1)) X dX2_readSign_22 (by decide) ?_
    refine V_iadd X dX2_readSign_23 ?_
    refine P_2_2 X inX2 wFL_X2_39 dX2_readSign_24 ?_
    refine V_iconst (v := (nI 1)) X dX2_readSign_27 (by decide) ?_
    have h : ((nI 1), (up M 39 2 ((M 39 2) + (nI 1)))) = (rv, M') := h
    exact R_z X hr hlk rfl (congrArg Prod.fst h) (congrArg Prod.snd h) dX2_readSign_28
  · refine V_iconst (v := (nI 0)) X dX2_readSign_15 (by decide) ?_
    have h : ((nI 0), M) = (rv, M') := h
    exact R_z X hr hlk rfl (congrArg Prod.fst h) (congrArg Prod.snd h) dX2_readSign_16
def rm_X5_symbolValueAt : Room := { frames := 1, cells := 0, slots := 0, locals := 21 }
def f_X5_symbolValueAt (a1 : Int32) (M : Mm) : Option (Int32) :=
  (f_X5_at a1 M).bind fun r1 => if r1 < (nI 97) then ((f_X5_digitOf r1).bind fun r3 => some r3) else (if (nI 102) < r1 then ((f_X5_digitOf r1).bind fun r5 => some r5) else (some ((r1 - (nI 97)) + (nI 10))))
set_option maxRecDepth 100000 in
set_option maxHeartbeats 4000000 in
theorem k_X5_symbolValueAt (l : Launch) (D : va_G) (cy : Nat → ClassId) (q : Nat → Nat) (a1 : Int32) (M : Mm) (rv : Int32) (h0 : f_X5_symbolValueAt a1 M = some rv) : KI l yX5_symbolValueAt (Cond.code yX5_symbolValueAt cX5_symbolValueAt 3 (Option.some FieldType.int) :: gw) rm_X5_symbolValueAt D cy q [.ref (q 37), .int a1] M rv M := by
  refine KI.mk (L0 := [(0, .ref (q 37)), (1, .int a1)]) (by decide +kernel) rfl (Nat.le_of_ble_eq_true rfl) rfl rfl rfl ?_
  intro p e s m below meth c X0 hr hlk
  have X := Fx.gw (own := RX5) X0
  clear X0
  have h : Ok (f_X5_symbolValueAt a1 M) (fun r => r = rv) := Ok.of h0 rfl
  clear h0
  delta f_X5_symbolValueAt at h
  refine V_aload_n X dX5_symbolValueAt_0 0 rfl rfl ?_
  refine V_iload_n X dX5_symbolValueAt_1 1 rfl rfl ?_
  obtain ⟨r1, e2, h⟩ := (Ok.bind h).ex
  refine C_Vi (As := [.int a1]) (M' := M) (k0 := 37) X rfl rfl (cwV 1 X.1.2.2.2.2 (gw_V wML_X5_19 wIM_X5_at wSE_X5_at wIN_X5 (gw_c wCD_X5_at)) rfl rfl rfl (by decide +kernel) ⟨Nat.le_of_ble_eq_true rfl, Nat.le_of_ble_eq_true rfl⟩) rfl rfl (Nat.le_of_ble_eq_true rfl) ⟨Nat.zero_le _, Nat.zero_le _⟩ (k_X5_at l D cy q a1 M r1 e2) dX5_symbolValueAt_2 ?_
  refine V_istore_n (L' := [(2, .int r1), (0, .ref (q 37)), (1, .int a1)]) X dX5_symbolValueAt_5 rfl (by decide) rfl ?_
  refine V_iload_n X dX5_symbolValueAt_6 0 rfl rfl ?_
  refine V_bipush (v := (nI 97)) X dX5_symbolValueAt_7 (by decide) ?_
  refine B_icmp_lt X 28 dX5_symbolValueAt_9 (by decide) h (fun h => ?_) (fun h => ?_)
  · refine V_iload_n X dX5_symbolValueAt_28 0 rfl rfl ?_
    obtain ⟨r3, e4, h⟩ := (Ok.bind h).ex
    refine C_Si (As := [.int r1]) (M' := M) X (va_cwS 1 X.1.2.2.2.2 (gw_S wML_X5_23 wST_X5_digitOf wIN_X5 (gw_c wCD_X5_digitOf)) rfl rfl rfl (by decide +kernel) ⟨Nat.le_of_ble_eq_true rfl, Nat.le_of_ble_eq_true rfl⟩) rfl rfl (Nat.le_of_ble_eq_true rfl) ⟨Nat.zero_le _, Nat.zero_le _⟩ (k_X5_digitOf l D cy q r1 M r3 e4) dX5_symbolValueAt_29 ?_
    have h : r3 = rv := h
    exact R_i X hr hlk h rfl dX5_symbolValueAt_32
  · refine V_iload_n X dX5_symbolValueAt_12 0 rfl rfl ?_
    refine V_bipush (v := (nI 102)) X dX5_symbolValueAt_13 (by decide) ?_
    refine B_icmp_gt X 28 dX5_symbolValueAt_15 (by decide) h (fun h => ?_) (fun h => ?_)
    · refine V_iload_n X dX5_symbolValueAt_28 0 rfl rfl ?_
      obtain ⟨r5, e6, h⟩ := (Ok.bind h).ex
      refine C_Si (As := [.int r1]) (M' := M) X (va_cwS 1 X.1.2.2.2.2 (gw_S wML_X5_23 wST_X5_digitOf wIN_X5 (gw_c wCD_X5_digitOf)) rfl rfl rfl (by decide +kernel) ⟨Nat.le_of_ble_eq_true rfl, Nat.le_of_ble_eq_true rfl⟩) rfl rfl (Nat.le_of_ble_eq_true rfl) ⟨Nat.zero_le _, Nat.zero_le _⟩ (k_X5_digitOf l D cy q r1 M r5 e6) dX5_symbolValueAt_29 ?_
      have h : r5 = rv := h
      exact R_i X hr hlk h rfl dX5_symbolValueAt_32
    · refine V_iload_n X dX5_symbolValueAt_18 0 rfl rfl ?_
      refine V_bipush (v := (nI 97)) X dX5_symbolValueAt_19 (by decide) ?_
      refine V_isub X dX5_symbolValueAt_21 ?_
      refine V_bipush (v := (nI 10)) X dX5_symbolValueAt_22 (by decide) ?_
      refine V_iadd X dX5_symbolValueAt_24 ?_
      refine V_goto X 32 dX5_symbolValueAt_25 (by decide) ?_
      have h : ((r1 - (nI 97)) + (nI 10)) = rv := h
      exact R_i X hr hlk h rfl dX5_symbolValueAt_32
def rm_X2_readSymbols : Room := { frames := 2, cells := 0, slots := 0, locals := 43 }
def f_X2_readSymbols (F : Nat) (M : Mm) : Option (Int32 × Mm) :=
  lpf (fun z1 : Int32 × Mm => jn (if (nI 60) ≤ z1.1 then (some (.inl z1.2)) else ((f_X5_symbolValueAt (z1.2 39 2) z1.2).bind fun r3 => if r3 = (-1 : Int32) then (some (.inl z1.2)) else (some (.inr (.inl ((z1.1 + (nI 1)), (up z1.2 39 2 ((z1.2 39 2) + (nI 1))))))))) (fun z2 : Mm => if (z2 39 2) ≤ (z2 39 6) then (some (.inr ((-1 : Int32), z2))) else (some (.inr (((z2 39 2) - (z2 39 6)), z2))))) F ((nI 0), (up M 39 6 (M 39 2)))
set_option maxRecDepth 100000 in
set_option maxHeartbeats 4000000 in
theorem k_X2_readSymbols (l : Launch) (D : va_G) (cy : Nat → ClassId) (q : Nat → Nat) (F : Nat) (M : Mm) (rv : Int32) (M' : Mm) (h0 : f_X2_readSymbols F M = some (rv, M')) : KI l yX2_readSymbols (Cond.code yX2_readSymbols cX2_readSymbols 2 (Option.some FieldType.int) :: gw) rm_X2_readSymbols D cy q [.ref (q 39)] M rv M' := by
  refine KI.mk (L0 := [(0, .ref (q 39))]) (by decide +kernel) rfl (Nat.le_of_ble_eq_true rfl) rfl rfl rfl ?_
  intro p e s m below meth c X0 hr hlk
  have X := Fx.gw (own := RX2) X0
  clear X0
  have h : Ok (f_X2_readSymbols F M) (fun r => r = (rv, M')) := Ok.of h0 rfl
  clear h0
  delta f_X2_readSymbols at h
  refine V_aload_n X dX2_readSymbols_0 0 rfl rfl ?_
  refine V_aload_n X dX2_readSymbols_1 0 rfl rfl ?_
  refine G_2_2 X inX2 wFL_X2_39 dX2_readSymbols_2 ?_
  refine P_2_6 X inX2 wFL_X2_85 dX2_readSymbols_5 ?_
  refine V_iconst (v := (nI 0)) X dX2_readSymbols_8 (by decide) ?_
  refine V_istore_n (L' := [(1, .int (nI 0)), (0, .ref (q 39))]) X dX2_readSymbols_9 rfl (by decide) rfl ?_
  refine V_sub (L' := [(0, .ref (q 39)), (1, .int (nI 0))]) [1, 0] rfl ?_
  refine V_loop X h (fun z1 => z1.2) (fun z1 => [(0, .ref (q 39)), (1, .int z1.1)]) rfl rfl (fun z1 h => ?_)
  refine V_iload_n X dX2_readSymbols_10 1 rfl rfl ?_
  refine V_bipush (v := (nI 60)) X dX2_readSymbols_11 (by decide) ?_
  refine V_join X h (fun z2 => z2) (fun z2 => [(0, .ref (q 39))]) (fun z2 => []) 47 (fun z2 h => ?_) (fun h => ?_)
  · refine V_aload_n X dX2_readSymbols_47 0 rfl rfl ?_
    refine G_2_2 X inX2 wFL_X2_39 dX2_readSymbols_48 ?_
    refine V_aload_n X dX2_readSymbols_51 0 rfl rfl ?_
    refine G_2_6 X inX2 wFL_X2_85 dX2_readSymbols_52 ?_
    refine B_icmp_le X 70 dX2_readSymbols_55 (by decide) h (fun h => ?_) (fun h => ?_)
    · refine V_iconst (v := (-1 : Int32)) X dX2_readSymbols_70 (by decide) ?_
      have h : ((-1 : Int32), z2) = (rv, M') := h
      exact R_i X hr hlk (congrArg Prod.fst h) (congrArg Prod.snd h) dX2_readSymbols_71
    · refine V_aload_n X dX2_readSymbols_58 0 rfl rfl ?_
      refine G_2_2 X inX2 wFL_X2_39 dX2_readSymbols_59 ?_
      refine V_aload_n X dX2_readSymbols_62 0 rfl rfl ?_
      refine G_2_6 X inX2 wFL_X2_85 dX2_readSymbols_63 ?_
      refine V_isub X dX2_readSymbols_66 ?_
      refine V_goto X 71 dX2_readSymbols_67 (by decide) ?_
      have h : (((z2 39 2) - (z2 39 6)), z2) = (rv, M') := h
      exact R_i X hr hlk (congrArg Prod.fst h) (congrArg Prod.snd h) dX2_readSymbols_71
  · refine B_icmp_ge X 47 dX2_readSymbols_13 (by decide) h (fun h => ?_) (fun h => ?_)
    · exact V_sub [0] rfl h
    · refine V_aload_n X dX2_readSymbols_16 0 rfl rfl ?_
      refine G_2_0 X inX2 wFL_X2_12 dX2_readSymbols_17 ?_
      refine V_aload_n X dX2_readSymbols_20 0 rfl rfl ?_
      refine G_2_2 X inX2 wFL_X2_39 dX2_readSymbols_21 ?_
      obtain ⟨r3, e4, h⟩ := (Ok.bind h).ex
      refine C_Vi (As := [.int (z1.2 39 2)]) (M' := z1.2) (k0 := 37) X rfl rfl (cwV 1 X.1.2.2.2.2 (gw_V wML_X2_88 wIM_X5_symbolValueAt wSE_X5_symbolValueAt wIN_X5 (gw_c wCD_X5_symbolValueAt)) rfl rfl rfl (by decide +kernel) ⟨Nat.le_of_ble_eq_true rfl, Nat.le_of_ble_eq_true rfl⟩) rfl rfl (Nat.le_of_ble_eq_true rfl) ⟨Nat.zero_le _, Nat.zero_le _⟩ (k_X5_symbolValueAt l D cy q (z1.2 39 2) z1.2 r3 e4) dX2_readSymbols_24 ?_
      refine V_iconst (v := (-1 : Int32)) X dX2_readSymbols_27 (by decide) ?_
      refine B_icmp_eq X 47 dX2_readSymbols_28 (by decide) h (fun h => ?_) (fun h => ?_)
      · exact V_sub [0] rfl h
      · refine V_aload_n X dX2_readSymbols_31 0 rfl rfl ?_
        refine V_dup X dX2_readSymbols_32 rfl ?_
        refine G_2_2 X inX2 wFL_X2_39 dX2_readSymbols_33 ?_
        refine V_iconst (v := (nI 1)) X dX2_readSymbols_36 (by decide) ?_
        refine V_iadd X dX2_readSymbols_37 ?_
        refine P_2_2 X inX2 wFL_X2_39 dX2_readSymbols_38 ?_
        refine V_iinc (v := (z1.1 + (nI 1))) (L' := [(1, .int (z1.1 + (nI 1))), (0, .ref (q 39))]) (j := 1) X dX2_readSymbols_41 rfl rfl (by decide) rfl ?_
        refine V_goto X 10 dX2_readSymbols_44 (by decide) ?_
        exact V_sub [1, 0] rfl h
def rm_X2_readEdit : Room := { frames := 3, cells := 0, slots := 0, locals := 64 }
def f_X2_readEdit (F : Nat) (M : Mm) : Option (Int32 × Mm) :=
  (f_X5_at (M 39 2) M).bind fun r1 => jn (if ((up M 39 3 r1) 39 3) = (nI 43) then (some (.inl ())) else (if ((up M 39 3 r1) 39 3) = (nI 45) then (some (.inl ())) else (if ((up M 39 3 r1) 39 3) = (nI 120) then (some (.inl ())) else (if ((up M 39 3 r1) 39 3) = (nI 114) then (some (.inl ())) else (some (.inr ((nI 0), (up M 39 3 r1)))))))) (fun z3 : Unit => (f_X2_readNumber (up (up M 39 3 r1) 39 2 (((up M 39 3 r1) 39 2) + (nI 1)))).bind fun r4 => if ((up r4.2 39 4 r4.1) 39 4) = (-1 : Int32) then (some ((nI 0), (up r4.2 39 4 r4.1))) else ((f_X2_readSign (nI 44) (up r4.2 39 4 r4.1)).bind fun r6 => if r6.1 = 0 then (some ((nI 0), r6.2)) else (jn (if (r6.2 39 3) = (nI 43) then ((f_X2_readSymbols F r6.2).bind fun r11 => some (.inl (r11.1, r11.2))) else ((f_X2_readNumber r6.2).bind fun r9 => some (.inl (r9.1, r9.2)))) (fun z8 : Int32 × Mm => if ((up z8.2 39 5 z8.1) 39 5) = (-1 : Int32) then (some ((nI 0), (up z8.2 39 5 z8.1))) else ((f_X2_readSign (nI 59) (up z8.2 39 5 z8.1)).bind fun r13 => if r13.1 = 0 then (some ((nI 0), r13.2)) else (some ((nI 1), r13.2)))))))
set_option maxRecDepth 100000 in
set_option maxHeartbeats 4000000 in
theorem k_X2_readEdit (l : Launch) (D : va_G) (cy : Nat → ClassId) (q : Nat → Nat) (F : Nat) (M : Mm) (rv : Int32) (M' : Mm) (h0 : f_X2_readEdit F M = some (rv, M')) : KI l yX2_readEdit (Cond.code yX2_readEdit cX2_readEdit 1 (Option.some FieldType.boolean) :: gw) rm_X2_readEdit D cy q [.ref (q 39)] M rv M' := by
  refine KI.mk (L0 := [(0, .ref (q 39))]) (by decide +kernel) rfl (Nat.le_of_ble_eq_true rfl) rfl rfl rfl ?_
  intro p e s m below meth c X0 hr hlk
  have X := Fx.gw (own := RX2) X0
  clear X0
  have h : Ok (f_X2_readEdit F M) (fun r => r = (rv, M')) := Ok.of h0 rfl
  clear h0
  delta f_X2_readEdit at h
  refine V_aload_n X dX2_readEdit_0 0 rfl rfl ?_
  refine V_aload_n X dX2_readEdit_1 0 rfl rfl ?_
  refine G_2_0 X inX2 wFL_X2_12 dX2_readEdit_2 ?_
  refine V_aload_n X dX2_readEdit_5 0 rfl rfl ?_
  refine G_2_2 X inX2 wFL_X2_39 dX2_readEdit_6 ?_
  obtain ⟨r1, e2, h⟩ := (Ok.bind h).ex
  refine C_Vi (As := [.int (M 39 2)]) (M' := M) (k0 := 37) X rfl rfl (cwV 1 X.1.2.2.2.2 (gw_V wML_X2_59 wIM_X5_at wSE_X5_at wIN_X5 (gw_c wCD_X5_at)) rfl rfl rfl (by decide +kernel) ⟨Nat.le_of_ble_eq_true rfl, Nat.le_of_ble_eq_true rfl⟩) rfl rfl (Nat.le_of_ble_eq_true rfl) ⟨Nat.zero_le _, Nat.zero_le _⟩ (k_X5_at l D cy q (M 39 2) M r1 e2) dX2_readEdit_9 ?_
  refine P_2_3 X inX2 wFL_X2_63 dX2_readEdit_12 ?_
  refine V_aload_n X dX2_readEdit_15 0 rfl rfl ?_
  refine G_2_3 X inX2 wFL_X2_63 dX2_readEdit_16 ?_
  refine V_bipush (v := (nI 43)) X dX2_readEdit_19 (by decide) ?_
  refine V_join X h (fun z3 => (up M 39 3 r1)) (fun z3 => [(0, .ref (q 39))]) (fun z3 => []) 53 (fun z3 h => ?_) (fun h => ?_)
  · refine V_aload_n X dX2_readEdit_53 0 rfl rfl ?_
    refine V_dup X dX2_readEdit_54 rfl ?_
    refine G_2_2 X inX2 wFL_X2_39 dX2_readEdit_55 ?_
    refine V_iconst (v := (nI 1)) X dX2_readEdit_58 (by decide) ?_
    refine V_iadd X dX2_readEdit_59 ?_
    refine P_2_2 X inX2 wFL_X2_39 dX2_readEdit_60 ?_
    refine V_aload_n X dX2_readEdit_63 0 rfl rfl ?_
    refine V_aload_n X dX2_readEdit_64 0 rfl rfl ?_
    obtain ⟨r4, e5, h⟩ := (Ok.bind h).ex
    refine C_Vi (As := []) (M' := r4.2) (k0 := 39) X rfl rfl (cwV 0 X.1.2.2.2.2 (gw_V wML_X2_66 wIM_X2_readNumber wSE_X2_readNumber wIN_X2 (gw_c wCD_X2_readNumber)) rfl rfl rfl (by decide +kernel) ⟨Nat.le_of_ble_eq_true rfl, Nat.le_of_ble_eq_true rfl⟩) rfl rfl (Nat.le_of_ble_eq_true rfl) ⟨Nat.zero_le _, Nat.zero_le _⟩ (k_X2_readNumber l D cy q (up (up M 39 3 r1) 39 2 (((up M 39 3 r1) 39 2) + (nI 1))) r4.1 r4.2 e5) dX2_readEdit_65 ?_
    refine P_2_4 X inX2 wFL_X2_69 dX2_readEdit_68 ?_
    refine V_aload_n X dX2_readEdit_71 0 rfl rfl ?_
    refine G_2_4 X inX2 wFL_X2_69 dX2_readEdit_72 ?_
    refine V_iconst (v := (-1 : Int32)) X dX2_readEdit_75 (by decide) ?_
    refine B_icmp_eq X 88 dX2_readEdit_76 (by decide) h (fun h => ?_) (fun h => ?_)
    · refine V_iconst (v := (nI 0)) X dX2_readEdit_88 (by decide) ?_
      have h : ((nI 0), (up r4.2 39 4 r4.1)) = (rv, M') := h
      exact R_z X hr hlk rfl (congrArg Prod.fst h) (congrArg Prod.snd h) dX2_readEdit_89
    · refine V_aload_n X dX2_readEdit_79 0 rfl rfl ?_
      refine V_bipush (v := (nI 44)) X dX2_readEdit_80 (by decide) ?_
      obtain ⟨r6, e7, h⟩ := (Ok.bind h).ex
      refine C_Vi (As := [.int (nI 44)]) (M' := r6.2) (k0 := 39) X rfl rfl (cwV 1 X.1.2.2.2.2 (gw_V wML_X2_72 wIM_X2_readSign wSE_X2_readSign wIN_X2 (gw_c wCD_X2_readSign)) rfl rfl rfl (by decide +kernel) ⟨Nat.le_of_ble_eq_true rfl, Nat.le_of_ble_eq_true rfl⟩) rfl rfl (Nat.le_of_ble_eq_true rfl) ⟨Nat.zero_le _, Nat.zero_le _⟩ (k_X2_readSign l D cy q (nI 44) (up r4.2 39 4 r4.1) r6.1 r6.2 e7) dX2_readEdit_82 ?_
      refine B_if_ne X 90 dX2_readEdit_85 (by decide) h (fun h => ?_) (fun h => ?_)
      · refine V_aload_n X dX2_readEdit_90 0 rfl rfl ?_
        refine V_aload_n X dX2_readEdit_91 0 rfl rfl ?_
        refine G_2_3 X inX2 wFL_X2_63 dX2_readEdit_92 ?_
        refine V_bipush (v := (nI 43)) X dX2_readEdit_95 (by decide) ?_
        refine V_join X h (fun z8 => z8.2) (fun z8 => [(0, .ref (q 39))]) (fun z8 => [.int z8.1, .ref (q 39)]) 111 (fun z8 h => ?_) (fun h => ?_)
        · refine P_2_5 X inX2 wFL_X2_79 dX2_readEdit_111 ?_
          refine V_aload_n X dX2_readEdit_114 0 rfl rfl ?_
          refine G_2_5 X inX2 wFL_X2_79 dX2_readEdit_115 ?_
          refine V_iconst (v := (-1 : Int32)) X dX2_readEdit_118 (by decide) ?_
          refine B_icmp_eq X 135 dX2_readEdit_119 (by decide) h (fun h => ?_) (fun h => ?_)
          · refine V_iconst (v := (nI 0)) X dX2_readEdit_135 (by decide) ?_
            have h : ((nI 0), (up z8.2 39 5 z8.1)) = (rv, M') := h
            exact R_z X hr hlk rfl (congrArg Prod.fst h) (congrArg Prod.snd h) dX2_readEdit_136
          · refine V_aload_n X dX2_readEdit_122 0 rfl rfl ?_
            refine V_bipush (v := (nI 59)) X dX2_readEdit_123 (by decide) ?_
            obtain ⟨r13, e14, h⟩ := (Ok.bind h).ex
            refine C_Vi (As := [.int (nI 59)]) (M' := r13.2) (k0 := 39) X rfl rfl (cwV 1 X.1.2.2.2.2 (gw_V wML_X2_72 wIM_X2_readSign wSE_X2_readSign wIN_X2 (gw_c wCD_X2_readSign)) rfl rfl rfl (by decide +kernel) ⟨Nat.le_of_ble_eq_true rfl, Nat.le_of_ble_eq_true rfl⟩) rfl rfl (Nat.le_of_ble_eq_true rfl) ⟨Nat.zero_le _, Nat.zero_le _⟩ (k_X2_readSign l D cy q (nI 59) (up z8.2 39 5 z8.1) r13.1 r13.2 e14) dX2_readEdit_125 ?_
            refine B_if_eq X 135 dX2_readEdit_128 (by decide) h (fun h => ?_) (fun h => ?_)
            · refine V_iconst (v := (nI 0)) X dX2_readEdit_135 (by decide) ?_
              have h : ((nI 0), r13.2) = (rv, M') := h
              exact R_z X hr hlk rfl (congrArg Prod.fst h) (congrArg Prod.snd h) dX2_readEdit_136
            · refine V_iconst (v := (nI 1)) X dX2_readEdit_131 (by decide) ?_
              refine V_goto X 136 dX2_readEdit_132 (by decide) ?_
              have h : ((nI 1), r13.2) = (rv, M') := h
              exact R_z X hr hlk rfl (congrArg Prod.fst h) (congrArg Prod.snd h) dX2_readEdit_136
        · refine B_icmp_ne X 107 dX2_readEdit_97 (by decide) h (fun h => ?_) (fun h => ?_)
          · refine V_aload_n X dX2_readEdit_107 0 rfl rfl ?_
            obtain ⟨r9, e10, h⟩ := (Ok.bind h).ex
            refine C_Vi (As := []) (M' := r9.2) (k0 := 39) X rfl rfl (cwV 0 X.1.2.2.2.2 (gw_V wML_X2_66 wIM_X2_readNumber wSE_X2_readNumber wIN_X2 (gw_c wCD_X2_readNumber)) rfl rfl rfl (by decide +kernel) ⟨Nat.le_of_ble_eq_true rfl, Nat.le_of_ble_eq_true rfl⟩) rfl rfl (Nat.le_of_ble_eq_true rfl) ⟨Nat.zero_le _, Nat.zero_le _⟩ (k_X2_readNumber l D cy q r6.2 r9.1 r9.2 e10) dX2_readEdit_108 ?_
            exact V_sub [0] rfl h
          · refine V_aload_n X dX2_readEdit_100 0 rfl rfl ?_
            obtain ⟨r11, e12, h⟩ := (Ok.bind h).ex
            refine C_Vi (As := []) (M' := r11.2) (k0 := 39) X rfl rfl (cwV 0 X.1.2.2.2.2 (gw_V wML_X2_76 wIM_X2_readSymbols wSE_X2_readSymbols wIN_X2 (gw_c wCD_X2_readSymbols)) rfl rfl rfl (by decide +kernel) ⟨Nat.le_of_ble_eq_true rfl, Nat.le_of_ble_eq_true rfl⟩) rfl rfl (Nat.le_of_ble_eq_true rfl) ⟨Nat.zero_le _, Nat.zero_le _⟩ (k_X2_readSymbols l D cy q F r6.2 r11.1 r11.2 e12) dX2_readEdit_101 ?_
            refine V_goto X 111 dX2_readEdit_104 (by decide) ?_
            exact V_sub [0] rfl h
      · refine V_iconst (v := (nI 0)) X dX2_readEdit_88 (by decide) ?_
        have h : ((nI 0), r6.2) = (rv, M') := h
        exact R_z X hr hlk rfl (congrArg Prod.fst h) (congrArg Prod.snd h) dX2_readEdit_89
  · refine B_icmp_eq X 53 dX2_readEdit_21 (by decide) h (fun h => ?_) (fun h => ?_)
    · exact V_sub [0] rfl h
    · refine V_aload_n X dX2_readEdit_24 0 rfl rfl ?_
      refine G_2_3 X inX2 wFL_X2_63 dX2_readEdit_25 ?_
      refine V_bipush (v := (nI 45)) X dX2_readEdit_28 (by decide) ?_
      refine B_icmp_eq X 53 dX2_readEdit_30 (by decide) h (fun h => ?_) (fun h => ?_)
      · exact V_sub [0] rfl h
      · refine V_aload_n X dX2_readEdit_33 0 rfl rfl ?_
        refine G_2_3 X inX2 wFL_X2_63 dX2_readEdit_34 ?_
        refine V_bipush (v := (nI 120)) X dX2_readEdit_37 (by decide) ?_
        refine B_icmp_eq X 53 dX2_readEdit_39 (by decide) h (fun h => ?_) (fun h => ?_)
        · exact V_sub [0] rfl h
        · refine V_aload_n X dX2_readEdit_42 0 rfl rfl ?_
          refine G_2_3 X inX2 wFL_X2_63 dX2_readEdit_43 ?_
          refine V_bipush (v := (nI 114)) X dX2_readEdit_46 (by decide) ?_
          refine B_icmp_eq X 53 dX2_readEdit_48 (by decide) h (fun h => ?_) (fun h => ?_)
          · exact V_sub [0] rfl h
          · refine V_iconst (v := (nI 0)) X dX2_readEdit_51 (by decide) ?_
            have h : ((nI 0), (up M 39 3 r1)) = (rv, M') := h
            exact R_z X hr hlk rfl (congrArg Prod.fst h) (congrArg Prod.snd h) dX2_readEdit_52
def rm_X2_hasPlaces : Room := { frames := 1, cells := 0, slots := 0, locals := 22 }
def f_X2_hasPlaces (M : Mm) : Option (Int32) :=
  (if (M 39 3) = nI 43 then ((f_X3_size 11 M).bind fun r2 => (f_X6_isAtMost (M 39 4) r2).bind fun r4 => if isB r4 = true then some r4 else none) else (if (M 39 3) = nI 45 then ((f_X3_hasSpan 11 (M 39 4) ((M 39 4) + (M 39 5)) M).bind fun r8 => if isB r8 = true then some r8 else none) else (if (M 39 3) = nI 120 then ((f_X3_hasPlace 11 (M 39 4) M).bind fun r12 => if r12 = 0 then (some (nI 0)) else ((f_X3_hasPlace 11 (M 39 5) M).bind fun r14 => if r14 = 0 then (some (nI 0)) else (some (nI 1)))) else ((f_X3_hasSpan 11 (M 39 4) (M 39 5) M).bind fun r16 => if isB r16 = true then some r16 else none))))
set_option maxRecDepth 100000 in
set_option maxHeartbeats 4000000 in
theorem k_X2_hasPlaces (l : Launch) (D : va_G) (cy : Nat → ClassId) (q : Nat → Nat)  (M : Mm) (rv : Int32) (h0 : f_X2_hasPlaces M = some rv) : KI l yX2_hasPlaces (Cond.code yX2_hasPlaces cX2_hasPlaces 1 (Option.some FieldType.boolean) :: gw) rm_X2_hasPlaces D cy q [.ref (q 39)] M rv M := by
  refine KI.mk (L0 := [(0, .ref (q 39))]) (by decide +kernel) rfl (Nat.le_of_ble_eq_true rfl) rfl rfl rfl ?_
  intro p e s m below meth c X0 hr hlk
  have X := Fx.gw (own := RX2) X0
  clear X0
  have h : Ok (f_X2_hasPlaces M) (fun r => r = rv) := Ok.of h0 rfl
  clear h0
  delta f_X2_hasPlaces at h
  refine V_aload_n X dX2_hasPlaces_0 0 rfl rfl ?_
  refine G_2_3 X inX2 wFL_X2_63 dX2_hasPlaces_1 ?_
  by_cases g1 : (M 39 3) = nI 43
  · have h := h.pos g1
    refine V_lookup X 40 dX2_hasPlaces_4 (by decide) (by rw [g1] <;> rfl) (by decide) ?_
    refine V_aload_n X dX2_hasPlaces_40 0 rfl rfl ?_
    refine G_2_4 X inX2 wFL_X2_69 dX2_hasPlaces_41 ?_
    refine V_aload_n X dX2_hasPlaces_44 0 rfl rfl ?_
    refine G_2_1 X inX2 wFL_X2_21 dX2_hasPlaces_45 ?_
    obtain ⟨r2, e3, h⟩ := (Ok.bind h).ex
    refine C_Vi (As := []) (M' := M) (k0 := 11) X (wd_row row_11) rfl (cwV 0 X.1.2.2.2.2 (gw_V wML_X2_94 wIM_X3_size wSE_X3_size wIN_X3 (gw_c wCD_X3_size)) rfl rfl rfl (by decide +kernel) ⟨Nat.le_of_ble_eq_true rfl, Nat.le_of_ble_eq_true rfl⟩) rfl rfl (Nat.le_of_ble_eq_true rfl) ⟨Nat.zero_le _, Nat.zero_le _⟩ (k_X3_size l D cy q 11 row_11 M r2 e3) dX2_hasPlaces_48 ?_
    obtain ⟨r4, e5, h⟩ := (Ok.bind h).ex
    refine C_Ni (As := [.int (M 39 4), .int r2]) (M' := M) X ⟨va_cnB 2 X.1.2.2.2.2 (gw_code wCD_X6_isAtMost) rfl rfl rfl X.2.1.2.2.2.2.2 (X.1.2.2.2.2 _ wIN_X6) (by decide +kernel) ⟨Nat.le_of_ble_eq_true rfl, Nat.le_of_ble_eq_true rfl⟩, X.1.2.2.2.2 _ wST_X6_isAtMost, trivial⟩ rfl rfl (Nat.le_of_ble_eq_true rfl) ⟨Nat.zero_le _, Nat.zero_le _⟩ (k_X6_isAtMost l D cy q (M 39 4) r2 M r4 e5) dX2_hasPlaces_51 ?_
    obtain ⟨hz6, h⟩ := h.test
    have h : r4 = rv := h
    exact R_z X hr hlk (isB_ok hz6) h rfl dX2_hasPlaces_54
  have h := h.neg g1
  by_cases g7 : (M 39 3) = nI 45
  · have h := h.pos g7
    refine V_lookup X 55 dX2_hasPlaces_4 (by decide) (by rw [g7] <;> rfl) (by decide) ?_
    refine V_aload_n X dX2_hasPlaces_55 0 rfl rfl ?_
    refine G_2_1 X inX2 wFL_X2_21 dX2_hasPlaces_56 ?_
    refine V_aload_n X dX2_hasPlaces_59 0 rfl rfl ?_
    refine G_2_4 X inX2 wFL_X2_69 dX2_hasPlaces_60 ?_
    refine V_aload_n X dX2_hasPlaces_63 0 rfl rfl ?_
    refine G_2_4 X inX2 wFL_X2_69 dX2_hasPlaces_64 ?_
    refine V_aload_n X dX2_hasPlaces_67 0 rfl rfl ?_
    refine G_2_5 X inX2 wFL_X2_79 dX2_hasPlaces_68 ?_
    refine V_iadd X dX2_hasPlaces_71 ?_
    obtain ⟨r8, e9, h⟩ := (Ok.bind h).ex
    refine C_Vi (As := [.int (M 39 4), .int ((M 39 4) + (M 39 5))]) (M' := M) (k0 := 11) X (wd_row row_11) rfl (cwV 2 X.1.2.2.2.2 (gw_V wML_X2_101 wIM_X3_hasSpan wSE_X3_hasSpan wIN_X3 (gw_c wCD_X3_hasSpan)) rfl rfl rfl (by decide +kernel) ⟨Nat.le_of_ble_eq_true rfl, Nat.le_of_ble_eq_true rfl⟩) rfl rfl (Nat.le_of_ble_eq_true rfl) ⟨Nat.zero_le _, Nat.zero_le _⟩ (k_X3_hasSpan l D cy q 11 row_11 (M 39 4) ((M 39 4) + (M 39 5)) M r8 e9) dX2_hasPlaces_72 ?_
    obtain ⟨hz10, h⟩ := h.test
    have h : r8 = rv := h
    exact R_z X hr hlk (isB_ok hz10) h rfl dX2_hasPlaces_75
  have h := h.neg g7
  by_cases g11 : (M 39 3) = nI 120
  · have h := h.pos g11
    refine V_lookup X 76 dX2_hasPlaces_4 (by decide) (by rw [g11] <;> rfl) (by decide) ?_
    refine V_aload_n X dX2_hasPlaces_76 0 rfl rfl ?_
    refine G_2_1 X inX2 wFL_X2_21 dX2_hasPlaces_77 ?_
    refine V_aload_n X dX2_hasPlaces_80 0 rfl rfl ?_
    refine G_2_4 X inX2 wFL_X2_69 dX2_hasPlaces_81 ?_
    obtain ⟨r12, e13, h⟩ := (Ok.bind h).ex
    refine C_Vi (As := [.int (M 39 4)]) (M' := M) (k0 := 11) X (wd_row row_11) rfl (cwV 1 X.1.2.2.2.2 (gw_V wML_X2_104 wIM_X3_hasPlace wSE_X3_hasPlace wIN_X3 (gw_c wCD_X3_hasPlace)) rfl rfl rfl (by decide +kernel) ⟨Nat.le_of_ble_eq_true rfl, Nat.le_of_ble_eq_true rfl⟩) rfl rfl (Nat.le_of_ble_eq_true rfl) ⟨Nat.zero_le _, Nat.zero_le _⟩ (k_X3_hasPlace l D cy q 11 row_11 (M 39 4) M r12 e13) dX2_hasPlaces_84 ?_
    refine B_if_eq X 108 dX2_hasPlaces_87 (by decide) h (fun h => ?_) (fun h => ?_)
    · refine V_iconst (v := (nI 0)) X dX2_hasPlaces_108 (by decide) ?_
      have h : (nI 0) = rv := h
      exact R_z X hr hlk rfl h rfl dX2_hasPlaces_109
    · refine V_aload_n X dX2_hasPlaces_90 0 rfl rfl ?_
      refine G_2_1 X inX2 wFL_X2_21 dX2_hasPlaces_91 ?_
      refine V_aload_n X dX2_hasPlaces_94 0 rfl rfl ?_
      refine G_2_5 X inX2 wFL_X2_79 dX2_hasPlaces_95 ?_
      obtain ⟨r14, e15, h⟩ := (Ok.bind h).ex
      refine C_Vi (As := [.int (M 39 5)]) (M' := M) (k0 := 11) X (wd_row row_11) rfl (cwV 1 X.1.2.2.2.2 (gw_V wML_X2_104 wIM_X3_hasPlace wSE_X3_hasPlace wIN_X3 (gw_c wCD_X3_hasPlace)) rfl rfl rfl (by decide +kernel) ⟨Nat.le_of_ble_eq_true rfl, Nat.le_of_ble_eq_true rfl⟩) rfl rfl (Nat.le_of_ble_eq_true rfl) ⟨Nat.zero_le _, Nat.zero_le _⟩ (k_X3_hasPlace l D cy q 11 row_11 (M 39 5) M r14 e15) dX2_hasPlaces_98 ?_
      refine B_if_eq X 108 dX2_hasPlaces_101 (by decide) h (fun h => ?_) (fun h => ?_)
      · refine V_iconst (v := (nI 0)) X dX2_hasPlaces_108 (by decide) ?_
        have h : (nI 0) = rv := h
        exact R_z X hr hlk rfl h rfl dX2_hasPlaces_109
      · refine V_iconst (v := (nI 1)) X dX2_hasPlaces_104 (by decide) ?_
        refine V_goto X 109 dX2_hasPlaces_105 (by decide) ?_
        have h : (nI 1) = rv := h
        exact R_z X hr hlk rfl h rfl dX2_hasPlaces_109
  have h := h.neg g11
  refine V_lookup (off := 106) X 110 dX2_hasPlaces_4 (by decide) ((lv_osw g1 rfl).trans ((lv_osw g7 rfl).trans ((lv_osw g11 rfl).trans (rfl)))) (by decide) ?_
  refine V_aload_n X dX2_hasPlaces_110 0 rfl rfl ?_
  refine G_2_1 X inX2 wFL_X2_21 dX2_hasPlaces_111 ?_
  refine V_aload_n X dX2_hasPlaces_114 0 rfl rfl ?_
  refine G_2_4 X inX2 wFL_X2_69 dX2_hasPlaces_115 ?_
  refine V_aload_n X dX2_hasPlaces_118 0 rfl rfl ?_
  refine G_2_5 X inX2 wFL_X2_79 dX2_hasPlaces_119 ?_
  obtain ⟨r16, e17, h⟩ := (Ok.bind h).ex
  refine C_Vi (As := [.int (M 39 4), .int (M 39 5)]) (M' := M) (k0 := 11) X (wd_row row_11) rfl (cwV 2 X.1.2.2.2.2 (gw_V wML_X2_101 wIM_X3_hasSpan wSE_X3_hasSpan wIN_X3 (gw_c wCD_X3_hasSpan)) rfl rfl rfl (by decide +kernel) ⟨Nat.le_of_ble_eq_true rfl, Nat.le_of_ble_eq_true rfl⟩) rfl rfl (Nat.le_of_ble_eq_true rfl) ⟨Nat.zero_le _, Nat.zero_le _⟩ (k_X3_hasSpan l D cy q 11 row_11 (M 39 4) (M 39 5) M r16 e17) dX2_hasPlaces_122 ?_
  obtain ⟨hz18, h⟩ := h.test
  have h : r16 = rv := h
  exact R_z X hr hlk (isB_ok hz18) h rfl dX2_hasPlaces_125
def rm_X2_reasonAgainst : Room := { frames := 2, cells := 0, slots := 0, locals := 42 }
def f_X2_reasonAgainst (M : Mm) : Option (Int32) :=
  (f_X2_hasPlaces M).bind fun r1 => if r1 = 0 then (some (nI 2)) else (if (M 39 3) = (nI 43) then ((f_X3_size 11 M).bind fun r3 => if (r3 + (M 39 5)) ≤ (nI 60) then (some (nI 0)) else (some (nI 3))) else (some (nI 0)))
set_option maxRecDepth 100000 in
set_option maxHeartbeats 4000000 in
theorem k_X2_reasonAgainst (l : Launch) (D : va_G) (cy : Nat → ClassId) (q : Nat → Nat)  (M : Mm) (rv : Int32) (h0 : f_X2_reasonAgainst M = some rv) : KI l yX2_reasonAgainst (Cond.code yX2_reasonAgainst cX2_reasonAgainst 1 (Option.some FieldType.int) :: gw) rm_X2_reasonAgainst D cy q [.ref (q 39)] M rv M := by
  refine KI.mk (L0 := [(0, .ref (q 39))]) (by decide +kernel) rfl (Nat.le_of_ble_eq_true rfl) rfl rfl rfl ?_
  intro p e s m below meth c X0 hr hlk
  have X := Fx.gw (own := RX2) X0
  clear X0
  have h : Ok (f_X2_reasonAgainst M) (fun r => r = rv) := Ok.of h0 rfl
  clear h0
  delta f_X2_reasonAgainst at h
  refine V_aload_n X dX2_reasonAgainst_0 0 rfl rfl ?_
  obtain ⟨r1, e2, h⟩ := (Ok.bind h).ex
  refine C_Vi (As := []) (M' := M) (k0 := 39) X rfl rfl (cwV 0 X.1.2.2.2.2 (gw_V wML_X2_91 wIM_X2_hasPlaces wSE_X2_hasPlaces wIN_X2 (gw_c wCD_X2_hasPlaces)) rfl rfl rfl (by decide +kernel) ⟨Nat.le_of_ble_eq_true rfl, Nat.le_of_ble_eq_true rfl⟩) rfl rfl (Nat.le_of_ble_eq_true rfl) ⟨Nat.zero_le _, Nat.zero_le _⟩ (k_X2_hasPlaces l D cy q M r1 e2) dX2_reasonAgainst_1 ?_
  refine B_if_ne X 9 dX2_reasonAgainst_4 (by decide) h (fun h => ?_) (fun h => ?_)
  · refine V_aload_n X dX2_reasonAgainst_9 0 rfl rfl ?_
    refine G_2_3 X inX2 wFL_X2_63 dX2_reasonAgainst_10 ?_
    refine V_bipush (v := (nI 43)) X dX2_reasonAgainst_13 (by decide) ?_
    refine B_icmp_ne X 39 dX2_reasonAgainst_15 (by decide) h (fun h => ?_) (fun h => ?_)
    · refine V_iconst (v := (nI 0)) X dX2_reasonAgainst_39 (by decide) ?_
      have h : (nI 0) = rv := h
      exact R_i X hr hlk h rfl dX2_reasonAgainst_40
    · refine V_aload_n X dX2_reasonAgainst_18 0 rfl rfl ?_
      refine G_2_1 X inX2 wFL_X2_21 dX2_reasonAgainst_19 ?_
      obtain ⟨r3, e4, h⟩ := (Ok.bind h).ex
      refine C_Vi (As := []) (M' := M) (k0 := 11) X (wd_row row_11) rfl (cwV 0 X.1.2.2.2.2 (gw_V wML_X2_94 wIM_X3_size wSE_X3_size wIN_X3 (gw_c wCD_X3_size)) rfl rfl rfl (by decide +kernel) ⟨Nat.le_of_ble_eq_true rfl, Nat.le_of_ble_eq_true rfl⟩) rfl rfl (Nat.le_of_ble_eq_true rfl) ⟨Nat.zero_le _, Nat.zero_le _⟩ (k_X3_size l D cy q 11 row_11 M r3 e4) dX2_reasonAgainst_22 ?_
      refine V_aload_n X dX2_reasonAgainst_25 0 rfl rfl ?_
      refine G_2_5 X inX2 wFL_X2_79 dX2_reasonAgainst_26 ?_
      refine V_iadd X dX2_reasonAgainst_29 ?_
      refine V_bipush (v := (nI 60)) X dX2_reasonAgainst_30 (by decide) ?_
      refine B_icmp_le X 39 dX2_reasonAgainst_32 (by decide) h (fun h => ?_) (fun h => ?_)
      · refine V_iconst (v := (nI 0)) X dX2_reasonAgainst_39 (by decide) ?_
        have h : (nI 0) = rv := h
        exact R_i X hr hlk h rfl dX2_reasonAgainst_40
      · refine V_iconst (v := (nI 3)) X dX2_reasonAgainst_35 (by decide) ?_
        refine V_goto X 40 dX2_reasonAgainst_36 (by decide) ?_
        have h : (nI 3) = rv := h
        exact R_i X hr hlk h rfl dX2_reasonAgainst_40
  · refine V_iconst (v := (nI 2)) X dX2_reasonAgainst_7 (by decide) ?_
    have h : (nI 2) = rv := h
    exact R_i X hr hlk h rfl dX2_reasonAgainst_8
def rm_X2_putSymbolsIn : Room := { frames := 2, cells := 0, slots := 0, locals := 44 }
def f_X2_putSymbolsIn (F : Nat) (M : Mm) : Option (Mm) :=
  lpf (fun z1 : Int32 × Mm => if (z1.2 39 5) ≤ z1.1 then (some (.inr z1.2)) else ((f_X5_symbolValueAt ((z1.2 39 6) + z1.1) z1.2).bind fun r2 => (f_X3_insert F 11 ((z1.2 39 4) + z1.1) r2 z1.2).bind fun r4 => some (.inl ((z1.1 + (nI 1)), r4)))) F ((nI 0), M)
set_option maxRecDepth 100000 in
set_option maxHeartbeats 4000000 in
theorem k_X2_putSymbolsIn (l : Launch) (D : va_G) (cy : Nat → ClassId) (q : Nat → Nat) (F : Nat) (M : Mm) (M' : Mm) (h0 : f_X2_putSymbolsIn F M = some M') : KV l yX2_putSymbolsIn (Cond.code yX2_putSymbolsIn cX2_putSymbolsIn 2 none :: gw) rm_X2_putSymbolsIn D cy q [.ref (q 39)] M M' := by
  refine KV.mk (L0 := [(0, .ref (q 39))]) (by decide +kernel) rfl (Nat.le_of_ble_eq_true rfl) rfl rfl rfl ?_
  intro p e s m below meth c X0 hr hlk
  have X := Fx.gw (own := RX2) X0
  clear X0
  have h : Ok (f_X2_putSymbolsIn F M) (fun r => r = M') := Ok.of h0 rfl
  clear h0
  delta f_X2_putSymbolsIn at h
  refine V_iconst (v := (nI 0)) X dX2_putSymbolsIn_0 (by decide) ?_
  refine V_istore_n (L' := [(1, .int (nI 0)), (0, .ref (q 39))]) X dX2_putSymbolsIn_1 rfl (by decide) rfl ?_
  refine V_sub (L' := [(0, .ref (q 39)), (1, .int (nI 0))]) [1, 0] rfl ?_
  refine V_loop X h (fun z1 => z1.2) (fun z1 => [(0, .ref (q 39)), (1, .int z1.1)]) rfl rfl (fun z1 h => ?_)
  refine V_iload_n X dX2_putSymbolsIn_2 1 rfl rfl ?_
  refine V_aload_n X dX2_putSymbolsIn_3 0 rfl rfl ?_
  refine G_2_5 X inX2 wFL_X2_79 dX2_putSymbolsIn_4 ?_
  refine B_icmp_ge X 42 dX2_putSymbolsIn_7 (by decide) h (fun h => ?_) (fun h => ?_)
  · have h : z1.2 = M' := h
    exact R_v X hr hlk h dX2_putSymbolsIn_42
  · refine V_aload_n X dX2_putSymbolsIn_10 0 rfl rfl ?_
    refine G_2_1 X inX2 wFL_X2_21 dX2_putSymbolsIn_11 ?_
    refine V_aload_n X dX2_putSymbolsIn_14 0 rfl rfl ?_
    refine G_2_4 X inX2 wFL_X2_69 dX2_putSymbolsIn_15 ?_
    refine V_iload_n X dX2_putSymbolsIn_18 1 rfl rfl ?_
    refine V_iadd X dX2_putSymbolsIn_19 ?_
    refine V_aload_n X dX2_putSymbolsIn_20 0 rfl rfl ?_
    refine G_2_0 X inX2 wFL_X2_12 dX2_putSymbolsIn_21 ?_
    refine V_aload_n X dX2_putSymbolsIn_24 0 rfl rfl ?_
    refine G_2_6 X inX2 wFL_X2_85 dX2_putSymbolsIn_25 ?_
    refine V_iload_n X dX2_putSymbolsIn_28 1 rfl rfl ?_
    refine V_iadd X dX2_putSymbolsIn_29 ?_
    obtain ⟨r2, e3, h⟩ := (Ok.bind h).ex
    refine C_Vi (As := [.int ((z1.2 39 6) + z1.1)]) (M' := z1.2) (k0 := 37) X rfl rfl (cwV 1 X.1.2.2.2.2 (gw_V wML_X2_88 wIM_X5_symbolValueAt wSE_X5_symbolValueAt wIN_X5 (gw_c wCD_X5_symbolValueAt)) rfl rfl rfl (by decide +kernel) ⟨Nat.le_of_ble_eq_true rfl, Nat.le_of_ble_eq_true rfl⟩) rfl rfl (Nat.le_of_ble_eq_true rfl) ⟨Nat.zero_le _, Nat.zero_le _⟩ (k_X5_symbolValueAt l D cy q ((z1.2 39 6) + z1.1) z1.2 r2 e3) dX2_putSymbolsIn_30 ?_
    obtain ⟨r4, e5, h⟩ := (Ok.bind h).ex
    refine C_Vv (As := [.int ((z1.2 39 4) + z1.1), .int r2]) (M' := r4) (k0 := 11) X (wd_row row_11) rfl (cwV 2 X.1.2.2.2.2 (gw_V wML_X2_122 wIM_X3_insert wSE_X3_insert wIN_X3 (gw_c wCD_X3_insert)) rfl rfl rfl (by decide +kernel) ⟨Nat.le_of_ble_eq_true rfl, Nat.le_of_ble_eq_true rfl⟩) rfl rfl (Nat.le_of_ble_eq_true rfl) ⟨Nat.zero_le _, Nat.zero_le _⟩ (k_X3_insert l D cy q F 11 row_11 ((z1.2 39 4) + z1.1) r2 z1.2 r4 e5) dX2_putSymbolsIn_33 ?_
    refine V_iinc (v := (z1.1 + (nI 1))) (L' := [(1, .int (z1.1 + (nI 1))), (0, .ref (q 39))]) (j := 1) X dX2_putSymbolsIn_36 rfl rfl (by decide) rfl ?_
    refine V_goto X 2 dX2_putSymbolsIn_39 (by decide) ?_
    exact V_sub [1, 0] rfl h
def rm_X2_takeSpanOut : Room := { frames := 2, cells := 0, slots := 0, locals := 43 }
def f_X2_takeSpanOut (F : Nat) (M : Mm) : Option (Mm) :=
  lpf (fun z1 : Int32 × Mm => if (z1.2 39 5) ≤ z1.1 then (some (.inr z1.2)) else ((f_X3_remove F 11 (z1.2 39 4) z1.2).bind fun r2 => some (.inl ((z1.1 + (nI 1)), r2)))) F ((nI 0), M)
set_option maxRecDepth 100000 in
set_option maxHeartbeats 4000000 in
theorem k_X2_takeSpanOut (l : Launch) (D : va_G) (cy : Nat → ClassId) (q : Nat → Nat) (F : Nat) (M : Mm) (M' : Mm) (h0 : f_X2_takeSpanOut F M = some M') : KV l yX2_takeSpanOut (Cond.code yX2_takeSpanOut cX2_takeSpanOut 2 none :: gw) rm_X2_takeSpanOut D cy q [.ref (q 39)] M M' := by
  refine KV.mk (L0 := [(0, .ref (q 39))]) (by decide +kernel) rfl (Nat.le_of_ble_eq_true rfl) rfl rfl rfl ?_
  intro p e s m below meth c X0 hr hlk
  have X := Fx.gw (own := RX2) X0
  clear X0
  have h : Ok (f_X2_takeSpanOut F M) (fun r => r = M') := Ok.of h0 rfl
  clear h0
  delta f_X2_takeSpanOut at h
  refine V_iconst (v := (nI 0)) X dX2_takeSpanOut_0 (by decide) ?_
  refine V_istore_n (L' := [(1, .int (nI 0)), (0, .ref (q 39))]) X dX2_takeSpanOut_1 rfl (by decide) rfl ?_
  refine V_sub (L' := [(0, .ref (q 39)), (1, .int (nI 0))]) [1, 0] rfl ?_
  refine V_loop X h (fun z1 => z1.2) (fun z1 => [(0, .ref (q 39)), (1, .int z1.1)]) rfl rfl (fun z1 h => ?_)
  refine V_iload_n X dX2_takeSpanOut_2 1 rfl rfl ?_
  refine V_aload_n X dX2_takeSpanOut_3 0 rfl rfl ?_
  refine G_2_5 X inX2 wFL_X2_79 dX2_takeSpanOut_4 ?_
  refine B_icmp_ge X 27 dX2_takeSpanOut_7 (by decide) h (fun h => ?_) (fun h => ?_)
  · have h : z1.2 = M' := h
    exact R_v X hr hlk h dX2_takeSpanOut_27
  · refine V_aload_n X dX2_takeSpanOut_10 0 rfl rfl ?_
    refine G_2_1 X inX2 wFL_X2_21 dX2_takeSpanOut_11 ?_
    refine V_aload_n X dX2_takeSpanOut_14 0 rfl rfl ?_
    refine G_2_4 X inX2 wFL_X2_69 dX2_takeSpanOut_15 ?_
    obtain ⟨r2, e3, h⟩ := (Ok.bind h).ex
    refine C_Vv (As := [.int (z1.2 39 4)]) (M' := r2) (k0 := 11) X (wd_row row_11) rfl (cwV 1 X.1.2.2.2.2 (gw_V wML_X2_125 wIM_X3_remove wSE_X3_remove wIN_X3 (gw_c wCD_X3_remove)) rfl rfl rfl (by decide +kernel) ⟨Nat.le_of_ble_eq_true rfl, Nat.le_of_ble_eq_true rfl⟩) rfl rfl (Nat.le_of_ble_eq_true rfl) ⟨Nat.zero_le _, Nat.zero_le _⟩ (k_X3_remove l D cy q F 11 row_11 (z1.2 39 4) z1.2 r2 e3) dX2_takeSpanOut_18 ?_
    refine V_iinc (v := (z1.1 + (nI 1))) (L' := [(1, .int (z1.1 + (nI 1))), (0, .ref (q 39))]) (j := 1) X dX2_takeSpanOut_21 rfl rfl (by decide) rfl ?_
    refine V_goto X 2 dX2_takeSpanOut_24 (by decide) ?_
    exact V_sub [1, 0] rfl h
def rm_X2_perform : Room := { frames := 4, cells := 0, slots := 0, locals := 90 }
def f_X2_perform (F : Nat) (M : Mm) : Option (Mm) :=
  (if (M 39 3) = nI 43 then ((f_X2_putSymbolsIn F M).bind fun r2 => some r2) else (if (M 39 3) = nI 45 then ((f_X2_takeSpanOut F M).bind fun r5 => some r5) else (if (M 39 3) = nI 120 then ((f_X3_exchange 11 (M 39 4) (M 39 5) M).bind fun r8 => some r8) else ((f_X3_reverse F 11 (M 39 4) (M 39 5) M).bind fun r10 => some r10.2))))
set_option maxRecDepth 100000 in
set_option maxHeartbeats 4000000 in
theorem k_X2_perform (l : Launch) (D : va_G) (cy : Nat → ClassId) (q : Nat → Nat) (F : Nat) (M : Mm) (M' : Mm) (h0 : f_X2_perform F M = some M') : KV l yX2_perform (Cond.code yX2_perform cX2_perform 1 none :: gw) rm_X2_perform D cy q [.ref (q 39)] M M' := by
  refine KV.mk (L0 := [(0, .ref (q 39))]) (by decide +kernel) rfl (Nat.le_of_ble_eq_true rfl) rfl rfl rfl ?_
  intro p e s m below meth c X0 hr hlk
  have X := Fx.gw (own := RX2) X0
  clear X0
  have h : Ok (f_X2_perform F M) (fun r => r = M') := Ok.of h0 rfl
  clear h0
  delta f_X2_perform at h
  refine V_aload_n X dX2_perform_0 0 rfl rfl ?_
  refine G_2_3 X inX2 wFL_X2_63 dX2_perform_1 ?_
  by_cases g1 : (M 39 3) = nI 43
  · have h := h.pos g1
    refine V_lookup X 40 dX2_perform_4 (by decide) (by rw [g1] <;> rfl) (by decide) ?_
    refine V_aload_n X dX2_perform_40 0 rfl rfl ?_
    obtain ⟨r2, e3, h⟩ := (Ok.bind h).ex
    refine C_Vv (As := []) (M' := r2) (k0 := 39) X rfl rfl (cwV 0 X.1.2.2.2.2 (gw_V wML_X2_108 wIM_X2_putSymbolsIn wSE_X2_putSymbolsIn wIN_X2 (gw_c wCD_X2_putSymbolsIn)) rfl rfl rfl (by decide +kernel) ⟨Nat.le_of_ble_eq_true rfl, Nat.le_of_ble_eq_true rfl⟩) rfl rfl (Nat.le_of_ble_eq_true rfl) ⟨Nat.zero_le _, Nat.zero_le _⟩ (k_X2_putSymbolsIn l D cy q F M r2 e3) dX2_perform_41 ?_
    refine V_goto X 88 dX2_perform_44 (by decide) ?_
    have h : r2 = M' := h
    exact R_v X hr hlk h dX2_perform_88
  have h := h.neg g1
  by_cases g4 : (M 39 3) = nI 45
  · have h := h.pos g4
    refine V_lookup X 47 dX2_perform_4 (by decide) (by rw [g4] <;> rfl) (by decide) ?_
    refine V_aload_n X dX2_perform_47 0 rfl rfl ?_
    obtain ⟨r5, e6, h⟩ := (Ok.bind h).ex
    refine C_Vv (As := []) (M' := r5) (k0 := 39) X rfl rfl (cwV 0 X.1.2.2.2.2 (gw_V wML_X2_111 wIM_X2_takeSpanOut wSE_X2_takeSpanOut wIN_X2 (gw_c wCD_X2_takeSpanOut)) rfl rfl rfl (by decide +kernel) ⟨Nat.le_of_ble_eq_true rfl, Nat.le_of_ble_eq_true rfl⟩) rfl rfl (Nat.le_of_ble_eq_true rfl) ⟨Nat.zero_le _, Nat.zero_le _⟩ (k_X2_takeSpanOut l D cy q F M r5 e6) dX2_perform_48 ?_
    refine V_goto X 88 dX2_perform_51 (by decide) ?_
    have h : r5 = M' := h
    exact R_v X hr hlk h dX2_perform_88
  have h := h.neg g4
  by_cases g7 : (M 39 3) = nI 120
  · have h := h.pos g7
    refine V_lookup X 54 dX2_perform_4 (by decide) (by rw [g7] <;> rfl) (by decide) ?_
    refine V_aload_n X dX2_perform_54 0 rfl rfl ?_
    refine G_2_1 X inX2 wFL_X2_21 dX2_perform_55 ?_
    refine V_aload_n X dX2_perform_58 0 rfl rfl ?_
    refine G_2_4 X inX2 wFL_X2_69 dX2_perform_59 ?_
    refine V_aload_n X dX2_perform_62 0 rfl rfl ?_
    refine G_2_5 X inX2 wFL_X2_79 dX2_perform_63 ?_
    obtain ⟨r8, e9, h⟩ := (Ok.bind h).ex
    refine C_Vv (As := [.int (M 39 4), .int (M 39 5)]) (M' := r8) (k0 := 11) X (wd_row row_11) rfl (cwV 2 X.1.2.2.2.2 (gw_V wML_X2_114 wIM_X3_exchange wSE_X3_exchange wIN_X3 (gw_c wCD_X3_exchange)) rfl rfl rfl (by decide +kernel) ⟨Nat.le_of_ble_eq_true rfl, Nat.le_of_ble_eq_true rfl⟩) rfl rfl (Nat.le_of_ble_eq_true rfl) ⟨Nat.zero_le _, Nat.zero_le _⟩ (k_X3_exchange l D cy q 11 row_11 (M 39 4) (M 39 5) M r8 e9) dX2_perform_66 ?_
    refine V_goto X 88 dX2_perform_69 (by decide) ?_
    have h : r8 = M' := h
    exact R_v X hr hlk h dX2_perform_88
  have h := h.neg g7
  refine V_lookup (off := 68) X 72 dX2_perform_4 (by decide) ((lv_osw g1 rfl).trans ((lv_osw g4 rfl).trans ((lv_osw g7 rfl).trans (rfl)))) (by decide) ?_
  refine V_aload_n X dX2_perform_72 0 rfl rfl ?_
  refine G_2_1 X inX2 wFL_X2_21 dX2_perform_73 ?_
  refine V_aload_n X dX2_perform_76 0 rfl rfl ?_
  refine G_2_4 X inX2 wFL_X2_69 dX2_perform_77 ?_
  refine V_aload_n X dX2_perform_80 0 rfl rfl ?_
  refine G_2_5 X inX2 wFL_X2_79 dX2_perform_81 ?_
  obtain ⟨r10, e11, h⟩ := (Ok.bind h).ex
  refine C_Vi (As := [.int (M 39 4), .int (M 39 5)]) (M' := r10.2) (k0 := 11) X (wd_row row_11) rfl (cwV 2 X.1.2.2.2.2 (gw_V wML_X2_118 wIM_X3_reverse wSE_X3_reverse wIN_X3 (gw_c wCD_X3_reverse)) rfl rfl rfl (by decide +kernel) ⟨Nat.le_of_ble_eq_true rfl, Nat.le_of_ble_eq_true rfl⟩) rfl rfl (Nat.le_of_ble_eq_true rfl) ⟨Nat.zero_le _, Nat.zero_le _⟩ (k_X3_reverse l D cy q F 11 row_11 (M 39 4) (M 39 5) M r10.1 r10.2 e11) dX2_perform_84 ?_
  refine V_pop X dX2_perform_87 rfl ?_
  have h : r10.2 = M' := h
  exact R_v X hr hlk h dX2_perform_88
def rm_X2_playEdit : Room := { frames := 5, cells := 0, slots := 0, locals := 110 }
def f_X2_playEdit (F : Nat) (M : Mm) : Option (Mm) :=
  (f_X2_readEdit F (up M 39 7 (M 39 2))).bind fun r1 => if r1.1 = 0 then (some (up (up r1.2 39 8 (nI 1)) 39 9 (((up r1.2 39 8 (nI 1)) 39 2) - ((up r1.2 39 8 (nI 1)) 39 7)))) else ((f_X2_reasonAgainst r1.2).bind fun r3 => if ((up r1.2 39 8 r3) 39 8) = 0 then ((f_X2_perform F (up r1.2 39 8 r3)).bind fun r5 => some r5) else (some (up r1.2 39 8 r3)))
set_option maxRecDepth 100000 in
set_option maxHeartbeats 4000000 in
theorem k_X2_playEdit (l : Launch) (D : va_G) (cy : Nat → ClassId) (q : Nat → Nat) (F : Nat) (M : Mm) (M' : Mm) (h0 : f_X2_playEdit F M = some M') : KV l yX2_playEdit (Cond.code yX2_playEdit cX2_playEdit 1 none :: gw) rm_X2_playEdit D cy q [.ref (q 39)] M M' := by
  refine KV.mk (L0 := [(0, .ref (q 39))]) (by decide +kernel) rfl (Nat.le_of_ble_eq_true rfl) rfl rfl rfl ?_
  intro p e s m below meth c X0 hr hlk
  have X := Fx.gw (own := RX2) X0
  clear X0
  have h : Ok (f_X2_playEdit F M) (fun r => r = M') := Ok.of h0 rfl
  clear h0
  delta f_X2_playEdit at h
  refine V_aload_n X dX2_playEdit_0 0 rfl rfl ?_
  refine V_aload_n X dX2_playEdit_1 0 rfl rfl ?_
  refine G_2_2 X inX2 wFL_X2_39 dX2_playEdit_2 ?_
  refine P_2_7 X inX2 wFL_X2_25 dX2_playEdit_5 ?_
  refine V_aload_n X dX2_playEdit_8 0 rfl rfl ?_
  obtain ⟨r1, e2, h⟩ := (Ok.bind h).ex
  refine C_Vi (As := []) (M' := r1.2) (k0 := 39) X rfl rfl (cwV 0 X.1.2.2.2.2 (gw_V wML_X2_49 wIM_X2_readEdit wSE_X2_readEdit wIN_X2 (gw_c wCD_X2_readEdit)) rfl rfl rfl (by decide +kernel) ⟨Nat.le_of_ble_eq_true rfl, Nat.le_of_ble_eq_true rfl⟩) rfl rfl (Nat.le_of_ble_eq_true rfl) ⟨Nat.zero_le _, Nat.zero_le _⟩ (k_X2_readEdit l D cy q F (up M 39 7 (M 39 2)) r1.1 r1.2 e2) dX2_playEdit_9 ?_
  refine B_if_ne X 34 dX2_playEdit_12 (by decide) h (fun h => ?_) (fun h => ?_)
  · refine V_aload_n X dX2_playEdit_34 0 rfl rfl ?_
    refine V_aload_n X dX2_playEdit_35 0 rfl rfl ?_
    obtain ⟨r3, e4, h⟩ := (Ok.bind h).ex
    refine C_Vi (As := []) (M' := r1.2) (k0 := 39) X rfl rfl (cwV 0 X.1.2.2.2.2 (gw_V wML_X2_53 wIM_X2_reasonAgainst wSE_X2_reasonAgainst wIN_X2 (gw_c wCD_X2_reasonAgainst)) rfl rfl rfl (by decide +kernel) ⟨Nat.le_of_ble_eq_true rfl, Nat.le_of_ble_eq_true rfl⟩) rfl rfl (Nat.le_of_ble_eq_true rfl) ⟨Nat.zero_le _, Nat.zero_le _⟩ (k_X2_reasonAgainst l D cy q r1.2 r3 e4) dX2_playEdit_36 ?_
    refine P_2_8 X inX2 wFL_X2_29 dX2_playEdit_39 ?_
    refine V_aload_n X dX2_playEdit_42 0 rfl rfl ?_
    refine G_2_8 X inX2 wFL_X2_29 dX2_playEdit_43 ?_
    refine B_if_ne X 53 dX2_playEdit_46 (by decide) h (fun h => ?_) (fun h => ?_)
    · have h : (up r1.2 39 8 r3) = M' := h
      exact R_v X hr hlk h dX2_playEdit_53
    · refine V_aload_n X dX2_playEdit_49 0 rfl rfl ?_
      obtain ⟨r5, e6, h⟩ := (Ok.bind h).ex
      refine C_Vv (As := []) (M' := r5) (k0 := 39) X rfl rfl (cwV 0 X.1.2.2.2.2 (gw_V wML_X2_56 wIM_X2_perform wSE_X2_perform wIN_X2 (gw_c wCD_X2_perform)) rfl rfl rfl (by decide +kernel) ⟨Nat.le_of_ble_eq_true rfl, Nat.le_of_ble_eq_true rfl⟩) rfl rfl (Nat.le_of_ble_eq_true rfl) ⟨Nat.zero_le _, Nat.zero_le _⟩ (k_X2_perform l D cy q F (up r1.2 39 8 r3) r5 e6) dX2_playEdit_50 ?_
      have h : r5 = M' := h
      exact R_v X hr hlk h dX2_playEdit_53
  · refine V_aload_n X dX2_playEdit_15 0 rfl rfl ?_
    refine V_iconst (v := (nI 1)) X dX2_playEdit_16 (by decide) ?_
    refine P_2_8 X inX2 wFL_X2_29 dX2_playEdit_17 ?_
    refine V_aload_n X dX2_playEdit_20 0 rfl rfl ?_
    refine V_aload_n X dX2_playEdit_21 0 rfl rfl ?_
    refine G_2_2 X inX2 wFL_X2_39 dX2_playEdit_22 ?_
    refine V_aload_n X dX2_playEdit_25 0 rfl rfl ?_
    refine G_2_7 X inX2 wFL_X2_25 dX2_playEdit_26 ?_
    refine V_isub X dX2_playEdit_29 ?_
    refine P_2_9 X inX2 wFL_X2_32 dX2_playEdit_30 ?_
    have h : (up (up r1.2 39 8 (nI 1)) 39 9 (((up r1.2 39 8 (nI 1)) 39 2) - ((up r1.2 39 8 (nI 1)) 39 7))) = M' := h
    exact R_v X hr hlk h dX2_playEdit_33
def rm_X2_playAll : Room := { frames := 6, cells := 0, slots := 0, locals := 130 }
def f_X2_playAll (F : Nat) (k0 : Nat) (M : Mm) : Option (Mm) :=
  (f_X3_copyFrom F 11 k0 M).bind fun r1 => lpf (fun z3 : Int32 × Mm => if (nI 60) ≤ z3.1 then (some (.inr z3.2)) else (if (z3.2 39 8) = 0 then ((f_X5_length z3.2).bind fun r4 => if r4 ≤ (z3.2 39 2) then (some (.inr z3.2)) else ((f_X2_playEdit F z3.2).bind fun r6 => some (.inl ((z3.1 + (nI 1)), r6)))) else (some (.inr z3.2)))) F ((nI 0), (up (up r1 39 2 (nI 0)) 39 8 (nI 0)))
set_option maxRecDepth 100000 in
set_option maxHeartbeats 4000000 in
theorem k_X2_playAll (l : Launch) (D : va_G) (cy : Nat → ClassId) (q : Nat → Nat) (F : Nat) (k0 : Nat) (hk0 : isRow k0) (M : Mm) (M' : Mm) (h0 : f_X2_playAll F k0 M = some M') : KV l yX2_playAll (Cond.code yX2_playAll cX2_playAll 3 none :: gw) rm_X2_playAll D cy q [.ref (q 39), .ref (q k0)] M M' := by
  refine KV.mk (L0 := [(0, .ref (q 39)), (1, .ref (q k0))]) (by decide +kernel) rfl (Nat.le_of_ble_eq_true rfl) rfl rfl rfl ?_
  intro p e s m below meth c X0 hr hlk
  have X := Fx.gw (own := RX2) X0
  clear X0
  have h : Ok (f_X2_playAll F k0 M) (fun r => r = M') := Ok.of h0 rfl
  clear h0
  delta f_X2_playAll at h
  refine V_aload_n X dX2_playAll_0 0 rfl rfl ?_
  refine G_2_1 X inX2 wFL_X2_21 dX2_playAll_1 ?_
  refine V_aload_n X dX2_playAll_4 1 rfl rfl ?_
  obtain ⟨r1, e2, h⟩ := (Ok.bind h).ex
  refine C_Vv (As := [.ref (q k0)]) (M' := r1) (k0 := 11) X (wd_row row_11) rfl (cwV 1 X.1.2.2.2.2 (gw_V wML_X2_35 wIM_X3_copyFrom wSE_X3_copyFrom wIN_X3 (gw_c wCD_X3_copyFrom)) rfl rfl rfl (by decide +kernel) ⟨Nat.le_of_ble_eq_true rfl, Nat.le_of_ble_eq_true rfl⟩) rfl rfl (Nat.le_of_ble_eq_true rfl) ⟨Nat.zero_le _, Nat.zero_le _⟩ (k_X3_copyFrom l D cy q F 11 row_11 k0 hk0 M r1 e2) dX2_playAll_5 ?_
  refine V_aload_n X dX2_playAll_8 0 rfl rfl ?_
  refine V_iconst (v := (nI 0)) X dX2_playAll_9 (by decide) ?_
  refine P_2_2 X inX2 wFL_X2_39 dX2_playAll_10 ?_
  refine V_aload_n X dX2_playAll_13 0 rfl rfl ?_
  refine V_iconst (v := (nI 0)) X dX2_playAll_14 (by decide) ?_
  refine P_2_8 X inX2 wFL_X2_29 dX2_playAll_15 ?_
  refine V_iconst (v := (nI 0)) X dX2_playAll_18 (by decide) ?_
  refine V_istore_n (L' := [(2, .int (nI 0)), (0, .ref (q 39)), (1, .ref (q k0))]) X dX2_playAll_19 rfl (by decide) rfl ?_
  refine V_sub (L' := [(0, .ref (q 39)), (2, .int (nI 0))]) [1, 0] rfl ?_
  refine V_loop X h (fun z3 => z3.2) (fun z3 => [(0, .ref (q 39)), (2, .int z3.1)]) rfl rfl (fun z3 h => ?_)
  refine V_iload_n X dX2_playAll_20 1 rfl rfl ?_
  refine V_bipush (v := (nI 60)) X dX2_playAll_21 (by decide) ?_
  refine B_icmp_ge X 57 dX2_playAll_23 (by decide) h (fun h => ?_) (fun h => ?_)
  · have h : z3.2 = M' := h
    exact R_v X hr hlk h dX2_playAll_57
  · refine V_aload_n X dX2_playAll_26 0 rfl rfl ?_
    refine G_2_8 X inX2 wFL_X2_29 dX2_playAll_27 ?_
    refine B_if_ne X 57 dX2_playAll_30 (by decide) h (fun h => ?_) (fun h => ?_)
    · have h : z3.2 = M' := h
      exact R_v X hr hlk h dX2_playAll_57
    · refine V_aload_n X dX2_playAll_33 0 rfl rfl ?_
      refine G_2_2 X inX2 wFL_X2_39 dX2_playAll_34 ?_
      refine V_aload_n X dX2_playAll_37 0 rfl rfl ?_
      refine G_2_0 X inX2 wFL_X2_12 dX2_playAll_38 ?_
      obtain ⟨r4, e5, h⟩ := (Ok.bind h).ex
      refine C_Vi (As := []) (M' := z3.2) (k0 := 37) X rfl rfl (cwV 0 X.1.2.2.2.2 (gw_V wML_X2_42 wIM_X5_length wSE_X5_length wIN_X5 (gw_c wCD_X5_length)) rfl rfl rfl (by decide +kernel) ⟨Nat.le_of_ble_eq_true rfl, Nat.le_of_ble_eq_true rfl⟩) rfl rfl (Nat.le_of_ble_eq_true rfl) ⟨Nat.zero_le _, Nat.zero_le _⟩ (k_X5_length l D cy q z3.2 r4 e5) dX2_playAll_41 ?_
      refine B_icmp_ge X 57 dX2_playAll_44 (by decide) h (fun h => ?_) (fun h => ?_)
      · have h : z3.2 = M' := h
        exact R_v X hr hlk h dX2_playAll_57
      · refine V_aload_n X dX2_playAll_47 0 rfl rfl ?_
        obtain ⟨r6, e7, h⟩ := (Ok.bind h).ex
        refine C_Vv (As := []) (M' := r6) (k0 := 39) X rfl rfl (cwV 0 X.1.2.2.2.2 (gw_V wML_X2_46 wIM_X2_playEdit wSE_X2_playEdit wIN_X2 (gw_c wCD_X2_playEdit)) rfl rfl rfl (by decide +kernel) ⟨Nat.le_of_ble_eq_true rfl, Nat.le_of_ble_eq_true rfl⟩) rfl rfl (Nat.le_of_ble_eq_true rfl) ⟨Nat.zero_le _, Nat.zero_le _⟩ (k_X2_playEdit l D cy q F z3.2 r6 e7) dX2_playAll_48 ?_
        refine V_iinc (v := (z3.1 + (nI 1))) (L' := [(2, .int (z3.1 + (nI 1))), (0, .ref (q 39))]) (j := 1) X dX2_playAll_51 rfl rfl (by decide) rfl ?_
        refine V_goto X 20 dX2_playAll_54 (by decide) ?_
        exact V_sub [1, 0] rfl h
def rm_X2_reason : Room := { frames := 0, cells := 0, slots := 0, locals := 0 }
def f_X2_reason (M : Mm) : Option (Int32) :=
  some (M 39 8)
set_option maxRecDepth 100000 in
set_option maxHeartbeats 4000000 in
theorem k_X2_reason (l : Launch) (D : va_G) (cy : Nat → ClassId) (q : Nat → Nat)  (M : Mm) (rv : Int32) (h0 : f_X2_reason M = some rv) : KI l yX2_reason (Cond.code yX2_reason cX2_reason 1 (Option.some FieldType.int) :: gw) rm_X2_reason D cy q [.ref (q 39)] M rv M := by
  refine KI.mk (L0 := [(0, .ref (q 39))]) (by decide +kernel) rfl (Nat.le_of_ble_eq_true rfl) rfl rfl rfl ?_
  intro p e s m below meth c X0 hr hlk
  have X := Fx.gw (own := RX2) X0
  clear X0
  have h : Ok (f_X2_reason M) (fun r => r = rv) := Ok.of h0 rfl
  clear h0
  delta f_X2_reason at h
  refine V_aload_n X dX2_reason_0 0 rfl rfl ?_
  refine G_2_8 X inX2 wFL_X2_29 dX2_reason_1 ?_
  have h : (M 39 8) = rv := h
  exact R_i X hr hlk h rfl dX2_reason_4
def rm_X2_position : Room := { frames := 0, cells := 0, slots := 0, locals := 0 }
def f_X2_position (M : Mm) : Option (Int32) :=
  some (M 39 7)
set_option maxRecDepth 100000 in
set_option maxHeartbeats 4000000 in
theorem k_X2_position (l : Launch) (D : va_G) (cy : Nat → ClassId) (q : Nat → Nat)  (M : Mm) (rv : Int32) (h0 : f_X2_position M = some rv) : KI l yX2_position (Cond.code yX2_position cX2_position 1 (Option.some FieldType.int) :: gw) rm_X2_position D cy q [.ref (q 39)] M rv M := by
  refine KI.mk (L0 := [(0, .ref (q 39))]) (by decide +kernel) rfl (Nat.le_of_ble_eq_true rfl) rfl rfl rfl ?_
  intro p e s m below meth c X0 hr hlk
  have X := Fx.gw (own := RX2) X0
  clear X0
  have h : Ok (f_X2_position M) (fun r => r = rv) := Ok.of h0 rfl
  clear h0
  delta f_X2_position at h
  refine V_aload_n X dX2_position_0 0 rfl rfl ?_
  refine G_2_7 X inX2 wFL_X2_25 dX2_position_1 ?_
  have h : (M 39 7) = rv := h
  exact R_i X hr hlk h rfl dX2_position_4
def rm_X2_cause : Room := { frames := 0, cells := 0, slots := 0, locals := 0 }
def f_X2_cause (M : Mm) : Option (Int32) :=
  some (M 39 9)
set_option maxRecDepth 100000 in
set_option maxHeartbeats 4000000 in
theorem k_X2_cause (l : Launch) (D : va_G) (cy : Nat → ClassId) (q : Nat → Nat)  (M : Mm) (rv : Int32) (h0 : f_X2_cause M = some rv) : KI l yX2_cause (Cond.code yX2_cause cX2_cause 1 (Option.some FieldType.int) :: gw) rm_X2_cause D cy q [.ref (q 39)] M rv M := by
  refine KI.mk (L0 := [(0, .ref (q 39))]) (by decide +kernel) rfl (Nat.le_of_ble_eq_true rfl) rfl rfl rfl ?_
  intro p e s m below meth c X0 hr hlk
  have X := Fx.gw (own := RX2) X0
  clear X0
  have h : Ok (f_X2_cause M) (fun r => r = rv) := Ok.of h0 rfl
  clear h0
  delta f_X2_cause at h
  refine V_aload_n X dX2_cause_0 0 rfl rfl ?_
  refine G_2_9 X inX2 wFL_X2_32 dX2_cause_1 ?_
  have h : (M 39 9) = rv := h
  exact R_i X hr hlk h rfl dX2_cause_4
def rm_X6_fault : Room := { frames := 7, cells := 0, slots := 0, locals := 152 }
def f_X6_fault (F : Nat) (a1 : Int32) (M : Mm) : Option (Int32 × Mm) :=
  (f_X6_isAtMost a1 (nI 2)).bind fun r1 => if r1 = 0 then (some ((-1000001 : Int32), M)) else ((f_X2_playAll F 1 M).bind fun r3 => (f_X2_reason r3).bind fun r5 => if r5 = 0 then (some ((-1000004 : Int32), r3)) else (if a1 = 0 then ((f_X2_position r3).bind fun r13 => some (r13, r3)) else (if a1 = (nI 1) then ((f_X2_reason r3).bind fun r11 => some (r11, r3)) else ((f_X2_reason r3).bind fun r7 => if r7 = (nI 1) then ((f_X2_cause r3).bind fun r9 => some (r9, r3)) else (some ((-1000004 : Int32), r3))))))
set_option maxRecDepth 100000 in
set_option maxHeartbeats 4000000 in
theorem k_X6_fault (l : Launch) (D : va_G) (cy : Nat → ClassId) (q : Nat → Nat) (F : Nat) (a1 : Int32) (M : Mm) (rv : Int32) (M' : Mm) (h0 : f_X6_fault F a1 M = some (rv, M')) : KI l yX6_fault (Cond.code yX6_fault cX6_fault 2 (Option.some FieldType.int) :: gw) rm_X6_fault D cy q [.ref (q 0), .int a1] M rv M' := by
  refine KI.mk (L0 := [(0, .ref (q 0)), (1, .int a1)]) (by decide +kernel) rfl (Nat.le_of_ble_eq_true rfl) rfl rfl rfl ?_
  intro p e s m below meth c X0 hr hlk
  have X := Fx.gw (own := RX6) X0
  clear X0
  have h : Ok (f_X6_fault F a1 M) (fun r => r = (rv, M')) := Ok.of h0 rfl
  clear h0
  delta f_X6_fault at h
  refine V_iload_n X dX6_fault_0 1 rfl rfl ?_
  refine V_iconst (v := (nI 2)) X dX6_fault_1 (by decide) ?_
  obtain ⟨r1, e2, h⟩ := (Ok.bind h).ex
  refine C_Si (As := [.int a1, .int (nI 2)]) (M' := M) X (va_cwS 2 X.1.2.2.2.2 (gw_S wML_X6_58 wST_X6_isAtMost wIN_X6 (gw_c wCD_X6_isAtMost)) rfl rfl rfl (by decide +kernel) ⟨Nat.le_of_ble_eq_true rfl, Nat.le_of_ble_eq_true rfl⟩) rfl rfl (Nat.le_of_ble_eq_true rfl) ⟨Nat.zero_le _, Nat.zero_le _⟩ (k_X6_isAtMost l D cy q a1 (nI 2) M r1 e2) dX6_fault_2 ?_
  refine B_if_ne X 11 dX6_fault_5 (by decide) h (fun h => ?_) (fun h => ?_)
  · refine V_aload_n X dX6_fault_11 0 rfl rfl ?_
    refine G_6_5 X inX6 wFL_X6_43 dX6_fault_12 ?_
    refine V_aload_n X dX6_fault_15 0 rfl rfl ?_
    refine G_6_0 X inX6 wFL_X6_10 dX6_fault_16 ?_
    obtain ⟨r3, e4, h⟩ := (Ok.bind h).ex
    refine C_Vv (As := [.ref (q 1)]) (M' := r3) (k0 := 39) X rfl rfl (cwV 1 X.1.2.2.2.2 (gw_V wML_X6_203 wIM_X2_playAll wSE_X2_playAll wIN_X2 (gw_c wCD_X2_playAll)) rfl rfl rfl (by decide +kernel) ⟨Nat.le_of_ble_eq_true rfl, Nat.le_of_ble_eq_true rfl⟩) rfl rfl (Nat.le_of_ble_eq_true rfl) ⟨Nat.zero_le _, Nat.zero_le _⟩ (k_X2_playAll l D cy q F 1 row_1 M r3 e4) dX6_fault_19 ?_
    refine V_aload_n X dX6_fault_22 0 rfl rfl ?_
    refine G_6_5 X inX6 wFL_X6_43 dX6_fault_23 ?_
    obtain ⟨r5, e6, h⟩ := (Ok.bind h).ex
    refine C_Vi (As := []) (M' := r3) (k0 := 39) X rfl rfl (cwV 0 X.1.2.2.2.2 (gw_V wML_X6_206 wIM_X2_reason wSE_X2_reason wIN_X2 (gw_c wCD_X2_reason)) rfl rfl rfl (by decide +kernel) ⟨Nat.le_of_ble_eq_true rfl, Nat.le_of_ble_eq_true rfl⟩) rfl rfl (Nat.le_of_ble_eq_true rfl) ⟨Nat.zero_le _, Nat.zero_le _⟩ (k_X2_reason l D cy q r3 r5 e6) dX6_fault_26 ?_
    refine B_if_ne X 35 dX6_fault_29 (by decide) h (fun h => ?_) (fun h => ?_)
    · refine V_iload_n X dX6_fault_35 1 rfl rfl ?_
      refine B_if_ne X 47 dX6_fault_36 (by decide) h (fun h => ?_) (fun h => ?_)
      · refine V_iload_n X dX6_fault_47 1 rfl rfl ?_
        refine V_iconst (v := (nI 1)) X dX6_fault_48 (by decide) ?_
        refine B_icmp_ne X 60 dX6_fault_49 (by decide) h (fun h => ?_) (fun h => ?_)
        · refine V_aload_n X dX6_fault_60 0 rfl rfl ?_
          refine G_6_5 X inX6 wFL_X6_43 dX6_fault_61 ?_
          obtain ⟨r7, e8, h⟩ := (Ok.bind h).ex
          refine C_Vi (As := []) (M' := r3) (k0 := 39) X rfl rfl (cwV 0 X.1.2.2.2.2 (gw_V wML_X6_206 wIM_X2_reason wSE_X2_reason wIN_X2 (gw_c wCD_X2_reason)) rfl rfl rfl (by decide +kernel) ⟨Nat.le_of_ble_eq_true rfl, Nat.le_of_ble_eq_true rfl⟩) rfl rfl (Nat.le_of_ble_eq_true rfl) ⟨Nat.zero_le _, Nat.zero_le _⟩ (k_X2_reason l D cy q r3 r7 e8) dX6_fault_64 ?_
          refine V_iconst (v := (nI 1)) X dX6_fault_67 (by decide) ?_
          refine B_icmp_ne X 81 dX6_fault_68 (by decide) h (fun h => ?_) (fun h => ?_)
          · refine V_ldc X wKI_X6_108 dX6_fault_81 ?_
            have h : ((-1000004 : Int32), r3) = (rv, M') := h
            exact R_i X hr hlk (congrArg Prod.fst h) (congrArg Prod.snd h) dX6_fault_83
          · refine V_aload_n X dX6_fault_71 0 rfl rfl ?_
            refine G_6_5 X inX6 wFL_X6_43 dX6_fault_72 ?_
            obtain ⟨r9, e10, h⟩ := (Ok.bind h).ex
            refine C_Vi (As := []) (M' := r3) (k0 := 39) X rfl rfl (cwV 0 X.1.2.2.2.2 (gw_V wML_X6_212 wIM_X2_cause wSE_X2_cause wIN_X2 (gw_c wCD_X2_cause)) rfl rfl rfl (by decide +kernel) ⟨Nat.le_of_ble_eq_true rfl, Nat.le_of_ble_eq_true rfl⟩) rfl rfl (Nat.le_of_ble_eq_true rfl) ⟨Nat.zero_le _, Nat.zero_le _⟩ (k_X2_cause l D cy q r3 r9 e10) dX6_fault_75 ?_
            refine V_goto X 83 dX6_fault_78 (by decide) ?_
            have h : (r9, r3) = (rv, M') := h
            exact R_i X hr hlk (congrArg Prod.fst h) (congrArg Prod.snd h) dX6_fault_83
        · refine V_aload_n X dX6_fault_52 0 rfl rfl ?_
          refine G_6_5 X inX6 wFL_X6_43 dX6_fault_53 ?_
          obtain ⟨r11, e12, h⟩ := (Ok.bind h).ex
          refine C_Vi (As := []) (M' := r3) (k0 := 39) X rfl rfl (cwV 0 X.1.2.2.2.2 (gw_V wML_X6_206 wIM_X2_reason wSE_X2_reason wIN_X2 (gw_c wCD_X2_reason)) rfl rfl rfl (by decide +kernel) ⟨Nat.le_of_ble_eq_true rfl, Nat.le_of_ble_eq_true rfl⟩) rfl rfl (Nat.le_of_ble_eq_true rfl) ⟨Nat.zero_le _, Nat.zero_le _⟩ (k_X2_reason l D cy q r3 r11 e12) dX6_fault_56 ?_
          have h : (r11, r3) = (rv, M') := h
          exact R_i X hr hlk (congrArg Prod.fst h) (congrArg Prod.snd h) dX6_fault_59
      · refine V_aload_n X dX6_fault_39 0 rfl rfl ?_
        refine G_6_5 X inX6 wFL_X6_43 dX6_fault_40 ?_
        obtain ⟨r13, e14, h⟩ := (Ok.bind h).ex
        refine C_Vi (As := []) (M' := r3) (k0 := 39) X rfl rfl (cwV 0 X.1.2.2.2.2 (gw_V wML_X6_209 wIM_X2_position wSE_X2_position wIN_X2 (gw_c wCD_X2_position)) rfl rfl rfl (by decide +kernel) ⟨Nat.le_of_ble_eq_true rfl, Nat.le_of_ble_eq_true rfl⟩) rfl rfl (Nat.le_of_ble_eq_true rfl) ⟨Nat.zero_le _, Nat.zero_le _⟩ (k_X2_position l D cy q r3 r13 e14) dX6_fault_43 ?_
        have h : (r13, r3) = (rv, M') := h
        exact R_i X hr hlk (congrArg Prod.fst h) (congrArg Prod.snd h) dX6_fault_46
    · refine V_ldc X wKI_X6_108 dX6_fault_32 ?_
      have h : ((-1000004 : Int32), r3) = (rv, M') := h
      exact R_i X hr hlk (congrArg Prod.fst h) (congrArg Prod.snd h) dX6_fault_34
  · refine V_ldc X wKI_X6_66 dX6_fault_8 ?_
    have h : ((-1000001 : Int32), M) = (rv, M') := h
    exact R_i X hr hlk (congrArg Prod.fst h) (congrArg Prod.snd h) dX6_fault_10
def rm_X2_outcome : Room := { frames := 0, cells := 0, slots := 0, locals := 0 }
set_option maxRecDepth 100000 in
set_option maxHeartbeats 4000000 in
theorem k_X2_outcome (l : Launch) (D : va_G) (cy : Nat → ClassId) (q : Nat → Nat)  (M : Mm)   : KR l yX2_outcome (Cond.code yX2_outcome cX2_outcome 1 (Option.some (FieldType.object "BitLevels$Row")) :: gw) rm_X2_outcome D cy q [.ref (q 39)] M 11 M := by
  refine KR.mk (L0 := [(0, .ref (q 39))]) (by decide +kernel) rfl (Nat.le_of_ble_eq_true rfl) rfl rfl rfl ?_
  intro p e s m below meth c X0 hr hlk
  have X := Fx.gw (own := RX2) X0
  clear X0
  refine V_aload_n X dX2_outcome_0 0 rfl rfl ?_
  refine G_2_1 X inX2 wFL_X2_21 dX2_outcome_1 ?_
  exact R_r X hr hlk rfl dX2_outcome_4
def rm_X6_play : Room := { frames := 7, cells := 0, slots := 0, locals := 152 }
def f_X6_play (F : Nat) (M : Mm) : Option (Int32 × Mm) :=
  (f_X2_playAll F 1 M).bind fun r1 => (f_X2_reason r1).bind fun r3 => if r3 = 0 then ((f_X0_remember F 1 r1).bind fun r5 => (f_X3_copyFrom F 1 11 r5).bind fun r9 => (f_X3_size 1 r9).bind fun r11 => some (r11, r9)) else (some ((-1000002 : Int32), r1))
set_option maxRecDepth 100000 in
set_option maxHeartbeats 4000000 in
theorem k_X6_play (l : Launch) (D : va_G) (cy : Nat → ClassId) (q : Nat → Nat) (F : Nat) (M : Mm) (rv : Int32) (M' : Mm) (h0 : f_X6_play F M = some (rv, M')) : KI l yX6_play (Cond.code yX6_play cX6_play 1 (Option.some FieldType.int) :: gw) rm_X6_play D cy q [.ref (q 0)] M rv M' := by
  refine KI.mk (L0 := [(0, .ref (q 0))]) (by decide +kernel) rfl (Nat.le_of_ble_eq_true rfl) rfl rfl rfl ?_
  intro p e s m below meth c X0 hr hlk
  have X := Fx.gw (own := RX6) X0
  clear X0
  have h : Ok (f_X6_play F M) (fun r => r = (rv, M')) := Ok.of h0 rfl
  clear h0
  delta f_X6_play at h
  refine V_aload_n X dX6_play_0 0 rfl rfl ?_
  refine G_6_5 X inX6 wFL_X6_43 dX6_play_1 ?_
  refine V_aload_n X dX6_play_4 0 rfl rfl ?_
  refine G_6_0 X inX6 wFL_X6_10 dX6_play_5 ?_
  obtain ⟨r1, e2, h⟩ := (Ok.bind h).ex
  refine C_Vv (As := [.ref (q 1)]) (M' := r1) (k0 := 39) X rfl rfl (cwV 1 X.1.2.2.2.2 (gw_V wML_X6_203 wIM_X2_playAll wSE_X2_playAll wIN_X2 (gw_c wCD_X2_playAll)) rfl rfl rfl (by decide +kernel) ⟨Nat.le_of_ble_eq_true rfl, Nat.le_of_ble_eq_true rfl⟩) rfl rfl (Nat.le_of_ble_eq_true rfl) ⟨Nat.zero_le _, Nat.zero_le _⟩ (k_X2_playAll l D cy q F 1 row_1 M r1 e2) dX6_play_8 ?_
  refine V_aload_n X dX6_play_11 0 rfl rfl ?_
  refine G_6_5 X inX6 wFL_X6_43 dX6_play_12 ?_
  obtain ⟨r3, e4, h⟩ := (Ok.bind h).ex
  refine C_Vi (As := []) (M' := r1) (k0 := 39) X rfl rfl (cwV 0 X.1.2.2.2.2 (gw_V wML_X6_206 wIM_X2_reason wSE_X2_reason wIN_X2 (gw_c wCD_X2_reason)) rfl rfl rfl (by decide +kernel) ⟨Nat.le_of_ble_eq_true rfl, Nat.le_of_ble_eq_true rfl⟩) rfl rfl (Nat.le_of_ble_eq_true rfl) ⟨Nat.zero_le _, Nat.zero_le _⟩ (k_X2_reason l D cy q r1 r3 e4) dX6_play_15 ?_
  refine B_if_eq X 24 dX6_play_18 (by decide) h (fun h => ?_) (fun h => ?_)
  · refine V_aload_n X dX6_play_24 0 rfl rfl ?_
    refine G_6_1 X inX6 wFL_X6_19 dX6_play_25 ?_
    refine V_aload_n X dX6_play_28 0 rfl rfl ?_
    refine G_6_0 X inX6 wFL_X6_10 dX6_play_29 ?_
    obtain ⟨r5, e6, h⟩ := (Ok.bind h).ex
    refine C_Vv (As := [.ref (q 1)]) (M' := r5) (k0 := 13) X rfl rfl (cwV 1 X.1.2.2.2.2 (gw_V wML_X6_68 wIM_X0_remember wSE_X0_remember wIN_X0 (gw_c wCD_X0_remember)) rfl rfl rfl (by decide +kernel) ⟨Nat.le_of_ble_eq_true rfl, Nat.le_of_ble_eq_true rfl⟩) rfl rfl (Nat.le_of_ble_eq_true rfl) ⟨Nat.zero_le _, Nat.zero_le _⟩ (k_X0_remember l D cy q F 1 row_1 r1 r5 e6) dX6_play_32 ?_
    refine V_aload_n X dX6_play_35 0 rfl rfl ?_
    refine G_6_0 X inX6 wFL_X6_10 dX6_play_36 ?_
    refine V_aload_n X dX6_play_39 0 rfl rfl ?_
    refine G_6_5 X inX6 wFL_X6_43 dX6_play_40 ?_
    refine C_Vr (As := []) (sk := _) (M' := r5) (k0 := 39) X rfl rfl (cwV 0 X.1.2.2.2.2 (gw_V wML_X6_215 wIM_X2_outcome wSE_X2_outcome wIN_X2 (gw_c wCD_X2_outcome)) rfl rfl rfl (by decide +kernel) ⟨Nat.le_of_ble_eq_true rfl, Nat.le_of_ble_eq_true rfl⟩) rfl rfl (Nat.le_of_ble_eq_true rfl) ⟨Nat.zero_le _, Nat.zero_le _⟩ (k_X2_outcome l D cy q r5) dX6_play_43 ?_
    obtain ⟨r9, e10, h⟩ := (Ok.bind h).ex
    refine C_Vv (As := [.ref (q 11)]) (M' := r9) (k0 := 1) X (wd_row row_1) rfl (cwV 1 X.1.2.2.2.2 (gw_V wML_X6_219 wIM_X3_copyFrom wSE_X3_copyFrom wIN_X3 (gw_c wCD_X3_copyFrom)) rfl rfl rfl (by decide +kernel) ⟨Nat.le_of_ble_eq_true rfl, Nat.le_of_ble_eq_true rfl⟩) rfl rfl (Nat.le_of_ble_eq_true rfl) ⟨Nat.zero_le _, Nat.zero_le _⟩ (k_X3_copyFrom l D cy q F 1 row_1 11 row_11 r5 r9 e10) dX6_play_46 ?_
    refine V_aload_n X dX6_play_49 0 rfl rfl ?_
    refine G_6_0 X inX6 wFL_X6_10 dX6_play_50 ?_
    obtain ⟨r11, e12, h⟩ := (Ok.bind h).ex
    refine C_Vi (As := []) (M' := r9) (k0 := 1) X (wd_row row_1) rfl (cwV 0 X.1.2.2.2.2 (gw_V wML_X6_54 wIM_X3_size wSE_X3_size wIN_X3 (gw_c wCD_X3_size)) rfl rfl rfl (by decide +kernel) ⟨Nat.le_of_ble_eq_true rfl, Nat.le_of_ble_eq_true rfl⟩) rfl rfl (Nat.le_of_ble_eq_true rfl) ⟨Nat.zero_le _, Nat.zero_le _⟩ (k_X3_size l D cy q 1 row_1 r9 r11 e12) dX6_play_53 ?_
    have h : (r11, r9) = (rv, M') := h
    exact R_i X hr hlk (congrArg Prod.fst h) (congrArg Prod.snd h) dX6_play_56
  · refine V_ldc X wKI_X6_192 dX6_play_21 ?_
    have h : ((-1000002 : Int32), r1) = (rv, M') := h
    exact R_i X hr hlk (congrArg Prod.fst h) (congrArg Prod.snd h) dX6_play_23
