def rm_X2_text : Room := { frames := 0, cells := 0, slots := 0, locals := 0 }
set_option maxRecDepth 100000 in
set_option maxHeartbeats 4000000 in
theorem k_X2_text (l : Launch) (D : va_G) (cy : Nat → ClassId) (q : Nat → Nat)  (M : Mm)   : KR l yX2_text (Cond.code yX2_text cX2_text 1 (Option.some (FieldType.object "BitLevels$Text")) :: gw) rm_X2_text D cy q [.ref (q 39)] M 37 M := by
  refine KR.mk (L0 := [(0, .ref (q 39))]) (by decide +kernel) rfl (Nat.le_of_ble_eq_true rfl) rfl rfl rfl ?_
  intro p e s m below meth c X0 hr hlk
  have X := Fx.gw (own := RX2) X0
  clear X0
  refine V_aload_n X dX2_text_0 0 rfl rfl ?_
  refine G_2_0 X inX2 wFL_X2_12 dX2_text_1 ?_
  exact R_r X hr hlk rfl dX2_text_4
def rm_X3_size : Room := { frames := 0, cells := 0, slots := 0, locals := 0 }
def f_X3_size (k0 : Nat) (M : Mm) : Option (Int32) :=
  some (M k0 1)
set_option maxRecDepth 100000 in
set_option maxHeartbeats 4000000 in
theorem k_X3_size (l : Launch) (D : va_G) (cy : Nat → ClassId) (q : Nat → Nat) (k0 : Nat) (hk0 : isRow k0) (M : Mm) (rv : Int32) (h0 : f_X3_size k0 M = some rv) : KI l yX3_size (Cond.code yX3_size cX3_size 1 (Option.some FieldType.int) :: gw) rm_X3_size D cy q [.ref (q k0)] M rv M := by
  refine KI.mk (L0 := [(0, .ref (q k0))]) (by decide +kernel) rfl (Nat.le_of_ble_eq_true rfl) rfl rfl rfl ?_
  intro p e s m below meth c X0 hr hlk
  have X := Fx.gw (own := RX3) X0
  clear X0
  have h : Ok (f_X3_size k0 M) (fun r => r = rv) := Ok.of h0 rfl
  clear h0
  delta f_X3_size at h
  refine V_aload_n X dX3_size_0 0 rfl rfl ?_
  refine G_3_1 X hk0 inX3 wFL_X3_15 dX3_size_1 ?_
  have h : (M k0 1) = rv := h
  exact R_i X hr hlk h rfl dX3_size_4
def rm_X6_isAtMost : Room := { frames := 0, cells := 0, slots := 0, locals := 0 }
def f_X6_isAtMost (a0 : Int32) (a1 : Int32) : Option (Int32) :=
  if a0 < 0 then (some (nI 0)) else (if a1 < a0 then (some (nI 0)) else (some (nI 1)))
set_option maxRecDepth 100000 in
set_option maxHeartbeats 4000000 in
theorem k_X6_isAtMost (l : Launch) (D : va_G) (cy : Nat → ClassId) (q : Nat → Nat) (a0 : Int32) (a1 : Int32) (M : Mm) (rv : Int32) (h0 : f_X6_isAtMost a0 a1 = some rv) : KI l yX6_isAtMost (Cond.code yX6_isAtMost cX6_isAtMost 2 (Option.some FieldType.boolean) :: gw) rm_X6_isAtMost D cy q [.int a0, .int a1] M rv M := by
  refine KI.mk (L0 := [(0, .int a0), (1, .int a1)]) (by decide +kernel) rfl (Nat.le_of_ble_eq_true rfl) rfl rfl rfl ?_
  intro p e s m below meth c X0 hr hlk
  have X := Fx.gw (own := RX6) X0
  clear X0
  have h : Ok (f_X6_isAtMost a0 a1) (fun r => r = rv) := Ok.of h0 rfl
  clear h0
  delta f_X6_isAtMost at h
  refine V_iload_n X dX6_isAtMost_0 0 rfl rfl ?_
  refine B_if_lt X 13 dX6_isAtMost_1 (by decide) h (fun h => ?_) (fun h => ?_)
  · refine V_iconst (v := (nI 0)) X dX6_isAtMost_13 (by decide) ?_
    have h : (nI 0) = rv := h
    exact R_z X hr hlk rfl h rfl dX6_isAtMost_14
  · refine V_iload_n X dX6_isAtMost_4 0 rfl rfl ?_
    refine V_iload_n X dX6_isAtMost_5 1 rfl rfl ?_
    refine B_icmp_gt X 13 dX6_isAtMost_6 (by decide) h (fun h => ?_) (fun h => ?_)
    · refine V_iconst (v := (nI 0)) X dX6_isAtMost_13 (by decide) ?_
      have h : (nI 0) = rv := h
      exact R_z X hr hlk rfl h rfl dX6_isAtMost_14
    · refine V_iconst (v := (nI 1)) X dX6_isAtMost_9 (by decide) ?_
      refine V_goto X 14 dX6_isAtMost_10 (by decide) ?_
      have h : (nI 1) = rv := h
      exact R_z X hr hlk rfl h rfl dX6_isAtMost_14
def rm_X6_isSymbol : Room := { frames := 0, cells := 0, slots := 0, locals := 0 }
def f_X6_isSymbol (a0 : Int32) : Option (Int32) :=
  if a0 < 0 then (some (nI 0)) else (if (nI 16) ≤ a0 then (some (nI 0)) else (some (nI 1)))
set_option maxRecDepth 100000 in
set_option maxHeartbeats 4000000 in
theorem k_X6_isSymbol (l : Launch) (D : va_G) (cy : Nat → ClassId) (q : Nat → Nat) (a0 : Int32) (M : Mm) (rv : Int32) (h0 : f_X6_isSymbol a0 = some rv) : KI l yX6_isSymbol (Cond.code yX6_isSymbol cX6_isSymbol 1 (Option.some FieldType.boolean) :: gw) rm_X6_isSymbol D cy q [.int a0] M rv M := by
  refine KI.mk (L0 := [(0, .int a0)]) (by decide +kernel) rfl (Nat.le_of_ble_eq_true rfl) rfl rfl rfl ?_
  intro p e s m below meth c X0 hr hlk
  have X := Fx.gw (own := RX6) X0
  clear X0
  have h : Ok (f_X6_isSymbol a0) (fun r => r = rv) := Ok.of h0 rfl
  clear h0
  delta f_X6_isSymbol at h
  refine V_iload_n X dX6_isSymbol_0 0 rfl rfl ?_
  refine B_if_lt X 14 dX6_isSymbol_1 (by decide) h (fun h => ?_) (fun h => ?_)
  · refine V_iconst (v := (nI 0)) X dX6_isSymbol_14 (by decide) ?_
    have h : (nI 0) = rv := h
    exact R_z X hr hlk rfl h rfl dX6_isSymbol_15
  · refine V_iload_n X dX6_isSymbol_4 0 rfl rfl ?_
    refine V_bipush (v := (nI 16)) X dX6_isSymbol_5 (by decide) ?_
    refine B_icmp_ge X 14 dX6_isSymbol_7 (by decide) h (fun h => ?_) (fun h => ?_)
    · refine V_iconst (v := (nI 0)) X dX6_isSymbol_14 (by decide) ?_
      have h : (nI 0) = rv := h
      exact R_z X hr hlk rfl h rfl dX6_isSymbol_15
    · refine V_iconst (v := (nI 1)) X dX6_isSymbol_10 (by decide) ?_
      refine V_goto X 15 dX6_isSymbol_11 (by decide) ?_
      have h : (nI 1) = rv := h
      exact R_z X hr hlk rfl h rfl dX6_isSymbol_15
def rm_X3_copyFrom : Room := { frames := 0, cells := 0, slots := 0, locals := 0 }
def f_X3_copyFrom (F : Nat) (k0 : Nat) (k1 : Nat) (M : Mm) : Option (Mm) :=
  lpf (fun z1 : Int32 × Mm => if (z1.2 k0 1) ≤ z1.1 then (some (.inr z1.2)) else (if inb z1.1 60 = true then if inb z1.1 60 = true then some (.inl ((z1.1 + (nI 1)), (up z1.2 (k0 + 1) (Int32.toNatClampNeg z1.1) (z1.2 (k1 + 1) (Int32.toNatClampNeg z1.1))))) else none else none)) F ((nI 0), (up M k0 1 (M k1 1)))
set_option maxRecDepth 100000 in
set_option maxHeartbeats 4000000 in
theorem k_X3_copyFrom (l : Launch) (D : va_G) (cy : Nat → ClassId) (q : Nat → Nat) (F : Nat) (k0 : Nat) (hk0 : isRow k0) (k1 : Nat) (hk1 : isRow k1) (M : Mm) (M' : Mm) (h0 : f_X3_copyFrom F k0 k1 M = some M') : KV l yX3_copyFrom (Cond.code yX3_copyFrom cX3_copyFrom 3 none :: gw) rm_X3_copyFrom D cy q [.ref (q k0), .ref (q k1)] M M' := by
  refine KV.mk (L0 := [(0, .ref (q k0)), (1, .ref (q k1))]) (by decide +kernel) rfl (Nat.le_of_ble_eq_true rfl) rfl rfl rfl ?_
  intro p e s m below meth c X0 hr hlk
  have X := Fx.gw (own := RX3) X0
  clear X0
  have h : Ok (f_X3_copyFrom F k0 k1 M) (fun r => r = M') := Ok.of h0 rfl
  clear h0
  delta f_X3_copyFrom at h
  refine V_aload_n X dX3_copyFrom_0 0 rfl rfl ?_
  refine V_aload_n X dX3_copyFrom_1 1 rfl rfl ?_
  refine G_3_1 X hk1 inX3 wFL_X3_15 dX3_copyFrom_2 ?_
  refine P_3_1 X hk0 inX3 wFL_X3_15 dX3_copyFrom_5 ?_
  refine V_iconst (v := (nI 0)) X dX3_copyFrom_8 (by decide) ?_
  refine V_istore_n (L' := [(2, .int (nI 0)), (0, .ref (q k0)), (1, .ref (q k1))]) X dX3_copyFrom_9 rfl (by decide) rfl ?_
  refine V_sub (L' := [(0, .ref (q k0)), (1, .ref (q k1)), (2, .int (nI 0))]) [1, 2, 0] rfl ?_
  refine V_loop X h (fun z1 => z1.2) (fun z1 => [(0, .ref (q k0)), (1, .ref (q k1)), (2, .int z1.1)]) rfl rfl (fun z1 h => ?_)
  refine V_iload_n X dX3_copyFrom_10 2 rfl rfl ?_
  refine V_aload_n X dX3_copyFrom_11 0 rfl rfl ?_
  refine G_3_1 X hk0 inX3 wFL_X3_15 dX3_copyFrom_12 ?_
  refine B_icmp_ge X 36 dX3_copyFrom_15 (by decide) h (fun h => ?_) (fun h => ?_)
  · have h : z1.2 = M' := h
    exact R_v X hr hlk h dX3_copyFrom_36
  · refine V_aload_n X dX3_copyFrom_18 0 rfl rfl ?_
    refine G_3_0 X hk0 inX3 wFL_X3_9 dX3_copyFrom_19 ?_
    refine V_iload_n X dX3_copyFrom_22 2 rfl rfl ?_
    refine V_aload_n X dX3_copyFrom_23 1 rfl rfl ?_
    refine G_3_0 X hk1 inX3 wFL_X3_9 dX3_copyFrom_24 ?_
    refine V_iload_n X dX3_copyFrom_27 2 rfl rfl ?_
    refine A_a60_ld X (isRow_a hk1) h dX3_copyFrom_28 (fun hb2 h => ?_)
    refine A_a60_st X (isRow_a hk0) h dX3_copyFrom_29 (fun hb3 h => ?_)
    refine V_iinc (v := (z1.1 + (nI 1))) (L' := [(2, .int (z1.1 + (nI 1))), (0, .ref (q k0)), (1, .ref (q k1))]) (j := 2) X dX3_copyFrom_30 rfl rfl (by decide) rfl ?_
    refine V_goto X 10 dX3_copyFrom_33 (by decide) ?_
    exact V_sub [1, 2, 0] rfl h
def rm_X0_dropOldest : Room := { frames := 1, cells := 0, slots := 0, locals := 22 }
def f_X0_dropOldest (F : Nat) (M : Mm) : Option (Mm) :=
  lpf (fun z1 : Int32 × Mm => if (nI 4) ≤ z1.1 then (some (.inr (up z1.2 13 1 (nI 3)))) else (if inb (z1.1 - (nI 1)) 4 = true then if inb z1.1 4 = true then (f_X3_copyFrom F (3 + 2 * (Int32.toNatClampNeg (z1.1 - (nI 1)))) (3 + 2 * (Int32.toNatClampNeg z1.1)) z1.2).bind fun r4 => some (.inl ((z1.1 + (nI 1)), r4)) else none else none)) F ((nI 1), M)
set_option maxRecDepth 100000 in
set_option maxHeartbeats 4000000 in
theorem k_X0_dropOldest (l : Launch) (D : va_G) (cy : Nat → ClassId) (q : Nat → Nat) (F : Nat) (M : Mm) (M' : Mm) (h0 : f_X0_dropOldest F M = some M') : KV l yX0_dropOldest (Cond.code yX0_dropOldest cX0_dropOldest 2 none :: gw) rm_X0_dropOldest D cy q [.ref (q 13)] M M' := by
  refine KV.mk (L0 := [(0, .ref (q 13))]) (by decide +kernel) rfl (Nat.le_of_ble_eq_true rfl) rfl rfl rfl ?_
  intro p e s m below meth c X0 hr hlk
  have X := Fx.gw (own := RX0) X0
  clear X0
  have h : Ok (f_X0_dropOldest F M) (fun r => r = M') := Ok.of h0 rfl
  clear h0
  delta f_X0_dropOldest at h
  refine V_iconst (v := (nI 1)) X dX0_dropOldest_0 (by decide) ?_
  refine V_istore_n (L' := [(1, .int (nI 1)), (0, .ref (q 13))]) X dX0_dropOldest_1 rfl (by decide) rfl ?_
  refine V_sub (L' := [(0, .ref (q 13)), (1, .int (nI 1))]) [1, 0] rfl ?_
  refine V_loop X h (fun z1 => z1.2) (fun z1 => [(0, .ref (q 13)), (1, .int z1.1)]) rfl rfl (fun z1 h => ?_)
  refine V_iload_n X dX0_dropOldest_2 1 rfl rfl ?_
  refine V_iconst (v := (nI 4)) X dX0_dropOldest_3 (by decide) ?_
  refine B_icmp_ge X 30 dX0_dropOldest_4 (by decide) h (fun h => ?_) (fun h => ?_)
  · refine V_aload_n X dX0_dropOldest_30 0 rfl rfl ?_
    refine V_iconst (v := (nI 3)) X dX0_dropOldest_31 (by decide) ?_
    refine P_0_1 X inX0 wFL_X0_18 dX0_dropOldest_32 ?_
    have h : (up z1.2 13 1 (nI 3)) = M' := h
    exact R_v X hr hlk h dX0_dropOldest_35
  · refine V_aload_n X dX0_dropOldest_7 0 rfl rfl ?_
    refine G_0_0 X inX0 wFL_X0_11 dX0_dropOldest_8 ?_
    refine V_iload_n X dX0_dropOldest_11 1 rfl rfl ?_
    refine V_iconst (v := (nI 1)) X dX0_dropOldest_12 (by decide) ?_
    refine V_isub X dX0_dropOldest_13 ?_
    refine A_r14_ld X h dX0_dropOldest_14 (fun hb2 h => ?_)
    refine V_aload_n X dX0_dropOldest_15 0 rfl rfl ?_
    refine G_0_0 X inX0 wFL_X0_11 dX0_dropOldest_16 ?_
    refine V_iload_n X dX0_dropOldest_19 1 rfl rfl ?_
    refine A_r14_ld X h dX0_dropOldest_20 (fun hb3 h => ?_)
    obtain ⟨r4, e5, h⟩ := (Ok.bind h).ex
    refine C_Vv (As := [.ref (q (3 + 2 * (Int32.toNatClampNeg z1.1)))]) (M' := r4) (k0 := (3 + 2 * (Int32.toNatClampNeg (z1.1 - (nI 1))))) X (wd_row (isRow_h hb2)) rfl (cwV 1 X.1.2.2.2.2 (gw_V wML_X0_25 wIM_X3_copyFrom wSE_X3_copyFrom wIN_X3 (gw_c wCD_X3_copyFrom)) rfl rfl rfl (by decide +kernel) ⟨Nat.le_of_ble_eq_true rfl, Nat.le_of_ble_eq_true rfl⟩) rfl rfl (Nat.le_of_ble_eq_true rfl) ⟨Nat.zero_le _, Nat.zero_le _⟩ (k_X3_copyFrom l D cy q F (3 + 2 * (Int32.toNatClampNeg (z1.1 - (nI 1)))) (isRow_h hb2) (3 + 2 * (Int32.toNatClampNeg z1.1)) (isRow_h hb3) z1.2 r4 e5) dX0_dropOldest_21 ?_
    refine V_iinc (v := (z1.1 + (nI 1))) (L' := [(1, .int (z1.1 + (nI 1))), (0, .ref (q 13))]) (j := 1) X dX0_dropOldest_24 rfl rfl (by decide) rfl ?_
    refine V_goto X 2 dX0_dropOldest_27 (by decide) ?_
    exact V_sub [1, 0] rfl h
def rm_X0_remember : Room := { frames := 2, cells := 0, slots := 0, locals := 43 }
def f_X0_remember (F : Nat) (k0 : Nat) (M : Mm) : Option (Mm) :=
  jn (if (M 13 1) < (nI 4) then (some (.inl M)) else ((f_X0_dropOldest F M).bind fun r2 => some (.inl r2))) (fun z1 : Mm => if inb (z1 13 1) 4 = true then (f_X3_copyFrom F (3 + 2 * (Int32.toNatClampNeg (z1 13 1))) k0 z1).bind fun r5 => some (up r5 13 1 ((r5 13 1) + (nI 1))) else none)
set_option maxRecDepth 100000 in
set_option maxHeartbeats 4000000 in
theorem k_X0_remember (l : Launch) (D : va_G) (cy : Nat → ClassId) (q : Nat → Nat) (F : Nat) (k0 : Nat) (hk0 : isRow k0) (M : Mm) (M' : Mm) (h0 : f_X0_remember F k0 M = some M') : KV l yX0_remember (Cond.code yX0_remember cX0_remember 2 none :: gw) rm_X0_remember D cy q [.ref (q 13), .ref (q k0)] M M' := by
  refine KV.mk (L0 := [(0, .ref (q 13)), (1, .ref (q k0))]) (by decide +kernel) rfl (Nat.le_of_ble_eq_true rfl) rfl rfl rfl ?_
  intro p e s m below meth c X0 hr hlk
  have X := Fx.gw (own := RX0) X0
  clear X0
  have h : Ok (f_X0_remember F k0 M) (fun r => r = M') := Ok.of h0 rfl
  clear h0
  delta f_X0_remember at h
  refine V_aload_n X dX0_remember_0 0 rfl rfl ?_
  refine G_0_1 X inX0 wFL_X0_18 dX0_remember_1 ?_
  refine V_iconst (v := (nI 4)) X dX0_remember_4 (by decide) ?_
  refine V_join X h (fun z1 => z1) (fun z1 => [(0, .ref (q 13)), (1, .ref (q k0))]) (fun z1 => []) 12 (fun z1 h => ?_) (fun h => ?_)
  · refine V_aload_n X dX0_remember_12 0 rfl rfl ?_
    refine G_0_0 X inX0 wFL_X0_11 dX0_remember_13 ?_
    refine V_aload_n X dX0_remember_16 0 rfl rfl ?_
    refine G_0_1 X inX0 wFL_X0_18 dX0_remember_17 ?_
    refine A_r14_ld X h dX0_remember_20 (fun hb4 h => ?_)
    refine V_aload_n X dX0_remember_21 1 rfl rfl ?_
    obtain ⟨r5, e6, h⟩ := (Ok.bind h).ex
    refine C_Vv (As := [.ref (q k0)]) (M' := r5) (k0 := (3 + 2 * (Int32.toNatClampNeg (z1 13 1)))) X (wd_row (isRow_h hb4)) rfl (cwV 1 X.1.2.2.2.2 (gw_V wML_X0_25 wIM_X3_copyFrom wSE_X3_copyFrom wIN_X3 (gw_c wCD_X3_copyFrom)) rfl rfl rfl (by decide +kernel) ⟨Nat.le_of_ble_eq_true rfl, Nat.le_of_ble_eq_true rfl⟩) rfl rfl (Nat.le_of_ble_eq_true rfl) ⟨Nat.zero_le _, Nat.zero_le _⟩ (k_X3_copyFrom l D cy q F (3 + 2 * (Int32.toNatClampNeg (z1 13 1))) (isRow_h hb4) k0 hk0 z1 r5 e6) dX0_remember_22 ?_
    refine V_aload_n X dX0_remember_25 0 rfl rfl ?_
    refine V_dup X dX0_remember_26 rfl ?_
    refine G_0_1 X inX0 wFL_X0_18 dX0_remember_27 ?_
    refine V_iconst (v := (nI 1)) X dX0_remember_30 (by decide) ?_
    refine V_iadd X dX0_remember_31 ?_
    refine P_0_1 X inX0 wFL_X0_18 dX0_remember_32 ?_
    have h : (up r5 13 1 ((r5 13 1) + (nI 1))) = M' := h
    exact R_v X hr hlk h dX0_remember_35
  · refine B_icmp_lt X 12 dX0_remember_5 (by decide) h (fun h => ?_) (fun h => ?_)
    · exact V_sub [0, 1] rfl h
    · refine V_aload_n X dX0_remember_8 0 rfl rfl ?_
      obtain ⟨r2, e3, h⟩ := (Ok.bind h).ex
      refine C_Vv (As := []) (M' := r2) (k0 := 13) X rfl rfl (cwV 0 X.1.2.2.2.2 (gw_V wML_X0_22 wIM_X0_dropOldest wSE_X0_dropOldest wIN_X0 (gw_c wCD_X0_dropOldest)) rfl rfl rfl (by decide +kernel) ⟨Nat.le_of_ble_eq_true rfl, Nat.le_of_ble_eq_true rfl⟩) rfl rfl (Nat.le_of_ble_eq_true rfl) ⟨Nat.zero_le _, Nat.zero_le _⟩ (k_X0_dropOldest l D cy q F M r2 e3) dX0_remember_9 ?_
      exact V_sub [0, 1] rfl h
def rm_X3_insert : Room := { frames := 1, cells := 0, slots := 0, locals := 21 }
def f_X3_insert (F : Nat) (k0 : Nat) (a1 : Int32) (a2 : Int32) (M : Mm) : Option (Mm) :=
  (f_X6_isAtMost a1 (M k0 1)).bind fun r1 => if r1 = 0 then (some M) else (if (M k0 1) < (nI 60) then (lpf (fun z3 : Int32 × Mm => if z3.1 ≤ a1 then (if inb a1 60 = true then some (.inr (up (up z3.2 (k0 + 1) (Int32.toNatClampNeg a1) a2) k0 1 (((up z3.2 (k0 + 1) (Int32.toNatClampNeg a1) a2) k0 1) + (nI 1)))) else none) else (if inb (z3.1 - (nI 1)) 60 = true then if inb z3.1 60 = true then some (.inl ((z3.1 + (-1 : Int32)), (up z3.2 (k0 + 1) (Int32.toNatClampNeg z3.1) (z3.2 (k0 + 1) (Int32.toNatClampNeg (z3.1 - (nI 1))))))) else none else none)) F ((M k0 1), M)) else (some M))
set_option maxRecDepth 100000 in
set_option maxHeartbeats 4000000 in
theorem k_X3_insert (l : Launch) (D : va_G) (cy : Nat → ClassId) (q : Nat → Nat) (F : Nat) (k0 : Nat) (hk0 : isRow k0) (a1 : Int32) (a2 : Int32) (M : Mm) (M' : Mm) (h0 : f_X3_insert F k0 a1 a2 M = some M') : KV l yX3_insert (Cond.code yX3_insert cX3_insert 4 none :: gw) rm_X3_insert D cy q [.ref (q k0), .int a1, .int a2] M M' := by
  refine KV.mk (L0 := [(0, .ref (q k0)), (1, .int a1), (2, .int a2)]) (by decide +kernel) rfl (Nat.le_of_ble_eq_true rfl) rfl rfl rfl ?_
  intro p e s m below meth c X0 hr hlk
  have X := Fx.gw (own := RX3) X0
  clear X0
  have h : Ok (f_X3_insert F k0 a1 a2 M) (fun r => r = M') := Ok.of h0 rfl
  clear h0
  delta f_X3_insert at h
  refine V_iload_n X dX3_insert_0 1 rfl rfl ?_
  refine V_aload_n X dX3_insert_1 0 rfl rfl ?_
  refine G_3_1 X hk0 inX3 wFL_X3_15 dX3_insert_2 ?_
  obtain ⟨r1, e2, h⟩ := (Ok.bind h).ex
  refine C_Ni (As := [.int a1, .int (M k0 1)]) (M' := M) X ⟨va_cnB 2 X.1.2.2.2.2 (gw_code wCD_X6_isAtMost) rfl rfl rfl X.2.1.2.1 (X.1.2.2.2.2 _ wIN_X6) (by decide +kernel) ⟨Nat.le_of_ble_eq_true rfl, Nat.le_of_ble_eq_true rfl⟩, X.1.2.2.2.2 _ wST_X6_isAtMost, trivial⟩ rfl rfl (Nat.le_of_ble_eq_true rfl) ⟨Nat.zero_le _, Nat.zero_le _⟩ (k_X6_isAtMost l D cy q a1 (M k0 1) M r1 e2) dX3_insert_5 ?_
  refine B_if_eq X 20 dX3_insert_8 (by decide) h (fun h => ?_) (fun h => ?_)
  · have h : M = M' := h
    exact R_v X hr hlk h dX3_insert_20
  · refine V_aload_n X dX3_insert_11 0 rfl rfl ?_
    refine G_3_1 X hk0 inX3 wFL_X3_15 dX3_insert_12 ?_
    refine V_bipush (v := (nI 60)) X dX3_insert_15 (by decide) ?_
    refine B_icmp_lt X 21 dX3_insert_17 (by decide) h (fun h => ?_) (fun h => ?_)
    · refine V_aload_n X dX3_insert_21 0 rfl rfl ?_
      refine G_3_1 X hk0 inX3 wFL_X3_15 dX3_insert_22 ?_
      refine V_istore_n (L' := [(3, .int (M k0 1)), (0, .ref (q k0)), (1, .int a1), (2, .int a2)]) X dX3_insert_25 rfl (by decide) rfl ?_
      refine V_sub (L' := [(0, .ref (q k0)), (1, .int a1), (2, .int a2), (3, .int (M k0 1))]) [1, 2, 3, 0] rfl ?_
      refine V_loop X h (fun z3 => z3.2) (fun z3 => [(0, .ref (q k0)), (1, .int a1), (2, .int a2), (3, .int z3.1)]) rfl rfl (fun z3 h => ?_)
      refine V_iload_n X dX3_insert_26 3 rfl rfl ?_
      refine V_iload_n X dX3_insert_27 1 rfl rfl ?_
      refine B_icmp_le X 51 dX3_insert_28 (by decide) h (fun h => ?_) (fun h => ?_)
      · refine V_aload_n X dX3_insert_51 0 rfl rfl ?_
        refine G_3_0 X hk0 inX3 wFL_X3_9 dX3_insert_52 ?_
        refine V_iload_n X dX3_insert_55 1 rfl rfl ?_
        refine V_iload_n X dX3_insert_56 2 rfl rfl ?_
        refine A_a60_st X (isRow_a hk0) h dX3_insert_57 (fun hb4 h => ?_)
        refine V_aload_n X dX3_insert_58 0 rfl rfl ?_
        refine V_dup X dX3_insert_59 rfl ?_
        refine G_3_1 X hk0 inX3 wFL_X3_15 dX3_insert_60 ?_
        refine V_iconst (v := (nI 1)) X dX3_insert_63 (by decide) ?_
        refine V_iadd X dX3_insert_64 ?_
        refine P_3_1 X hk0 inX3 wFL_X3_15 dX3_insert_65 ?_
        have h : (up (up z3.2 (k0 + 1) (Int32.toNatClampNeg a1) a2) k0 1 (((up z3.2 (k0 + 1) (Int32.toNatClampNeg a1) a2) k0 1) + (nI 1))) = M' := h
        exact R_v X hr hlk h dX3_insert_68
      · refine V_aload_n X dX3_insert_31 0 rfl rfl ?_
        refine G_3_0 X hk0 inX3 wFL_X3_9 dX3_insert_32 ?_
        refine V_iload_n X dX3_insert_35 3 rfl rfl ?_
        refine V_aload_n X dX3_insert_36 0 rfl rfl ?_
        refine G_3_0 X hk0 inX3 wFL_X3_9 dX3_insert_37 ?_
        refine V_iload_n X dX3_insert_40 3 rfl rfl ?_
        refine V_iconst (v := (nI 1)) X dX3_insert_41 (by decide) ?_
        refine V_isub X dX3_insert_42 ?_
        refine A_a60_ld X (isRow_a hk0) h dX3_insert_43 (fun hb5 h => ?_)
        refine A_a60_st X (isRow_a hk0) h dX3_insert_44 (fun hb6 h => ?_)
        refine V_iinc (v := (z3.1 + (-1 : Int32))) (L' := [(3, .int (z3.1 + (-1 : Int32))), (0, .ref (q k0)), (1, .int a1), (2, .int a2)]) (j := 3) X dX3_insert_45 rfl rfl (by decide) rfl ?_
        refine V_goto X 26 dX3_insert_48 (by decide) ?_
        exact V_sub [1, 2, 3, 0] rfl h
    · have h : M = M' := h
      exact R_v X hr hlk h dX3_insert_20
def rm_X6_put : Room := { frames := 3, cells := 0, slots := 0, locals := 64 }
def f_X6_put (F : Nat) (a1 : Int32) (a2 : Int32) (M : Mm) : Option (Int32 × Mm) :=
  (f_X3_size 1 M).bind fun r1 => (f_X6_isAtMost a1 r1).bind fun r3 => if r3 = 0 then (some ((-1000001 : Int32), M)) else ((f_X6_isSymbol a2).bind fun r5 => if r5 = 0 then (some ((-1000001 : Int32), M)) else ((f_X3_size 1 M).bind fun r7 => if r7 < (nI 60) then ((f_X0_remember F 1 M).bind fun r9 => (f_X3_insert F 1 a1 a2 r9).bind fun r11 => (f_X3_size 1 r11).bind fun r13 => some (r13, r11)) else (some ((-1000003 : Int32), M))))
set_option maxRecDepth 100000 in
set_option maxHeartbeats 4000000 in
theorem k_X6_put (l : Launch) (D : va_G) (cy : Nat → ClassId) (q : Nat → Nat) (F : Nat) (a1 : Int32) (a2 : Int32) (M : Mm) (rv : Int32) (M' : Mm) (h0 : f_X6_put F a1 a2 M = some (rv, M')) : KI l yX6_put (Cond.code yX6_put cX6_put 3 (Option.some FieldType.int) :: gw) rm_X6_put D cy q [.ref (q 0), .int a1, .int a2] M rv M' := by
  refine KI.mk (L0 := [(0, .ref (q 0)), (1, .int a1), (2, .int a2)]) (by decide +kernel) rfl (Nat.le_of_ble_eq_true rfl) rfl rfl rfl ?_
  intro p e s m below meth c X0 hr hlk
  have X := Fx.gw (own := RX6) X0
  clear X0
  have h : Ok (f_X6_put F a1 a2 M) (fun r => r = (rv, M')) := Ok.of h0 rfl
  clear h0
  delta f_X6_put at h
  refine V_iload_n X dX6_put_0 1 rfl rfl ?_
  refine V_aload_n X dX6_put_1 0 rfl rfl ?_
  refine G_6_0 X inX6 wFL_X6_10 dX6_put_2 ?_
  obtain ⟨r1, e2, h⟩ := (Ok.bind h).ex
  refine C_Vi (As := []) (M' := M) (k0 := 1) X (wd_row row_1) rfl (cwV 0 X.1.2.2.2.2 (gw_V wML_X6_54 wIM_X3_size wSE_X3_size wIN_X3 (gw_c wCD_X3_size)) rfl rfl rfl (by decide +kernel) ⟨Nat.le_of_ble_eq_true rfl, Nat.le_of_ble_eq_true rfl⟩) rfl rfl (Nat.le_of_ble_eq_true rfl) ⟨Nat.zero_le _, Nat.zero_le _⟩ (k_X3_size l D cy q 1 row_1 M r1 e2) dX6_put_5 ?_
  obtain ⟨r3, e4, h⟩ := (Ok.bind h).ex
  refine C_Si (As := [.int a1, .int r1]) (M' := M) X (va_cwS 2 X.1.2.2.2.2 (gw_S wML_X6_58 wST_X6_isAtMost wIN_X6 (gw_c wCD_X6_isAtMost)) rfl rfl rfl (by decide +kernel) ⟨Nat.le_of_ble_eq_true rfl, Nat.le_of_ble_eq_true rfl⟩) rfl rfl (Nat.le_of_ble_eq_true rfl) ⟨Nat.zero_le _, Nat.zero_le _⟩ (k_X6_isAtMost l D cy q a1 r1 M r3 e4) dX6_put_8 ?_
  refine B_if_eq X 21 dX6_put_11 (by decide) h (fun h => ?_) (fun h => ?_)
  · refine V_ldc X wKI_X6_66 dX6_put_21 ?_
    have h : ((-1000001 : Int32), M) = (rv, M') := h
    exact R_i X hr hlk (congrArg Prod.fst h) (congrArg Prod.snd h) dX6_put_23
  · refine V_iload_n X dX6_put_14 2 rfl rfl ?_
    obtain ⟨r5, e6, h⟩ := (Ok.bind h).ex
    refine C_Si (As := [.int a2]) (M' := M) X (va_cwS 1 X.1.2.2.2.2 (gw_S wML_X6_62 wST_X6_isSymbol wIN_X6 (gw_c wCD_X6_isSymbol)) rfl rfl rfl (by decide +kernel) ⟨Nat.le_of_ble_eq_true rfl, Nat.le_of_ble_eq_true rfl⟩) rfl rfl (Nat.le_of_ble_eq_true rfl) ⟨Nat.zero_le _, Nat.zero_le _⟩ (k_X6_isSymbol l D cy q a2 M r5 e6) dX6_put_15 ?_
    refine B_if_ne X 24 dX6_put_18 (by decide) h (fun h => ?_) (fun h => ?_)
    · refine V_aload_n X dX6_put_24 0 rfl rfl ?_
      refine G_6_0 X inX6 wFL_X6_10 dX6_put_25 ?_
      obtain ⟨r7, e8, h⟩ := (Ok.bind h).ex
      refine C_Vi (As := []) (M' := M) (k0 := 1) X (wd_row row_1) rfl (cwV 0 X.1.2.2.2.2 (gw_V wML_X6_54 wIM_X3_size wSE_X3_size wIN_X3 (gw_c wCD_X3_size)) rfl rfl rfl (by decide +kernel) ⟨Nat.le_of_ble_eq_true rfl, Nat.le_of_ble_eq_true rfl⟩) rfl rfl (Nat.le_of_ble_eq_true rfl) ⟨Nat.zero_le _, Nat.zero_le _⟩ (k_X3_size l D cy q 1 row_1 M r7 e8) dX6_put_28 ?_
      refine V_bipush (v := (nI 60)) X dX6_put_31 (by decide) ?_
      refine B_icmp_lt X 39 dX6_put_33 (by decide) h (fun h => ?_) (fun h => ?_)
      · refine V_aload_n X dX6_put_39 0 rfl rfl ?_
        refine G_6_1 X inX6 wFL_X6_19 dX6_put_40 ?_
        refine V_aload_n X dX6_put_43 0 rfl rfl ?_
        refine G_6_0 X inX6 wFL_X6_10 dX6_put_44 ?_
        obtain ⟨r9, e10, h⟩ := (Ok.bind h).ex
        refine C_Vv (As := [.ref (q 1)]) (M' := r9) (k0 := 13) X rfl rfl (cwV 1 X.1.2.2.2.2 (gw_V wML_X6_68 wIM_X0_remember wSE_X0_remember wIN_X0 (gw_c wCD_X0_remember)) rfl rfl rfl (by decide +kernel) ⟨Nat.le_of_ble_eq_true rfl, Nat.le_of_ble_eq_true rfl⟩) rfl rfl (Nat.le_of_ble_eq_true rfl) ⟨Nat.zero_le _, Nat.zero_le _⟩ (k_X0_remember l D cy q F 1 row_1 M r9 e10) dX6_put_47 ?_
        refine V_aload_n X dX6_put_50 0 rfl rfl ?_
        refine G_6_0 X inX6 wFL_X6_10 dX6_put_51 ?_
        refine V_iload_n X dX6_put_54 1 rfl rfl ?_
        refine V_iload_n X dX6_put_55 2 rfl rfl ?_
        obtain ⟨r11, e12, h⟩ := (Ok.bind h).ex
        refine C_Vv (As := [.int a1, .int a2]) (M' := r11) (k0 := 1) X (wd_row row_1) rfl (cwV 2 X.1.2.2.2.2 (gw_V wML_X6_72 wIM_X3_insert wSE_X3_insert wIN_X3 (gw_c wCD_X3_insert)) rfl rfl rfl (by decide +kernel) ⟨Nat.le_of_ble_eq_true rfl, Nat.le_of_ble_eq_true rfl⟩) rfl rfl (Nat.le_of_ble_eq_true rfl) ⟨Nat.zero_le _, Nat.zero_le _⟩ (k_X3_insert l D cy q F 1 row_1 a1 a2 r9 r11 e12) dX6_put_56 ?_
        refine V_aload_n X dX6_put_59 0 rfl rfl ?_
        refine G_6_0 X inX6 wFL_X6_10 dX6_put_60 ?_
        obtain ⟨r13, e14, h⟩ := (Ok.bind h).ex
        refine C_Vi (As := []) (M' := r11) (k0 := 1) X (wd_row row_1) rfl (cwV 0 X.1.2.2.2.2 (gw_V wML_X6_54 wIM_X3_size wSE_X3_size wIN_X3 (gw_c wCD_X3_size)) rfl rfl rfl (by decide +kernel) ⟨Nat.le_of_ble_eq_true rfl, Nat.le_of_ble_eq_true rfl⟩) rfl rfl (Nat.le_of_ble_eq_true rfl) ⟨Nat.zero_le _, Nat.zero_le _⟩ (k_X3_size l D cy q 1 row_1 r11 r13 e14) dX6_put_63 ?_
        have h : (r13, r11) = (rv, M') := h
        exact R_i X hr hlk (congrArg Prod.fst h) (congrArg Prod.snd h) dX6_put_66
      · refine V_ldc X wKI_X6_67 dX6_put_36 ?_
        have h : ((-1000003 : Int32), M) = (rv, M') := h
        exact R_i X hr hlk (congrArg Prod.fst h) (congrArg Prod.snd h) dX6_put_38
    · refine V_ldc X wKI_X6_66 dX6_put_21 ?_
      have h : ((-1000001 : Int32), M) = (rv, M') := h
      exact R_i X hr hlk (congrArg Prod.fst h) (congrArg Prod.snd h) dX6_put_23
def rm_X3_hasPlace : Room := { frames := 0, cells := 0, slots := 0, locals := 0 }
def f_X3_hasPlace (k0 : Nat) (a1 : Int32) (M : Mm) : Option (Int32) :=
  if a1 < 0 then (some (nI 0)) else (if (M k0 1) ≤ a1 then (some (nI 0)) else (some (nI 1)))
set_option maxRecDepth 100000 in
set_option maxHeartbeats 4000000 in
theorem k_X3_hasPlace (l : Launch) (D : va_G) (cy : Nat → ClassId) (q : Nat → Nat) (k0 : Nat) (hk0 : isRow k0) (a1 : Int32) (M : Mm) (rv : Int32) (h0 : f_X3_hasPlace k0 a1 M = some rv) : KI l yX3_hasPlace (Cond.code yX3_hasPlace cX3_hasPlace 2 (Option.some FieldType.boolean) :: gw) rm_X3_hasPlace D cy q [.ref (q k0), .int a1] M rv M := by
  refine KI.mk (L0 := [(0, .ref (q k0)), (1, .int a1)]) (by decide +kernel) rfl (Nat.le_of_ble_eq_true rfl) rfl rfl rfl ?_
  intro p e s m below meth c X0 hr hlk
  have X := Fx.gw (own := RX3) X0
  clear X0
  have h : Ok (f_X3_hasPlace k0 a1 M) (fun r => r = rv) := Ok.of h0 rfl
  clear h0
  delta f_X3_hasPlace at h
  refine V_iload_n X dX3_hasPlace_0 1 rfl rfl ?_
  refine B_if_lt X 16 dX3_hasPlace_1 (by decide) h (fun h => ?_) (fun h => ?_)
  · refine V_iconst (v := (nI 0)) X dX3_hasPlace_16 (by decide) ?_
    have h : (nI 0) = rv := h
    exact R_z X hr hlk rfl h rfl dX3_hasPlace_17
  · refine V_iload_n X dX3_hasPlace_4 1 rfl rfl ?_
    refine V_aload_n X dX3_hasPlace_5 0 rfl rfl ?_
    refine G_3_1 X hk0 inX3 wFL_X3_15 dX3_hasPlace_6 ?_
    refine B_icmp_ge X 16 dX3_hasPlace_9 (by decide) h (fun h => ?_) (fun h => ?_)
    · refine V_iconst (v := (nI 0)) X dX3_hasPlace_16 (by decide) ?_
      have h : (nI 0) = rv := h
      exact R_z X hr hlk rfl h rfl dX3_hasPlace_17
    · refine V_iconst (v := (nI 1)) X dX3_hasPlace_12 (by decide) ?_
      refine V_goto X 17 dX3_hasPlace_13 (by decide) ?_
      have h : (nI 1) = rv := h
      exact R_z X hr hlk rfl h rfl dX3_hasPlace_17
def rm_X3_at : Room := { frames := 1, cells := 0, slots := 0, locals := 21 }
def f_X3_at (k0 : Nat) (a1 : Int32) (M : Mm) : Option (Int32) :=
  (f_X3_hasPlace k0 a1 M).bind fun r1 => if r1 = 0 then (some (-1 : Int32)) else (if inb a1 60 = true then some (M (k0 + 1) (Int32.toNatClampNeg a1)) else none)
set_option maxRecDepth 100000 in
set_option maxHeartbeats 4000000 in
theorem k_X3_at (l : Launch) (D : va_G) (cy : Nat → ClassId) (q : Nat → Nat) (k0 : Nat) (hk0 : isRow k0) (a1 : Int32) (M : Mm) (rv : Int32) (h0 : f_X3_at k0 a1 M = some rv) : KI l yX3_at (Cond.code yX3_at cX3_at 2 (Option.some FieldType.int) :: gw) rm_X3_at D cy q [.ref (q k0), .int a1] M rv M := by
  refine KI.mk (L0 := [(0, .ref (q k0)), (1, .int a1)]) (by decide +kernel) rfl (Nat.le_of_ble_eq_true rfl) rfl rfl rfl ?_
  intro p e s m below meth c X0 hr hlk
  have X := Fx.gw (own := RX3) X0
  clear X0
  have h : Ok (f_X3_at k0 a1 M) (fun r => r = rv) := Ok.of h0 rfl
  clear h0
  delta f_X3_at at h
  refine V_aload_n X dX3_at_0 0 rfl rfl ?_
  refine V_iload_n X dX3_at_1 1 rfl rfl ?_
  obtain ⟨r1, e2, h⟩ := (Ok.bind h).ex
  refine C_Vi (As := [.int a1]) (M' := M) (k0 := k0) X (wd_row hk0) rfl (cwV 1 X.1.2.2.2.2 (gw_V wML_X3_19 wIM_X3_hasPlace wSE_X3_hasPlace wIN_X3 (gw_c wCD_X3_hasPlace)) rfl rfl rfl (by decide +kernel) ⟨Nat.le_of_ble_eq_true rfl, Nat.le_of_ble_eq_true rfl⟩) rfl rfl (Nat.le_of_ble_eq_true rfl) ⟨Nat.zero_le _, Nat.zero_le _⟩ (k_X3_hasPlace l D cy q k0 hk0 a1 M r1 e2) dX3_at_2 ?_
  refine B_if_eq X 17 dX3_at_5 (by decide) h (fun h => ?_) (fun h => ?_)
  · refine V_iconst (v := (-1 : Int32)) X dX3_at_17 (by decide) ?_
    have h : (-1 : Int32) = rv := h
    exact R_i X hr hlk h rfl dX3_at_18
  · refine V_aload_n X dX3_at_8 0 rfl rfl ?_
    refine G_3_0 X hk0 inX3 wFL_X3_9 dX3_at_9 ?_
    refine V_iload_n X dX3_at_12 1 rfl rfl ?_
    refine A_a60_ld X (isRow_a hk0) h dX3_at_13 (fun hb3 h => ?_)
    refine V_goto X 18 dX3_at_14 (by decide) ?_
    have h : (M (k0 + 1) (Int32.toNatClampNeg a1)) = rv := h
    exact R_i X hr hlk h rfl dX3_at_18
def rm_X3_remove : Room := { frames := 1, cells := 0, slots := 0, locals := 21 }
def f_X3_remove (F : Nat) (k0 : Nat) (a1 : Int32) (M : Mm) : Option (Mm) :=
  (f_X3_hasPlace k0 a1 M).bind fun r1 => if r1 = 0 then (some M) else (lpf (fun z3 : Int32 × Mm => if (z3.2 k0 1) ≤ z3.1 then (some (.inr (up z3.2 k0 1 ((z3.2 k0 1) - (nI 1))))) else (if inb z3.1 60 = true then if inb (z3.1 - (nI 1)) 60 = true then some (.inl ((z3.1 + (nI 1)), (up z3.2 (k0 + 1) (Int32.toNatClampNeg (z3.1 - (nI 1))) (z3.2 (k0 + 1) (Int32.toNatClampNeg z3.1))))) else none else none)) F ((a1 + (nI 1)), M))
set_option maxRecDepth 100000 in
set_option maxHeartbeats 4000000 in
theorem k_X3_remove (l : Launch) (D : va_G) (cy : Nat → ClassId) (q : Nat → Nat) (F : Nat) (k0 : Nat) (hk0 : isRow k0) (a1 : Int32) (M : Mm) (M' : Mm) (h0 : f_X3_remove F k0 a1 M = some M') : KV l yX3_remove (Cond.code yX3_remove cX3_remove 3 none :: gw) rm_X3_remove D cy q [.ref (q k0), .int a1] M M' := by
  refine KV.mk (L0 := [(0, .ref (q k0)), (1, .int a1)]) (by decide +kernel) rfl (Nat.le_of_ble_eq_true rfl) rfl rfl rfl ?_
  intro p e s m below meth c X0 hr hlk
  have X := Fx.gw (own := RX3) X0
  clear X0
  have h : Ok (f_X3_remove F k0 a1 M) (fun r => r = M') := Ok.of h0 rfl
  clear h0
  delta f_X3_remove at h
  refine V_aload_n X dX3_remove_0 0 rfl rfl ?_
  refine V_iload_n X dX3_remove_1 1 rfl rfl ?_
  obtain ⟨r1, e2, h⟩ := (Ok.bind h).ex
  refine C_Vi (As := [.int a1]) (M' := M) (k0 := k0) X (wd_row hk0) rfl (cwV 1 X.1.2.2.2.2 (gw_V wML_X3_19 wIM_X3_hasPlace wSE_X3_hasPlace wIN_X3 (gw_c wCD_X3_hasPlace)) rfl rfl rfl (by decide +kernel) ⟨Nat.le_of_ble_eq_true rfl, Nat.le_of_ble_eq_true rfl⟩) rfl rfl (Nat.le_of_ble_eq_true rfl) ⟨Nat.zero_le _, Nat.zero_le _⟩ (k_X3_hasPlace l D cy q k0 hk0 a1 M r1 e2) dX3_remove_2 ?_
  refine B_if_ne X 9 dX3_remove_5 (by decide) h (fun h => ?_) (fun h => ?_)
  · refine V_iload_n X dX3_remove_9 1 rfl rfl ?_
    refine V_iconst (v := (nI 1)) X dX3_remove_10 (by decide) ?_
    refine V_iadd X dX3_remove_11 ?_
    refine V_istore_n (L' := [(2, .int (a1 + (nI 1))), (0, .ref (q k0)), (1, .int a1)]) X dX3_remove_12 rfl (by decide) rfl ?_
    refine V_sub (L' := [(0, .ref (q k0)), (2, .int (a1 + (nI 1)))]) [1, 0] rfl ?_
    refine V_loop X h (fun z3 => z3.2) (fun z3 => [(0, .ref (q k0)), (2, .int z3.1)]) rfl rfl (fun z3 h => ?_)
    refine V_iload_n X dX3_remove_13 1 rfl rfl ?_
    refine V_aload_n X dX3_remove_14 0 rfl rfl ?_
    refine G_3_1 X hk0 inX3 wFL_X3_15 dX3_remove_15 ?_
    refine B_icmp_ge X 41 dX3_remove_18 (by decide) h (fun h => ?_) (fun h => ?_)
    · refine V_aload_n X dX3_remove_41 0 rfl rfl ?_
      refine V_dup X dX3_remove_42 rfl ?_
      refine G_3_1 X hk0 inX3 wFL_X3_15 dX3_remove_43 ?_
      refine V_iconst (v := (nI 1)) X dX3_remove_46 (by decide) ?_
      refine V_isub X dX3_remove_47 ?_
      refine P_3_1 X hk0 inX3 wFL_X3_15 dX3_remove_48 ?_
      have h : (up z3.2 k0 1 ((z3.2 k0 1) - (nI 1))) = M' := h
      exact R_v X hr hlk h dX3_remove_51
    · refine V_aload_n X dX3_remove_21 0 rfl rfl ?_
      refine G_3_0 X hk0 inX3 wFL_X3_9 dX3_remove_22 ?_
      refine V_iload_n X dX3_remove_25 1 rfl rfl ?_
      refine V_iconst (v := (nI 1)) X dX3_remove_26 (by decide) ?_
      refine V_isub X dX3_remove_27 ?_
      refine V_aload_n X dX3_remove_28 0 rfl rfl ?_
      refine G_3_0 X hk0 inX3 wFL_X3_9 dX3_remove_29 ?_
      refine V_iload_n X dX3_remove_32 1 rfl rfl ?_
      refine A_a60_ld X (isRow_a hk0) h dX3_remove_33 (fun hb4 h => ?_)
      refine A_a60_st X (isRow_a hk0) h dX3_remove_34 (fun hb5 h => ?_)
      refine V_iinc (v := (z3.1 + (nI 1))) (L' := [(2, .int (z3.1 + (nI 1))), (0, .ref (q k0))]) (j := 1) X dX3_remove_35 rfl rfl (by decide) rfl ?_
      refine V_goto X 13 dX3_remove_38 (by decide) ?_
      exact V_sub [1, 0] rfl h
  · have h : M = M' := h
    exact R_v X hr hlk h dX3_remove_8
def rm_X6_take : Room := { frames := 3, cells := 0, slots := 0, locals := 64 }
def f_X6_take (F : Nat) (a1 : Int32) (M : Mm) : Option (Int32 × Mm) :=
  (f_X3_hasPlace 1 a1 M).bind fun r1 => if r1 = 0 then (some ((-1000001 : Int32), M)) else ((f_X3_at 1 a1 M).bind fun r3 => (f_X0_remember F 1 M).bind fun r5 => (f_X3_remove F 1 a1 r5).bind fun r7 => some (r3, r7))
set_option maxRecDepth 100000 in
set_option maxHeartbeats 4000000 in
theorem k_X6_take (l : Launch) (D : va_G) (cy : Nat → ClassId) (q : Nat → Nat) (F : Nat) (a1 : Int32) (M : Mm) (rv : Int32) (M' : Mm) (h0 : f_X6_take F a1 M = some (rv, M')) : KI l yX6_take (Cond.code yX6_take cX6_take 3 (Option.some FieldType.int) :: gw) rm_X6_take D cy q [.ref (q 0), .int a1] M rv M' := by
  refine KI.mk (L0 := [(0, .ref (q 0)), (1, .int a1)]) (by decide +kernel) rfl (Nat.le_of_ble_eq_true rfl) rfl rfl rfl ?_
  intro p e s m below meth c X0 hr hlk
  have X := Fx.gw (own := RX6) X0
  clear X0
  have h : Ok (f_X6_take F a1 M) (fun r => r = (rv, M')) := Ok.of h0 rfl
  clear h0
  delta f_X6_take at h
  refine V_aload_n X dX6_take_0 0 rfl rfl ?_
  refine G_6_0 X inX6 wFL_X6_10 dX6_take_1 ?_
  refine V_iload_n X dX6_take_4 1 rfl rfl ?_
  obtain ⟨r1, e2, h⟩ := (Ok.bind h).ex
  refine C_Vi (As := [.int a1]) (M' := M) (k0 := 1) X (wd_row row_1) rfl (cwV 1 X.1.2.2.2.2 (gw_V wML_X6_76 wIM_X3_hasPlace wSE_X3_hasPlace wIN_X3 (gw_c wCD_X3_hasPlace)) rfl rfl rfl (by decide +kernel) ⟨Nat.le_of_ble_eq_true rfl, Nat.le_of_ble_eq_true rfl⟩) rfl rfl (Nat.le_of_ble_eq_true rfl) ⟨Nat.zero_le _, Nat.zero_le _⟩ (k_X3_hasPlace l D cy q 1 row_1 a1 M r1 e2) dX6_take_5 ?_
  refine B_if_ne X 14 dX6_take_8 (by decide) h (fun h => ?_) (fun h => ?_)
  · refine V_aload_n X dX6_take_14 0 rfl rfl ?_
    refine G_6_0 X inX6 wFL_X6_10 dX6_take_15 ?_
    refine V_iload_n X dX6_take_18 1 rfl rfl ?_
    obtain ⟨r3, e4, h⟩ := (Ok.bind h).ex
    refine C_Vi (As := [.int a1]) (M' := M) (k0 := 1) X (wd_row row_1) rfl (cwV 1 X.1.2.2.2.2 (gw_V wML_X6_79 wIM_X3_at wSE_X3_at wIN_X3 (gw_c wCD_X3_at)) rfl rfl rfl (by decide +kernel) ⟨Nat.le_of_ble_eq_true rfl, Nat.le_of_ble_eq_true rfl⟩) rfl rfl (Nat.le_of_ble_eq_true rfl) ⟨Nat.zero_le _, Nat.zero_le _⟩ (k_X3_at l D cy q 1 row_1 a1 M r3 e4) dX6_take_19 ?_
    refine V_istore_n (L' := [(2, .int r3), (0, .ref (q 0)), (1, .int a1)]) X dX6_take_22 rfl (by decide) rfl ?_
    refine V_aload_n X dX6_take_23 1 rfl rfl ?_
    refine G_6_1 X inX6 wFL_X6_19 dX6_take_24 ?_
    refine V_aload_n X dX6_take_27 1 rfl rfl ?_
    refine G_6_0 X inX6 wFL_X6_10 dX6_take_28 ?_
    obtain ⟨r5, e6, h⟩ := (Ok.bind h).ex
    refine C_Vv (As := [.ref (q 1)]) (M' := r5) (k0 := 13) X rfl rfl (cwV 1 X.1.2.2.2.2 (gw_V wML_X6_68 wIM_X0_remember wSE_X0_remember wIN_X0 (gw_c wCD_X0_remember)) rfl rfl rfl (by decide +kernel) ⟨Nat.le_of_ble_eq_true rfl, Nat.le_of_ble_eq_true rfl⟩) rfl rfl (Nat.le_of_ble_eq_true rfl) ⟨Nat.zero_le _, Nat.zero_le _⟩ (k_X0_remember l D cy q F 1 row_1 M r5 e6) dX6_take_31 ?_
    refine V_aload_n X dX6_take_34 1 rfl rfl ?_
    refine G_6_0 X inX6 wFL_X6_10 dX6_take_35 ?_
    refine V_iload_n X dX6_take_38 2 rfl rfl ?_
    obtain ⟨r7, e8, h⟩ := (Ok.bind h).ex
    refine C_Vv (As := [.int a1]) (M' := r7) (k0 := 1) X (wd_row row_1) rfl (cwV 1 X.1.2.2.2.2 (gw_V wML_X6_83 wIM_X3_remove wSE_X3_remove wIN_X3 (gw_c wCD_X3_remove)) rfl rfl rfl (by decide +kernel) ⟨Nat.le_of_ble_eq_true rfl, Nat.le_of_ble_eq_true rfl⟩) rfl rfl (Nat.le_of_ble_eq_true rfl) ⟨Nat.zero_le _, Nat.zero_le _⟩ (k_X3_remove l D cy q F 1 row_1 a1 r5 r7 e8) dX6_take_39 ?_
    refine V_iload_n X dX6_take_42 0 rfl rfl ?_
    have h : (r3, r7) = (rv, M') := h
    exact R_i X hr hlk (congrArg Prod.fst h) (congrArg Prod.snd h) dX6_take_43
  · refine V_ldc X wKI_X6_66 dX6_take_11 ?_
    have h : ((-1000001 : Int32), M) = (rv, M') := h
    exact R_i X hr hlk (congrArg Prod.fst h) (congrArg Prod.snd h) dX6_take_13
def rm_X3_replace : Room := { frames := 1, cells := 0, slots := 0, locals := 21 }
def f_X3_replace (k0 : Nat) (a1 : Int32) (a2 : Int32) (M : Mm) : Option (Mm) :=
  (f_X3_hasPlace k0 a1 M).bind fun r1 => if r1 = 0 then (some M) else (if inb a1 60 = true then some (up M (k0 + 1) (Int32.toNatClampNeg a1) a2) else none)
set_option maxRecDepth 100000 in
set_option maxHeartbeats 4000000 in
theorem k_X3_replace (l : Launch) (D : va_G) (cy : Nat → ClassId) (q : Nat → Nat) (k0 : Nat) (hk0 : isRow k0) (a1 : Int32) (a2 : Int32) (M : Mm) (M' : Mm) (h0 : f_X3_replace k0 a1 a2 M = some M') : KV l yX3_replace (Cond.code yX3_replace cX3_replace 3 none :: gw) rm_X3_replace D cy q [.ref (q k0), .int a1, .int a2] M M' := by
  refine KV.mk (L0 := [(0, .ref (q k0)), (1, .int a1), (2, .int a2)]) (by decide +kernel) rfl (Nat.le_of_ble_eq_true rfl) rfl rfl rfl ?_
  intro p e s m below meth c X0 hr hlk
  have X := Fx.gw (own := RX3) X0
  clear X0
  have h : Ok (f_X3_replace k0 a1 a2 M) (fun r => r = M') := Ok.of h0 rfl
  clear h0
  delta f_X3_replace at h
  refine V_aload_n X dX3_replace_0 0 rfl rfl ?_
  refine V_iload_n X dX3_replace_1 1 rfl rfl ?_
  obtain ⟨r1, e2, h⟩ := (Ok.bind h).ex
  refine C_Vi (As := [.int a1]) (M' := M) (k0 := k0) X (wd_row hk0) rfl (cwV 1 X.1.2.2.2.2 (gw_V wML_X3_19 wIM_X3_hasPlace wSE_X3_hasPlace wIN_X3 (gw_c wCD_X3_hasPlace)) rfl rfl rfl (by decide +kernel) ⟨Nat.le_of_ble_eq_true rfl, Nat.le_of_ble_eq_true rfl⟩) rfl rfl (Nat.le_of_ble_eq_true rfl) ⟨Nat.zero_le _, Nat.zero_le _⟩ (k_X3_hasPlace l D cy q k0 hk0 a1 M r1 e2) dX3_replace_2 ?_
  refine B_if_eq X 15 dX3_replace_5 (by decide) h (fun h => ?_) (fun h => ?_)
  · have h : M = M' := h
    exact R_v X hr hlk h dX3_replace_15
  · refine V_aload_n X dX3_replace_8 0 rfl rfl ?_
    refine G_3_0 X hk0 inX3 wFL_X3_9 dX3_replace_9 ?_
    refine V_iload_n X dX3_replace_12 1 rfl rfl ?_
    refine V_iload_n X dX3_replace_13 2 rfl rfl ?_
    refine A_a60_st X (isRow_a hk0) h dX3_replace_14 (fun hb3 h => ?_)
    have h : (up M (k0 + 1) (Int32.toNatClampNeg a1) a2) = M' := h
    exact R_v X hr hlk h dX3_replace_15
def rm_X6_change : Room := { frames := 3, cells := 0, slots := 0, locals := 64 }
def f_X6_change (F : Nat) (a1 : Int32) (a2 : Int32) (M : Mm) : Option (Int32 × Mm) :=
  (f_X3_hasPlace 1 a1 M).bind fun r1 => if r1 = 0 then (some ((-1000001 : Int32), M)) else ((f_X6_isSymbol a2).bind fun r3 => if r3 = 0 then (some ((-1000001 : Int32), M)) else ((f_X3_at 1 a1 M).bind fun r5 => (f_X0_remember F 1 M).bind fun r7 => (f_X3_replace 1 a1 a2 r7).bind fun r9 => some (r5, r9)))
set_option maxRecDepth 100000 in
set_option maxHeartbeats 4000000 in
theorem k_X6_change (l : Launch) (D : va_G) (cy : Nat → ClassId) (q : Nat → Nat) (F : Nat) (a1 : Int32) (a2 : Int32) (M : Mm) (rv : Int32) (M' : Mm) (h0 : f_X6_change F a1 a2 M = some (rv, M')) : KI l yX6_change (Cond.code yX6_change cX6_change 4 (Option.some FieldType.int) :: gw) rm_X6_change D cy q [.ref (q 0), .int a1, .int a2] M rv M' := by
  refine KI.mk (L0 := [(0, .ref (q 0)), (1, .int a1), (2, .int a2)]) (by decide +kernel) rfl (Nat.le_of_ble_eq_true rfl) rfl rfl rfl ?_
  intro p e s m below meth c X0 hr hlk
  have X := Fx.gw (own := RX6) X0
  clear X0
  have h : Ok (f_X6_change F a1 a2 M) (fun r => r = (rv, M')) := Ok.of h0 rfl
  clear h0
  delta f_X6_change at h
  refine V_aload_n X dX6_change_0 0 rfl rfl ?_
  refine G_6_0 X inX6 wFL_X6_10 dX6_change_1 ?_
  refine V_iload_n X dX6_change_4 1 rfl rfl ?_
  obtain ⟨r1, e2, h⟩ := (Ok.bind h).ex
  refine C_Vi (As := [.int a1]) (M' := M) (k0 := 1) X (wd_row row_1) rfl (cwV 1 X.1.2.2.2.2 (gw_V wML_X6_76 wIM_X3_hasPlace wSE_X3_hasPlace wIN_X3 (gw_c wCD_X3_hasPlace)) rfl rfl rfl (by decide +kernel) ⟨Nat.le_of_ble_eq_true rfl, Nat.le_of_ble_eq_true rfl⟩) rfl rfl (Nat.le_of_ble_eq_true rfl) ⟨Nat.zero_le _, Nat.zero_le _⟩ (k_X3_hasPlace l D cy q 1 row_1 a1 M r1 e2) dX6_change_5 ?_
  refine B_if_eq X 18 dX6_change_8 (by decide) h (fun h => ?_) (fun h => ?_)
  · refine V_ldc X wKI_X6_66 dX6_change_18 ?_
    have h : ((-1000001 : Int32), M) = (rv, M') := h
    exact R_i X hr hlk (congrArg Prod.fst h) (congrArg Prod.snd h) dX6_change_20
  · refine V_iload_n X dX6_change_11 2 rfl rfl ?_
    obtain ⟨r3, e4, h⟩ := (Ok.bind h).ex
    refine C_Si (As := [.int a2]) (M' := M) X (va_cwS 1 X.1.2.2.2.2 (gw_S wML_X6_62 wST_X6_isSymbol wIN_X6 (gw_c wCD_X6_isSymbol)) rfl rfl rfl (by decide +kernel) ⟨Nat.le_of_ble_eq_true rfl, Nat.le_of_ble_eq_true rfl⟩) rfl rfl (Nat.le_of_ble_eq_true rfl) ⟨Nat.zero_le _, Nat.zero_le _⟩ (k_X6_isSymbol l D cy q a2 M r3 e4) dX6_change_12 ?_
    refine B_if_ne X 21 dX6_change_15 (by decide) h (fun h => ?_) (fun h => ?_)
    · refine V_aload_n X dX6_change_21 0 rfl rfl ?_
      refine G_6_0 X inX6 wFL_X6_10 dX6_change_22 ?_
      refine V_iload_n X dX6_change_25 1 rfl rfl ?_
      obtain ⟨r5, e6, h⟩ := (Ok.bind h).ex
      refine C_Vi (As := [.int a1]) (M' := M) (k0 := 1) X (wd_row row_1) rfl (cwV 1 X.1.2.2.2.2 (gw_V wML_X6_79 wIM_X3_at wSE_X3_at wIN_X3 (gw_c wCD_X3_at)) rfl rfl rfl (by decide +kernel) ⟨Nat.le_of_ble_eq_true rfl, Nat.le_of_ble_eq_true rfl⟩) rfl rfl (Nat.le_of_ble_eq_true rfl) ⟨Nat.zero_le _, Nat.zero_le _⟩ (k_X3_at l D cy q 1 row_1 a1 M r5 e6) dX6_change_26 ?_
      refine V_istore_n (L' := [(3, .int r5), (0, .ref (q 0)), (1, .int a1), (2, .int a2)]) X dX6_change_29 rfl (by decide) rfl ?_
      refine V_aload_n X dX6_change_30 1 rfl rfl ?_
      refine G_6_1 X inX6 wFL_X6_19 dX6_change_31 ?_
      refine V_aload_n X dX6_change_34 1 rfl rfl ?_
      refine G_6_0 X inX6 wFL_X6_10 dX6_change_35 ?_
      obtain ⟨r7, e8, h⟩ := (Ok.bind h).ex
      refine C_Vv (As := [.ref (q 1)]) (M' := r7) (k0 := 13) X rfl rfl (cwV 1 X.1.2.2.2.2 (gw_V wML_X6_68 wIM_X0_remember wSE_X0_remember wIN_X0 (gw_c wCD_X0_remember)) rfl rfl rfl (by decide +kernel) ⟨Nat.le_of_ble_eq_true rfl, Nat.le_of_ble_eq_true rfl⟩) rfl rfl (Nat.le_of_ble_eq_true rfl) ⟨Nat.zero_le _, Nat.zero_le _⟩ (k_X0_remember l D cy q F 1 row_1 M r7 e8) dX6_change_38 ?_
      refine V_aload_n X dX6_change_41 1 rfl rfl ?_
      refine G_6_0 X inX6 wFL_X6_10 dX6_change_42 ?_
      refine V_iload_n X dX6_change_45 2 rfl rfl ?_
      refine V_iload_n X dX6_change_46 3 rfl rfl ?_
      obtain ⟨r9, e10, h⟩ := (Ok.bind h).ex
      refine C_Vv (As := [.int a1, .int a2]) (M' := r9) (k0 := 1) X (wd_row row_1) rfl (cwV 2 X.1.2.2.2.2 (gw_V wML_X6_87 wIM_X3_replace wSE_X3_replace wIN_X3 (gw_c wCD_X3_replace)) rfl rfl rfl (by decide +kernel) ⟨Nat.le_of_ble_eq_true rfl, Nat.le_of_ble_eq_true rfl⟩) rfl rfl (Nat.le_of_ble_eq_true rfl) ⟨Nat.zero_le _, Nat.zero_le _⟩ (k_X3_replace l D cy q 1 row_1 a1 a2 r7 r9 e10) dX6_change_47 ?_
      refine V_iload_n X dX6_change_50 0 rfl rfl ?_
      have h : (r5, r9) = (rv, M') := h
      exact R_i X hr hlk (congrArg Prod.fst h) (congrArg Prod.snd h) dX6_change_51
    · refine V_ldc X wKI_X6_66 dX6_change_18 ?_
      have h : ((-1000001 : Int32), M) = (rv, M') := h
      exact R_i X hr hlk (congrArg Prod.fst h) (congrArg Prod.snd h) dX6_change_20
def rm_X3_exchange : Room := { frames := 2, cells := 0, slots := 0, locals := 42 }
def f_X3_exchange (k0 : Nat) (a1 : Int32) (a2 : Int32) (M : Mm) : Option (Mm) :=
  (f_X3_at k0 a1 M).bind fun r1 => (f_X3_hasPlace k0 a1 M).bind fun r3 => if r3 = 0 then (some M) else ((f_X3_hasPlace k0 a2 M).bind fun r5 => if r5 = 0 then (some M) else (if inb a2 60 = true then if inb a1 60 = true then if inb a2 60 = true then some (up (up M (k0 + 1) (Int32.toNatClampNeg a1) (M (k0 + 1) (Int32.toNatClampNeg a2))) (k0 + 1) (Int32.toNatClampNeg a2) r1) else none else none else none))
set_option maxRecDepth 100000 in
set_option maxHeartbeats 4000000 in
theorem k_X3_exchange (l : Launch) (D : va_G) (cy : Nat → ClassId) (q : Nat → Nat) (k0 : Nat) (hk0 : isRow k0) (a1 : Int32) (a2 : Int32) (M : Mm) (M' : Mm) (h0 : f_X3_exchange k0 a1 a2 M = some M') : KV l yX3_exchange (Cond.code yX3_exchange cX3_exchange 4 none :: gw) rm_X3_exchange D cy q [.ref (q k0), .int a1, .int a2] M M' := by
  refine KV.mk (L0 := [(0, .ref (q k0)), (1, .int a1), (2, .int a2)]) (by decide +kernel) rfl (Nat.le_of_ble_eq_true rfl) rfl rfl rfl ?_
  intro p e s m below meth c X0 hr hlk
  have X := Fx.gw (own := RX3) X0
  clear X0
  have h : Ok (f_X3_exchange k0 a1 a2 M) (fun r => r = M') := Ok.of h0 rfl
  clear h0
  delta f_X3_exchange at h
  refine V_aload_n X dX3_exchange_0 0 rfl rfl ?_
  refine V_iload_n X dX3_exchange_1 1 rfl rfl ?_
  obtain ⟨r1, e2, h⟩ := (Ok.bind h).ex
  refine C_Vi (As := [.int a1]) (M' := M) (k0 := k0) X (wd_row hk0) rfl (cwV 1 X.1.2.2.2.2 (gw_V wML_X3_27 wIM_X3_at wSE_X3_at wIN_X3 (gw_c wCD_X3_at)) rfl rfl rfl (by decide +kernel) ⟨Nat.le_of_ble_eq_true rfl, Nat.le_of_ble_eq_true rfl⟩) rfl rfl (Nat.le_of_ble_eq_true rfl) ⟨Nat.zero_le _, Nat.zero_le _⟩ (k_X3_at l D cy q k0 hk0 a1 M r1 e2) dX3_exchange_2 ?_
  refine V_istore_n (L' := [(3, .int r1), (0, .ref (q k0)), (1, .int a1), (2, .int a2)]) X dX3_exchange_5 rfl (by decide) rfl ?_
  refine V_aload_n X dX3_exchange_6 1 rfl rfl ?_
  refine V_iload_n X dX3_exchange_7 2 rfl rfl ?_
  obtain ⟨r3, e4, h⟩ := (Ok.bind h).ex
  refine C_Vi (As := [.int a1]) (M' := M) (k0 := k0) X (wd_row hk0) rfl (cwV 1 X.1.2.2.2.2 (gw_V wML_X3_19 wIM_X3_hasPlace wSE_X3_hasPlace wIN_X3 (gw_c wCD_X3_hasPlace)) rfl rfl rfl (by decide +kernel) ⟨Nat.le_of_ble_eq_true rfl, Nat.le_of_ble_eq_true rfl⟩) rfl rfl (Nat.le_of_ble_eq_true rfl) ⟨Nat.zero_le _, Nat.zero_le _⟩ (k_X3_hasPlace l D cy q k0 hk0 a1 M r3 e4) dX3_exchange_8 ?_
  refine B_if_eq X 41 dX3_exchange_11 (by decide) h (fun h => ?_) (fun h => ?_)
  · have h : M = M' := h
    exact R_v X hr hlk h dX3_exchange_41
  · refine V_aload_n X dX3_exchange_14 1 rfl rfl ?_
    refine V_iload_n X dX3_exchange_15 3 rfl rfl ?_
    obtain ⟨r5, e6, h⟩ := (Ok.bind h).ex
    refine C_Vi (As := [.int a2]) (M' := M) (k0 := k0) X (wd_row hk0) rfl (cwV 1 X.1.2.2.2.2 (gw_V wML_X3_19 wIM_X3_hasPlace wSE_X3_hasPlace wIN_X3 (gw_c wCD_X3_hasPlace)) rfl rfl rfl (by decide +kernel) ⟨Nat.le_of_ble_eq_true rfl, Nat.le_of_ble_eq_true rfl⟩) rfl rfl (Nat.le_of_ble_eq_true rfl) ⟨Nat.zero_le _, Nat.zero_le _⟩ (k_X3_hasPlace l D cy q k0 hk0 a2 M r5 e6) dX3_exchange_16 ?_
    refine B_if_eq X 41 dX3_exchange_19 (by decide) h (fun h => ?_) (fun h => ?_)
    · have h : M = M' := h
      exact R_v X hr hlk h dX3_exchange_41
    · refine V_aload_n X dX3_exchange_22 1 rfl rfl ?_
      refine G_3_0 X hk0 inX3 wFL_X3_9 dX3_exchange_23 ?_
      refine V_iload_n X dX3_exchange_26 2 rfl rfl ?_
      refine V_aload_n X dX3_exchange_27 1 rfl rfl ?_
      refine G_3_0 X hk0 inX3 wFL_X3_9 dX3_exchange_28 ?_
      refine V_iload_n X dX3_exchange_31 3 rfl rfl ?_
      refine A_a60_ld X (isRow_a hk0) h dX3_exchange_32 (fun hb7 h => ?_)
      refine A_a60_st X (isRow_a hk0) h dX3_exchange_33 (fun hb8 h => ?_)
      refine V_aload_n X dX3_exchange_34 1 rfl rfl ?_
      refine G_3_0 X hk0 inX3 wFL_X3_9 dX3_exchange_35 ?_
      refine V_iload_n X dX3_exchange_38 3 rfl rfl ?_
      refine V_iload_n X dX3_exchange_39 0 rfl rfl ?_
      refine A_a60_st X (isRow_a hk0) h dX3_exchange_40 (fun hb9 h => ?_)
      have h : (up (up M (k0 + 1) (Int32.toNatClampNeg a1) (M (k0 + 1) (Int32.toNatClampNeg a2))) (k0 + 1) (Int32.toNatClampNeg a2) r1) = M' := h
      exact R_v X hr hlk h dX3_exchange_41
def rm_X6_swap : Room := { frames := 3, cells := 0, slots := 0, locals := 65 }
def f_X6_swap (F : Nat) (a1 : Int32) (a2 : Int32) (M : Mm) : Option (Int32 × Mm) :=
  (f_X3_hasPlace 1 a1 M).bind fun r1 => if r1 = 0 then (some ((-1000001 : Int32), M)) else ((f_X3_hasPlace 1 a2 M).bind fun r3 => if r3 = 0 then (some ((-1000001 : Int32), M)) else ((f_X3_at 1 a1 M).bind fun r5 => (f_X3_at 1 a2 M).bind fun r7 => jn (if r5 = r7 then (some (.inl (nI 0))) else (some (.inl (nI 1)))) (fun z9 : Int32 => (f_X0_remember F 1 M).bind fun r10 => (f_X3_exchange 1 a1 a2 r10).bind fun r12 => some (z9, r12))))
set_option maxRecDepth 100000 in
set_option maxHeartbeats 4000000 in
theorem k_X6_swap (l : Launch) (D : va_G) (cy : Nat → ClassId) (q : Nat → Nat) (F : Nat) (a1 : Int32) (a2 : Int32) (M : Mm) (rv : Int32) (M' : Mm) (h0 : f_X6_swap F a1 a2 M = some (rv, M')) : KI l yX6_swap (Cond.code yX6_swap cX6_swap 4 (Option.some FieldType.int) :: gw) rm_X6_swap D cy q [.ref (q 0), .int a1, .int a2] M rv M' := by
  refine KI.mk (L0 := [(0, .ref (q 0)), (1, .int a1), (2, .int a2)]) (by decide +kernel) rfl (Nat.le_of_ble_eq_true rfl) rfl rfl rfl ?_
  intro p e s m below meth c X0 hr hlk
  have X := Fx.gw (own := RX6) X0
  clear X0
  have h : Ok (f_X6_swap F a1 a2 M) (fun r => r = (rv, M')) := Ok.of h0 rfl
  clear h0
  delta f_X6_swap at h
  refine V_aload_n X dX6_swap_0 0 rfl rfl ?_
  refine G_6_0 X inX6 wFL_X6_10 dX6_swap_1 ?_
  refine V_iload_n X dX6_swap_4 1 rfl rfl ?_
  obtain ⟨r1, e2, h⟩ := (Ok.bind h).ex
  refine C_Vi (As := [.int a1]) (M' := M) (k0 := 1) X (wd_row row_1) rfl (cwV 1 X.1.2.2.2.2 (gw_V wML_X6_76 wIM_X3_hasPlace wSE_X3_hasPlace wIN_X3 (gw_c wCD_X3_hasPlace)) rfl rfl rfl (by decide +kernel) ⟨Nat.le_of_ble_eq_true rfl, Nat.le_of_ble_eq_true rfl⟩) rfl rfl (Nat.le_of_ble_eq_true rfl) ⟨Nat.zero_le _, Nat.zero_le _⟩ (k_X3_hasPlace l D cy q 1 row_1 a1 M r1 e2) dX6_swap_5 ?_
  refine B_if_eq X 22 dX6_swap_8 (by decide) h (fun h => ?_) (fun h => ?_)
  · refine V_ldc X wKI_X6_66 dX6_swap_22 ?_
    have h : ((-1000001 : Int32), M) = (rv, M') := h
    exact R_i X hr hlk (congrArg Prod.fst h) (congrArg Prod.snd h) dX6_swap_24
  · refine V_aload_n X dX6_swap_11 0 rfl rfl ?_
    refine G_6_0 X inX6 wFL_X6_10 dX6_swap_12 ?_
    refine V_iload_n X dX6_swap_15 2 rfl rfl ?_
    obtain ⟨r3, e4, h⟩ := (Ok.bind h).ex
    refine C_Vi (As := [.int a2]) (M' := M) (k0 := 1) X (wd_row row_1) rfl (cwV 1 X.1.2.2.2.2 (gw_V wML_X6_76 wIM_X3_hasPlace wSE_X3_hasPlace wIN_X3 (gw_c wCD_X3_hasPlace)) rfl rfl rfl (by decide +kernel) ⟨Nat.le_of_ble_eq_true rfl, Nat.le_of_ble_eq_true rfl⟩) rfl rfl (Nat.le_of_ble_eq_true rfl) ⟨Nat.zero_le _, Nat.zero_le _⟩ (k_X3_hasPlace l D cy q 1 row_1 a2 M r3 e4) dX6_swap_16 ?_
    refine B_if_ne X 25 dX6_swap_19 (by decide) h (fun h => ?_) (fun h => ?_)
    · refine V_aload_n X dX6_swap_25 0 rfl rfl ?_
      refine G_6_0 X inX6 wFL_X6_10 dX6_swap_26 ?_
      refine V_iload_n X dX6_swap_29 1 rfl rfl ?_
      obtain ⟨r5, e6, h⟩ := (Ok.bind h).ex
      refine C_Vi (As := [.int a1]) (M' := M) (k0 := 1) X (wd_row row_1) rfl (cwV 1 X.1.2.2.2.2 (gw_V wML_X6_79 wIM_X3_at wSE_X3_at wIN_X3 (gw_c wCD_X3_at)) rfl rfl rfl (by decide +kernel) ⟨Nat.le_of_ble_eq_true rfl, Nat.le_of_ble_eq_true rfl⟩) rfl rfl (Nat.le_of_ble_eq_true rfl) ⟨Nat.zero_le _, Nat.zero_le _⟩ (k_X3_at l D cy q 1 row_1 a1 M r5 e6) dX6_swap_30 ?_
      refine V_aload_n X dX6_swap_33 0 rfl rfl ?_
      refine G_6_0 X inX6 wFL_X6_10 dX6_swap_34 ?_
      refine V_iload_n X dX6_swap_37 2 rfl rfl ?_
      obtain ⟨r7, e8, h⟩ := (Ok.bind h).ex
      refine C_Vi (As := [.int a2]) (M' := M) (k0 := 1) X (wd_row row_1) rfl (cwV 1 X.1.2.2.2.2 (gw_V wML_X6_79 wIM_X3_at wSE_X3_at wIN_X3 (gw_c wCD_X3_at)) rfl rfl rfl (by decide +kernel) ⟨Nat.le_of_ble_eq_true rfl, Nat.le_of_ble_eq_true rfl⟩) rfl rfl (Nat.le_of_ble_eq_true rfl) ⟨Nat.zero_le _, Nat.zero_le _⟩ (k_X3_at l D cy q 1 row_1 a2 M r7 e8) dX6_swap_38 ?_
      refine V_join X h (fun z9 => M) (fun z9 => [(0, .ref (q 0)), (1, .int a1), (2, .int a2)]) (fun z9 => [.int z9]) 49 (fun z9 h => ?_) (fun h => ?_)
      · refine V_istore_n (L' := [(3, .int z9), (0, .ref (q 0)), (1, .int a1), (2, .int a2)]) X dX6_swap_49 rfl (by decide) rfl ?_
        refine V_aload_n X dX6_swap_50 1 rfl rfl ?_
        refine G_6_1 X inX6 wFL_X6_19 dX6_swap_51 ?_
        refine V_aload_n X dX6_swap_54 1 rfl rfl ?_
        refine G_6_0 X inX6 wFL_X6_10 dX6_swap_55 ?_
        obtain ⟨r10, e11, h⟩ := (Ok.bind h).ex
        refine C_Vv (As := [.ref (q 1)]) (M' := r10) (k0 := 13) X rfl rfl (cwV 1 X.1.2.2.2.2 (gw_V wML_X6_68 wIM_X0_remember wSE_X0_remember wIN_X0 (gw_c wCD_X0_remember)) rfl rfl rfl (by decide +kernel) ⟨Nat.le_of_ble_eq_true rfl, Nat.le_of_ble_eq_true rfl⟩) rfl rfl (Nat.le_of_ble_eq_true rfl) ⟨Nat.zero_le _, Nat.zero_le _⟩ (k_X0_remember l D cy q F 1 row_1 M r10 e11) dX6_swap_58 ?_
        refine V_aload_n X dX6_swap_61 1 rfl rfl ?_
        refine G_6_0 X inX6 wFL_X6_10 dX6_swap_62 ?_
        refine V_iload_n X dX6_swap_65 2 rfl rfl ?_
        refine V_iload_n X dX6_swap_66 3 rfl rfl ?_
        obtain ⟨r12, e13, h⟩ := (Ok.bind h).ex
        refine C_Vv (As := [.int a1, .int a2]) (M' := r12) (k0 := 1) X (wd_row row_1) rfl (cwV 2 X.1.2.2.2.2 (gw_V wML_X6_90 wIM_X3_exchange wSE_X3_exchange wIN_X3 (gw_c wCD_X3_exchange)) rfl rfl rfl (by decide +kernel) ⟨Nat.le_of_ble_eq_true rfl, Nat.le_of_ble_eq_true rfl⟩) rfl rfl (Nat.le_of_ble_eq_true rfl) ⟨Nat.zero_le _, Nat.zero_le _⟩ (k_X3_exchange l D cy q 1 row_1 a1 a2 r10 r12 e13) dX6_swap_67 ?_
        refine V_iload_n X dX6_swap_70 0 rfl rfl ?_
        have h : (z9, r12) = (rv, M') := h
        exact R_i X hr hlk (congrArg Prod.fst h) (congrArg Prod.snd h) dX6_swap_71
      · refine B_icmp_eq X 48 dX6_swap_41 (by decide) h (fun h => ?_) (fun h => ?_)
        · refine V_iconst (v := (nI 0)) X dX6_swap_48 (by decide) ?_
          exact V_sub [0, 1, 2] rfl h
        · refine V_iconst (v := (nI 1)) X dX6_swap_44 (by decide) ?_
          refine V_goto X 49 dX6_swap_45 (by decide) ?_
          exact V_sub [0, 1, 2] rfl h
    · refine V_ldc X wKI_X6_66 dX6_swap_22 ?_
      have h : ((-1000001 : Int32), M) = (rv, M') := h
      exact R_i X hr hlk (congrArg Prod.fst h) (congrArg Prod.snd h) dX6_swap_24
def rm_X3_hasSpan : Room := { frames := 0, cells := 0, slots := 0, locals := 0 }
def f_X3_hasSpan (k0 : Nat) (a1 : Int32) (a2 : Int32) (M : Mm) : Option (Int32) :=
  if a1 < 0 then (some (nI 0)) else (if a2 < a1 then (some (nI 0)) else (if (M k0 1) < a2 then (some (nI 0)) else (some (nI 1))))
set_option maxRecDepth 100000 in
set_option maxHeartbeats 4000000 in
theorem k_X3_hasSpan (l : Launch) (D : va_G) (cy : Nat → ClassId) (q : Nat → Nat) (k0 : Nat) (hk0 : isRow k0) (a1 : Int32) (a2 : Int32) (M : Mm) (rv : Int32) (h0 : f_X3_hasSpan k0 a1 a2 M = some rv) : KI l yX3_hasSpan (Cond.code yX3_hasSpan cX3_hasSpan 3 (Option.some FieldType.boolean) :: gw) rm_X3_hasSpan D cy q [.ref (q k0), .int a1, .int a2] M rv M := by
  refine KI.mk (L0 := [(0, .ref (q k0)), (1, .int a1), (2, .int a2)]) (by decide +kernel) rfl (Nat.le_of_ble_eq_true rfl) rfl rfl rfl ?_
  intro p e s m below meth c X0 hr hlk
  have X := Fx.gw (own := RX3) X0
  clear X0
  have h : Ok (f_X3_hasSpan k0 a1 a2 M) (fun r => r = rv) := Ok.of h0 rfl
  clear h0
  delta f_X3_hasSpan at h
  refine V_iload_n X dX3_hasSpan_0 1 rfl rfl ?_
  refine B_if_lt X 21 dX3_hasSpan_1 (by decide) h (fun h => ?_) (fun h => ?_)
  · refine V_iconst (v := (nI 0)) X dX3_hasSpan_21 (by decide) ?_
    have h : (nI 0) = rv := h
    exact R_z X hr hlk rfl h rfl dX3_hasSpan_22
  · refine V_iload_n X dX3_hasSpan_4 1 rfl rfl ?_
    refine V_iload_n X dX3_hasSpan_5 2 rfl rfl ?_
    refine B_icmp_gt X 21 dX3_hasSpan_6 (by decide) h (fun h => ?_) (fun h => ?_)
    · refine V_iconst (v := (nI 0)) X dX3_hasSpan_21 (by decide) ?_
      have h : (nI 0) = rv := h
      exact R_z X hr hlk rfl h rfl dX3_hasSpan_22
    · refine V_iload_n X dX3_hasSpan_9 2 rfl rfl ?_
      refine V_aload_n X dX3_hasSpan_10 0 rfl rfl ?_
      refine G_3_1 X hk0 inX3 wFL_X3_15 dX3_hasSpan_11 ?_
      refine B_icmp_gt X 21 dX3_hasSpan_14 (by decide) h (fun h => ?_) (fun h => ?_)
      · refine V_iconst (v := (nI 0)) X dX3_hasSpan_21 (by decide) ?_
        have h : (nI 0) = rv := h
        exact R_z X hr hlk rfl h rfl dX3_hasSpan_22
      · refine V_iconst (v := (nI 1)) X dX3_hasSpan_17 (by decide) ?_
        refine V_goto X 22 dX3_hasSpan_18 (by decide) ?_
        have h : (nI 1) = rv := h
        exact R_z X hr hlk rfl h rfl dX3_hasSpan_22
def rm_X3_reverse : Room := { frames := 3, cells := 0, slots := 0, locals := 65 }
def f_X3_reverse (F : Nat) (k0 : Nat) (a1 : Int32) (a2 : Int32) (M : Mm) : Option (Int32 × Mm) :=
  lpf (fun z1 : Int32 × Int32 × Int32 × Mm => if z1.2.1 ≤ z1.2.2.1 then (some (.inr (z1.1, z1.2.2.2))) else ((f_X3_at k0 z1.2.2.1 z1.2.2.2).bind fun r2 => (f_X3_at k0 z1.2.1 z1.2.2.2).bind fun r4 => if r2 = r4 then ((f_X3_exchange k0 z1.2.2.1 z1.2.1 z1.2.2.2).bind fun r6 => some (.inl (z1.1, (z1.2.1 + (-1 : Int32)), (z1.2.2.1 + (nI 1)), r6))) else ((f_X3_exchange k0 z1.2.2.1 z1.2.1 z1.2.2.2).bind fun r8 => some (.inl ((z1.1 + (nI 2)), (z1.2.1 + (-1 : Int32)), (z1.2.2.1 + (nI 1)), r8))))) F ((nI 0), (a2 - (nI 1)), a1, M)
set_option maxRecDepth 100000 in
set_option maxHeartbeats 4000000 in
theorem k_X3_reverse (l : Launch) (D : va_G) (cy : Nat → ClassId) (q : Nat → Nat) (F : Nat) (k0 : Nat) (hk0 : isRow k0) (a1 : Int32) (a2 : Int32) (M : Mm) (rv : Int32) (M' : Mm) (h0 : f_X3_reverse F k0 a1 a2 M = some (rv, M')) : KI l yX3_reverse (Cond.code yX3_reverse cX3_reverse 6 (Option.some FieldType.int) :: gw) rm_X3_reverse D cy q [.ref (q k0), .int a1, .int a2] M rv M' := by
  refine KI.mk (L0 := [(0, .ref (q k0)), (1, .int a1), (2, .int a2)]) (by decide +kernel) rfl (Nat.le_of_ble_eq_true rfl) rfl rfl rfl ?_
  intro p e s m below meth c X0 hr hlk
  have X := Fx.gw (own := RX3) X0
  clear X0
  have h : Ok (f_X3_reverse F k0 a1 a2 M) (fun r => r = (rv, M')) := Ok.of h0 rfl
  clear h0
  delta f_X3_reverse at h
  refine V_iconst (v := (nI 0)) X dX3_reverse_0 (by decide) ?_
  refine V_istore_n (L' := [(3, .int (nI 0)), (0, .ref (q k0)), (1, .int a1), (2, .int a2)]) X dX3_reverse_1 rfl (by decide) rfl ?_
  refine V_iload_n X dX3_reverse_2 3 rfl rfl ?_
  refine V_iconst (v := (nI 1)) X dX3_reverse_3 (by decide) ?_
  refine V_isub X dX3_reverse_4 ?_
  refine V_istore (L' := [(4, .int (a2 - (nI 1))), (3, .int (nI 0)), (0, .ref (q k0)), (1, .int a1), (2, .int a2)]) X dX3_reverse_5 (by decide) rfl ?_
  refine V_iload_n X dX3_reverse_7 3 rfl rfl ?_
  refine V_istore (L' := [(5, .int a1), (4, .int (a2 - (nI 1))), (3, .int (nI 0)), (0, .ref (q k0)), (1, .int a1), (2, .int a2)]) X dX3_reverse_8 (by decide) rfl ?_
  refine V_sub (L' := [(0, .ref (q k0)), (3, .int (nI 0)), (4, .int (a2 - (nI 1))), (5, .int a1)]) [3, 2, 1, 0] rfl ?_
  refine V_loop X h (fun z1 => z1.2.2.2) (fun z1 => [(0, .ref (q k0)), (3, .int z1.1), (4, .int z1.2.1), (5, .int z1.2.2.1)]) rfl rfl (fun z1 h => ?_)
  refine V_iload X dX3_reverse_10 3 rfl ?_
  refine V_iload X dX3_reverse_12 2 rfl ?_
  refine B_icmp_ge X 52 dX3_reverse_14 (by decide) h (fun h => ?_) (fun h => ?_)
  · refine V_iload_n X dX3_reverse_52 1 rfl rfl ?_
    have h : (z1.1, z1.2.2.2) = (rv, M') := h
    exact R_i X hr hlk (congrArg Prod.fst h) (congrArg Prod.snd h) dX3_reverse_53
  · refine V_aload_n X dX3_reverse_17 0 rfl rfl ?_
    refine V_iload X dX3_reverse_18 3 rfl ?_
    obtain ⟨r2, e3, h⟩ := (Ok.bind h).ex
    refine C_Vi (As := [.int z1.2.2.1]) (M' := z1.2.2.2) (k0 := k0) X (wd_row hk0) rfl (cwV 1 X.1.2.2.2.2 (gw_V wML_X3_27 wIM_X3_at wSE_X3_at wIN_X3 (gw_c wCD_X3_at)) rfl rfl rfl (by decide +kernel) ⟨Nat.le_of_ble_eq_true rfl, Nat.le_of_ble_eq_true rfl⟩) rfl rfl (Nat.le_of_ble_eq_true rfl) ⟨Nat.zero_le _, Nat.zero_le _⟩ (k_X3_at l D cy q k0 hk0 z1.2.2.1 z1.2.2.2 r2 e3) dX3_reverse_20 ?_
    refine V_aload_n X dX3_reverse_23 0 rfl rfl ?_
    refine V_iload X dX3_reverse_24 2 rfl ?_
    obtain ⟨r4, e5, h⟩ := (Ok.bind h).ex
    refine C_Vi (As := [.int z1.2.1]) (M' := z1.2.2.2) (k0 := k0) X (wd_row hk0) rfl (cwV 1 X.1.2.2.2.2 (gw_V wML_X3_27 wIM_X3_at wSE_X3_at wIN_X3 (gw_c wCD_X3_at)) rfl rfl rfl (by decide +kernel) ⟨Nat.le_of_ble_eq_true rfl, Nat.le_of_ble_eq_true rfl⟩) rfl rfl (Nat.le_of_ble_eq_true rfl) ⟨Nat.zero_le _, Nat.zero_le _⟩ (k_X3_at l D cy q k0 hk0 z1.2.1 z1.2.2.2 r4 e5) dX3_reverse_26 ?_
    refine B_icmp_eq X 35 dX3_reverse_29 (by decide) h (fun h => ?_) (fun h => ?_)
    · refine V_aload_n X dX3_reverse_35 0 rfl rfl ?_
      refine V_iload X dX3_reverse_36 3 rfl ?_
      refine V_iload X dX3_reverse_38 2 rfl ?_
      obtain ⟨r6, e7, h⟩ := (Ok.bind h).ex
      refine C_Vv (As := [.int z1.2.2.1, .int z1.2.1]) (M' := r6) (k0 := k0) X (wd_row hk0) rfl (cwV 2 X.1.2.2.2.2 (gw_V wML_X3_31 wIM_X3_exchange wSE_X3_exchange wIN_X3 (gw_c wCD_X3_exchange)) rfl rfl rfl (by decide +kernel) ⟨Nat.le_of_ble_eq_true rfl, Nat.le_of_ble_eq_true rfl⟩) rfl rfl (Nat.le_of_ble_eq_true rfl) ⟨Nat.zero_le _, Nat.zero_le _⟩ (k_X3_exchange l D cy q k0 hk0 z1.2.2.1 z1.2.1 z1.2.2.2 r6 e7) dX3_reverse_40 ?_
      refine V_iinc (v := (z1.2.1 + (-1 : Int32))) (L' := [(4, .int (z1.2.1 + (-1 : Int32))), (0, .ref (q k0)), (3, .int z1.1), (5, .int z1.2.2.1)]) (j := 2) X dX3_reverse_43 rfl rfl (by decide) rfl ?_
      refine V_iinc (v := (z1.2.2.1 + (nI 1))) (L' := [(5, .int (z1.2.2.1 + (nI 1))), (4, .int (z1.2.1 + (-1 : Int32))), (0, .ref (q k0)), (3, .int z1.1)]) (j := 3) X dX3_reverse_46 rfl rfl (by decide) rfl ?_
      refine V_goto X 10 dX3_reverse_49 (by decide) ?_
      exact V_sub [2, 3, 1, 0] rfl h
    · refine V_iinc (v := (z1.1 + (nI 2))) (L' := [(3, .int (z1.1 + (nI 2))), (0, .ref (q k0)), (4, .int z1.2.1), (5, .int z1.2.2.1)]) (j := 1) X dX3_reverse_32 rfl rfl (by decide) rfl ?_
      refine V_aload_n X dX3_reverse_35 1 rfl rfl ?_
      refine V_iload X dX3_reverse_36 3 rfl ?_
      refine V_iload X dX3_reverse_38 2 rfl ?_
      obtain ⟨r8, e9, h⟩ := (Ok.bind h).ex
      refine C_Vv (As := [.int z1.2.2.1, .int z1.2.1]) (M' := r8) (k0 := k0) X (wd_row hk0) rfl (cwV 2 X.1.2.2.2.2 (gw_V wML_X3_31 wIM_X3_exchange wSE_X3_exchange wIN_X3 (gw_c wCD_X3_exchange)) rfl rfl rfl (by decide +kernel) ⟨Nat.le_of_ble_eq_true rfl, Nat.le_of_ble_eq_true rfl⟩) rfl rfl (Nat.le_of_ble_eq_true rfl) ⟨Nat.zero_le _, Nat.zero_le _⟩ (k_X3_exchange l D cy q k0 hk0 z1.2.2.1 z1.2.1 z1.2.2.2 r8 e9) dX3_reverse_40 ?_
      refine V_iinc (v := (z1.2.1 + (-1 : Int32))) (L' := [(4, .int (z1.2.1 + (-1 : Int32))), (3, .int (z1.1 + (nI 2))), (0, .ref (q k0)), (5, .int z1.2.2.1)]) (j := 2) X dX3_reverse_43 rfl rfl (by decide) rfl ?_
      refine V_iinc (v := (z1.2.2.1 + (nI 1))) (L' := [(5, .int (z1.2.2.1 + (nI 1))), (4, .int (z1.2.1 + (-1 : Int32))), (3, .int (z1.1 + (nI 2))), (0, .ref (q k0))]) (j := 3) X dX3_reverse_46 rfl rfl (by decide) rfl ?_
      refine V_goto X 10 dX3_reverse_49 (by decide) ?_
      exact V_sub [3, 2, 1, 0] rfl h
def rm_X6_turn : Room := { frames := 4, cells := 0, slots := 0, locals := 90 }
def f_X6_turn (F : Nat) (a1 : Int32) (a2 : Int32) (M : Mm) : Option (Int32 × Mm) :=
  (f_X3_hasSpan 1 a1 a2 M).bind fun r1 => if r1 = 0 then (some ((-1000001 : Int32), M)) else ((f_X0_remember F 1 M).bind fun r3 => (f_X3_reverse F 1 a1 a2 r3).bind fun r5 => some (r5.1, r5.2))
set_option maxRecDepth 100000 in
set_option maxHeartbeats 4000000 in
theorem k_X6_turn (l : Launch) (D : va_G) (cy : Nat → ClassId) (q : Nat → Nat) (F : Nat) (a1 : Int32) (a2 : Int32) (M : Mm) (rv : Int32) (M' : Mm) (h0 : f_X6_turn F a1 a2 M = some (rv, M')) : KI l yX6_turn (Cond.code yX6_turn cX6_turn 3 (Option.some FieldType.int) :: gw) rm_X6_turn D cy q [.ref (q 0), .int a1, .int a2] M rv M' := by
  refine KI.mk (L0 := [(0, .ref (q 0)), (1, .int a1), (2, .int a2)]) (by decide +kernel) rfl (Nat.le_of_ble_eq_true rfl) rfl rfl rfl ?_
  intro p e s m below meth c X0 hr hlk
  have X := Fx.gw (own := RX6) X0
  clear X0
  have h : Ok (f_X6_turn F a1 a2 M) (fun r => r = (rv, M')) := Ok.of h0 rfl
  clear h0
  delta f_X6_turn at h
  refine V_aload_n X dX6_turn_0 0 rfl rfl ?_
  refine G_6_0 X inX6 wFL_X6_10 dX6_turn_1 ?_
  refine V_iload_n X dX6_turn_4 1 rfl rfl ?_
  refine V_iload_n X dX6_turn_5 2 rfl rfl ?_
  obtain ⟨r1, e2, h⟩ := (Ok.bind h).ex
  refine C_Vi (As := [.int a1, .int a2]) (M' := M) (k0 := 1) X (wd_row row_1) rfl (cwV 2 X.1.2.2.2.2 (gw_V wML_X6_93 wIM_X3_hasSpan wSE_X3_hasSpan wIN_X3 (gw_c wCD_X3_hasSpan)) rfl rfl rfl (by decide +kernel) ⟨Nat.le_of_ble_eq_true rfl, Nat.le_of_ble_eq_true rfl⟩) rfl rfl (Nat.le_of_ble_eq_true rfl) ⟨Nat.zero_le _, Nat.zero_le _⟩ (k_X3_hasSpan l D cy q 1 row_1 a1 a2 M r1 e2) dX6_turn_6 ?_
  refine B_if_ne X 15 dX6_turn_9 (by decide) h (fun h => ?_) (fun h => ?_)
  · refine V_aload_n X dX6_turn_15 0 rfl rfl ?_
    refine G_6_1 X inX6 wFL_X6_19 dX6_turn_16 ?_
    refine V_aload_n X dX6_turn_19 0 rfl rfl ?_
    refine G_6_0 X inX6 wFL_X6_10 dX6_turn_20 ?_
    obtain ⟨r3, e4, h⟩ := (Ok.bind h).ex
    refine C_Vv (As := [.ref (q 1)]) (M' := r3) (k0 := 13) X rfl rfl (cwV 1 X.1.2.2.2.2 (gw_V wML_X6_68 wIM_X0_remember wSE_X0_remember wIN_X0 (gw_c wCD_X0_remember)) rfl rfl rfl (by decide +kernel) ⟨Nat.le_of_ble_eq_true rfl, Nat.le_of_ble_eq_true rfl⟩) rfl rfl (Nat.le_of_ble_eq_true rfl) ⟨Nat.zero_le _, Nat.zero_le _⟩ (k_X0_remember l D cy q F 1 row_1 M r3 e4) dX6_turn_23 ?_
    refine V_aload_n X dX6_turn_26 0 rfl rfl ?_
    refine G_6_0 X inX6 wFL_X6_10 dX6_turn_27 ?_
    refine V_iload_n X dX6_turn_30 1 rfl rfl ?_
    refine V_iload_n X dX6_turn_31 2 rfl rfl ?_
    obtain ⟨r5, e6, h⟩ := (Ok.bind h).ex
    refine C_Vi (As := [.int a1, .int a2]) (M' := r5.2) (k0 := 1) X (wd_row row_1) rfl (cwV 2 X.1.2.2.2.2 (gw_V wML_X6_96 wIM_X3_reverse wSE_X3_reverse wIN_X3 (gw_c wCD_X3_reverse)) rfl rfl rfl (by decide +kernel) ⟨Nat.le_of_ble_eq_true rfl, Nat.le_of_ble_eq_true rfl⟩) rfl rfl (Nat.le_of_ble_eq_true rfl) ⟨Nat.zero_le _, Nat.zero_le _⟩ (k_X3_reverse l D cy q F 1 row_1 a1 a2 r3 r5.1 r5.2 e6) dX6_turn_32 ?_
    have h : (r5.1, r5.2) = (rv, M') := h
    exact R_i X hr hlk (congrArg Prod.fst h) (congrArg Prod.snd h) dX6_turn_35
  · refine V_ldc X wKI_X6_66 dX6_turn_12 ?_
    have h : ((-1000001 : Int32), M) = (rv, M') := h
    exact R_i X hr hlk (congrArg Prod.fst h) (congrArg Prod.snd h) dX6_turn_14
def rm_X4_fill : Room := { frames := 2, cells := 0, slots := 0, locals := 42 }
def f_X4_fill (F : Nat) (k0 : Nat) (k1 : Nat) (a2 : Int32) (a3 : Int32) (M : Mm) : Option (Mm) :=
  lpf (fun z1 : Int32 × Mm => if (nI 16) ≤ z1.1 then (lpf (fun z2 : Int32 × Mm => if a3 ≤ z2.1 then (some (.inr (.inr z2.2))) else ((f_X3_at k1 z2.1 z2.2).bind fun r3 => (f_X6_isSymbol r3).bind fun r5 => if r5 = 0 then (some (.inl ((z2.1 + (nI 1)), z2.2))) else (if inb r3 16 = true then if inb r3 16 = true then some (.inl ((z2.1 + (nI 1)), (up z2.2 (k0 + 1) (Int32.toNatClampNeg r3) ((z2.2 (k0 + 1) (Int32.toNatClampNeg r3)) + (nI 1))))) else none else none))) F (a2, z1.2)) else (if inb z1.1 16 = true then some (.inl ((z1.1 + (nI 1)), (up z1.2 (k0 + 1) (Int32.toNatClampNeg z1.1) (nI 0)))) else none)) F ((nI 0), M)
set_option maxRecDepth 100000 in
set_option maxHeartbeats 4000000 in
theorem k_X4_fill (l : Launch) (D : va_G) (cy : Nat → ClassId) (q : Nat → Nat) (F : Nat) (k0 : Nat) (hk0 : isTly k0) (k1 : Nat) (hk1 : isRow k1) (a2 : Int32) (a3 : Int32) (M : Mm) (M' : Mm) (h0 : f_X4_fill F k0 k1 a2 a3 M = some M') : KV l yX4_fill (Cond.code yX4_fill cX4_fill 6 none :: gw) rm_X4_fill D cy q [.ref (q k0), .ref (q k1), .int a2, .int a3] M M' := by
  refine KV.mk (L0 := [(0, .ref (q k0)), (1, .ref (q k1)), (2, .int a2), (3, .int a3)]) (by decide +kernel) rfl (Nat.le_of_ble_eq_true rfl) rfl rfl rfl ?_
  intro p e s m below meth c X0 hr hlk
  have X := Fx.gw (own := RX4) X0
  clear X0
  have h : Ok (f_X4_fill F k0 k1 a2 a3 M) (fun r => r = M') := Ok.of h0 rfl
  clear h0
  delta f_X4_fill at h
  refine V_iconst (v := (nI 0)) X dX4_fill_0 (by decide) ?_
  refine V_istore (L' := [(4, .int (nI 0)), (0, .ref (q k0)), (1, .ref (q k1)), (2, .int a2), (3, .int a3)]) X dX4_fill_1 (by decide) rfl ?_
  refine V_sub (L' := [(0, .ref (q k0)), (1, .ref (q k1)), (2, .int a2), (3, .int a3), (4, .int (nI 0))]) [1, 2, 3, 4, 0] rfl ?_
  refine V_loop X h (fun z1 => z1.2) (fun z1 => [(0, .ref (q k0)), (1, .ref (q k1)), (2, .int a2), (3, .int a3), (4, .int z1.1)]) rfl rfl (fun z1 h => ?_)
  refine V_iload X dX4_fill_3 4 rfl ?_
  refine V_bipush (v := (nI 16)) X dX4_fill_5 (by decide) ?_
  refine B_icmp_ge X 24 dX4_fill_7 (by decide) h (fun h => ?_) (fun h => ?_)
  · refine V_iload_n X dX4_fill_24 2 rfl rfl ?_
    refine V_istore (L' := [(4, .int a2), (0, .ref (q k0)), (1, .ref (q k1)), (2, .int a2), (3, .int a3)]) X dX4_fill_25 (by decide) rfl ?_
    refine V_sub (L' := [(0, .ref (q k0)), (1, .ref (q k1)), (3, .int a3), (4, .int a2)]) [1, 2, 4, 0] rfl ?_
    refine V_loop X h (fun z2 => z2.2) (fun z2 => [(0, .ref (q k0)), (1, .ref (q k1)), (3, .int a3), (4, .int z2.1)]) rfl rfl (fun z2 h => ?_)
    refine V_iload X dX4_fill_27 3 rfl ?_
    refine V_iload_n X dX4_fill_29 2 rfl rfl ?_
    refine B_icmp_ge X 66 dX4_fill_30 (by decide) h (fun h => ?_) (fun h => ?_)
    · have h : z2.2 = M' := h
      exact R_v X hr hlk h dX4_fill_66
    · refine V_aload_n X dX4_fill_33 1 rfl rfl ?_
      refine V_iload X dX4_fill_34 3 rfl ?_
      obtain ⟨r3, e4, h⟩ := (Ok.bind h).ex
      refine C_Vi (As := [.int z2.1]) (M' := z2.2) (k0 := k1) X (wd_row hk1) rfl (cwV 1 X.1.2.2.2.2 (gw_V wML_X4_15 wIM_X3_at wSE_X3_at wIN_X3 (gw_c wCD_X3_at)) rfl rfl rfl (by decide +kernel) ⟨Nat.le_of_ble_eq_true rfl, Nat.le_of_ble_eq_true rfl⟩) rfl rfl (Nat.le_of_ble_eq_true rfl) ⟨Nat.zero_le _, Nat.zero_le _⟩ (k_X3_at l D cy q k1 hk1 z2.1 z2.2 r3 e4) dX4_fill_36 ?_
      refine V_istore (L' := [(5, .int r3), (0, .ref (q k0)), (1, .ref (q k1)), (3, .int a3), (4, .int z2.1)]) X dX4_fill_39 (by decide) rfl ?_
      refine V_iload X dX4_fill_41 0 rfl ?_
      obtain ⟨r5, e6, h⟩ := (Ok.bind h).ex
      refine C_Ni (As := [.int r3]) (M' := z2.2) X ⟨va_cnB 1 X.1.2.2.2.2 (gw_code wCD_X6_isSymbol) rfl rfl rfl X.2.1.2.2.1 (X.1.2.2.2.2 _ wIN_X6) (by decide +kernel) ⟨Nat.le_of_ble_eq_true rfl, Nat.le_of_ble_eq_true rfl⟩, X.1.2.2.2.2 _ wST_X6_isSymbol, trivial⟩ rfl rfl (Nat.le_of_ble_eq_true rfl) ⟨Nat.zero_le _, Nat.zero_le _⟩ (k_X6_isSymbol l D cy q r3 z2.2 r5 e6) dX4_fill_43 ?_
      refine B_if_eq X 60 dX4_fill_46 (by decide) h (fun h => ?_) (fun h => ?_)
      · refine V_iinc (v := (z2.1 + (nI 1))) (L' := [(4, .int (z2.1 + (nI 1))), (5, .int r3), (0, .ref (q k0)), (1, .ref (q k1)), (3, .int a3)]) (j := 4) X dX4_fill_60 rfl rfl (by decide) rfl ?_
        refine V_goto X 27 dX4_fill_63 (by decide) ?_
        exact V_sub [2, 3, 4, 0] rfl h
      · refine V_aload_n X dX4_fill_49 1 rfl rfl ?_
        refine G_4_0 X hk0 inX4 wFL_X4_9 dX4_fill_50 ?_
        refine V_iload X dX4_fill_53 0 rfl ?_
        refine V_dup2 X dX4_fill_55 rfl rfl ?_
        refine A_a16_ld X (isTly_a hk0) h dX4_fill_56 (fun hb7 h => ?_)
        refine V_iconst (v := (nI 1)) X dX4_fill_57 (by decide) ?_
        refine V_iadd X dX4_fill_58 ?_
        refine A_a16_st X (isTly_a hk0) h dX4_fill_59 (fun hb8 h => ?_)
        refine V_iinc (v := (z2.1 + (nI 1))) (L' := [(4, .int (z2.1 + (nI 1))), (5, .int r3), (0, .ref (q k0)), (1, .ref (q k1)), (3, .int a3)]) (j := 4) X dX4_fill_60 rfl rfl (by decide) rfl ?_
        refine V_goto X 27 dX4_fill_63 (by decide) ?_
        exact V_sub [2, 3, 4, 0] rfl h
  · refine V_aload_n X dX4_fill_10 0 rfl rfl ?_
    refine G_4_0 X hk0 inX4 wFL_X4_9 dX4_fill_11 ?_
    refine V_iload X dX4_fill_14 4 rfl ?_
    refine V_iconst (v := (nI 0)) X dX4_fill_16 (by decide) ?_
    refine A_a16_st X (isTly_a hk0) h dX4_fill_17 (fun hb9 h => ?_)
    refine V_iinc (v := (z1.1 + (nI 1))) (L' := [(4, .int (z1.1 + (nI 1))), (0, .ref (q k0)), (1, .ref (q k1)), (2, .int a2), (3, .int a3)]) (j := 4) X dX4_fill_18 rfl rfl (by decide) rfl ?_
    refine V_goto X 3 dX4_fill_21 (by decide) ?_
    exact V_sub [1, 2, 3, 4, 0] rfl h
def rm_X4_symbolAtSorted : Room := { frames := 0, cells := 0, slots := 0, locals := 0 }
def f_X4_symbolAtSorted (F : Nat) (k0 : Nat) (a1 : Int32) (M : Mm) : Option (Int32) :=
  lpf (fun z1 : Int32 × Int32 => if (nI 16) ≤ z1.2 then (some (.inr (-1 : Int32))) else (if inb z1.2 16 = true then if (M (k0 + 1) (Int32.toNatClampNeg z1.2)) ≤ z1.1 then (if inb z1.2 16 = true then some (.inl ((z1.1 - (M (k0 + 1) (Int32.toNatClampNeg z1.2))), (z1.2 + (nI 1)))) else none) else (some (.inr z1.2)) else none)) F (a1, (nI 0))
set_option maxRecDepth 100000 in
set_option maxHeartbeats 4000000 in
theorem k_X4_symbolAtSorted (l : Launch) (D : va_G) (cy : Nat → ClassId) (q : Nat → Nat) (F : Nat) (k0 : Nat) (hk0 : isTly k0) (a1 : Int32) (M : Mm) (rv : Int32) (h0 : f_X4_symbolAtSorted F k0 a1 M = some rv) : KI l yX4_symbolAtSorted (Cond.code yX4_symbolAtSorted cX4_symbolAtSorted 4 (Option.some FieldType.int) :: gw) rm_X4_symbolAtSorted D cy q [.ref (q k0), .int a1] M rv M := by
  refine KI.mk (L0 := [(0, .ref (q k0)), (1, .int a1)]) (by decide +kernel) rfl (Nat.le_of_ble_eq_true rfl) rfl rfl rfl ?_
  intro p e s m below meth c X0 hr hlk
  have X := Fx.gw (own := RX4) X0
  clear X0
  have h : Ok (f_X4_symbolAtSorted F k0 a1 M) (fun r => r = rv) := Ok.of h0 rfl
  clear h0
  delta f_X4_symbolAtSorted at h
  refine V_iload_n X dX4_symbolAtSorted_0 1 rfl rfl ?_
  refine V_istore_n (L' := [(2, .int a1), (0, .ref (q k0)), (1, .int a1)]) X dX4_symbolAtSorted_1 rfl (by decide) rfl ?_
  refine V_iconst (v := (nI 0)) X dX4_symbolAtSorted_2 (by decide) ?_
  refine V_istore_n (L' := [(3, .int (nI 0)), (2, .int a1), (0, .ref (q k0)), (1, .int a1)]) X dX4_symbolAtSorted_3 rfl (by decide) rfl ?_
  refine V_sub (L' := [(0, .ref (q k0)), (2, .int a1), (3, .int (nI 0))]) [2, 1, 0] rfl ?_
  refine V_loop X h (fun z1 => M) (fun z1 => [(0, .ref (q k0)), (2, .int z1.1), (3, .int z1.2)]) rfl rfl (fun z1 h => ?_)
  refine V_iload_n X dX4_symbolAtSorted_4 2 rfl rfl ?_
  refine V_bipush (v := (nI 16)) X dX4_symbolAtSorted_5 (by decide) ?_
  refine B_icmp_ge X 37 dX4_symbolAtSorted_7 (by decide) h (fun h => ?_) (fun h => ?_)
  · refine V_iconst (v := (-1 : Int32)) X dX4_symbolAtSorted_37 (by decide) ?_
    have h : (-1 : Int32) = rv := h
    exact R_i X hr hlk h rfl dX4_symbolAtSorted_38
  · refine V_iload_n X dX4_symbolAtSorted_10 1 rfl rfl ?_
    refine V_aload_n X dX4_symbolAtSorted_11 0 rfl rfl ?_
    refine G_4_0 X hk0 inX4 wFL_X4_9 dX4_symbolAtSorted_12 ?_
    refine V_iload_n X dX4_symbolAtSorted_15 2 rfl rfl ?_
    refine A_a16_ld X (isTly_a hk0) h dX4_symbolAtSorted_16 (fun hb2 h => ?_)
    refine B_icmp_ge X 22 dX4_symbolAtSorted_17 (by decide) h (fun h => ?_) (fun h => ?_)
    · refine V_iload_n X dX4_symbolAtSorted_22 1 rfl rfl ?_
      refine V_aload_n X dX4_symbolAtSorted_23 0 rfl rfl ?_
      refine G_4_0 X hk0 inX4 wFL_X4_9 dX4_symbolAtSorted_24 ?_
      refine V_iload_n X dX4_symbolAtSorted_27 2 rfl rfl ?_
      refine A_a16_ld X (isTly_a hk0) h dX4_symbolAtSorted_28 (fun hb3 h => ?_)
      refine V_isub X dX4_symbolAtSorted_29 ?_
      refine V_istore_n (L' := [(2, .int (z1.1 - (M (k0 + 1) (Int32.toNatClampNeg z1.2)))), (0, .ref (q k0)), (3, .int z1.2)]) X dX4_symbolAtSorted_30 rfl (by decide) rfl ?_
      refine V_iinc (v := (z1.2 + (nI 1))) (L' := [(3, .int (z1.2 + (nI 1))), (2, .int (z1.1 - (M (k0 + 1) (Int32.toNatClampNeg z1.2)))), (0, .ref (q k0))]) (j := 2) X dX4_symbolAtSorted_31 rfl rfl (by decide) rfl ?_
      refine V_goto X 4 dX4_symbolAtSorted_34 (by decide) ?_
      exact V_sub [2, 1, 0] rfl h
    · refine V_iload_n X dX4_symbolAtSorted_20 2 rfl rfl ?_
      have h : z1.2 = rv := h
      exact R_i X hr hlk h rfl dX4_symbolAtSorted_21
def rm_X3_layOut : Room := { frames := 2, cells := 0, slots := 0, locals := 43 }
def f_X3_layOut (F : Nat) (k0 : Nat) (a1 : Int32) (a2 : Int32) (k1 : Nat) (M : Mm) : Option (Int32 × Mm) :=
  lpf (fun z1 : Int32 × Int32 × Mm => if a2 ≤ z1.2.1 then (some (.inr (z1.1, z1.2.2))) else ((f_X4_symbolAtSorted F k1 (z1.2.1 - a1) z1.2.2).bind fun r2 => (f_X3_at k0 z1.2.1 z1.2.2).bind fun r4 => if r2 = r4 then ((f_X3_replace k0 z1.2.1 r2 z1.2.2).bind fun r6 => some (.inl (z1.1, (z1.2.1 + (nI 1)), r6))) else ((f_X3_replace k0 z1.2.1 r2 z1.2.2).bind fun r8 => some (.inl ((z1.1 + (nI 1)), (z1.2.1 + (nI 1)), r8))))) F ((nI 0), a1, M)
set_option maxRecDepth 100000 in
set_option maxHeartbeats 4000000 in
theorem k_X3_layOut (l : Launch) (D : va_G) (cy : Nat → ClassId) (q : Nat → Nat) (F : Nat) (k0 : Nat) (hk0 : isRow k0) (a1 : Int32) (a2 : Int32) (k1 : Nat) (hk1 : isTly k1) (M : Mm) (rv : Int32) (M' : Mm) (h0 : f_X3_layOut F k0 a1 a2 k1 M = some (rv, M')) : KI l yX3_layOut (Cond.code yX3_layOut cX3_layOut 7 (Option.some FieldType.int) :: gw) rm_X3_layOut D cy q [.ref (q k0), .int a1, .int a2, .ref (q k1)] M rv M' := by
  refine KI.mk (L0 := [(0, .ref (q k0)), (1, .int a1), (2, .int a2), (3, .ref (q k1))]) (by decide +kernel) rfl (Nat.le_of_ble_eq_true rfl) rfl rfl rfl ?_
  intro p e s m below meth c X0 hr hlk
  have X := Fx.gw (own := RX3) X0
  clear X0
  have h : Ok (f_X3_layOut F k0 a1 a2 k1 M) (fun r => r = (rv, M')) := Ok.of h0 rfl
  clear h0
  delta f_X3_layOut at h
  refine V_iconst (v := (nI 0)) X dX3_layOut_0 (by decide) ?_
  refine V_istore (L' := [(4, .int (nI 0)), (0, .ref (q k0)), (1, .int a1), (2, .int a2), (3, .ref (q k1))]) X dX3_layOut_1 (by decide) rfl ?_
  refine V_iload_n X dX3_layOut_3 2 rfl rfl ?_
  refine V_istore (L' := [(5, .int a1), (4, .int (nI 0)), (0, .ref (q k0)), (1, .int a1), (2, .int a2), (3, .ref (q k1))]) X dX3_layOut_4 (by decide) rfl ?_
  refine V_sub (L' := [(0, .ref (q k0)), (1, .int a1), (2, .int a2), (3, .ref (q k1)), (4, .int (nI 0)), (5, .int a1)]) [2, 3, 4, 5, 1, 0] rfl ?_
  refine V_loop X h (fun z1 => z1.2.2) (fun z1 => [(0, .ref (q k0)), (1, .int a1), (2, .int a2), (3, .ref (q k1)), (4, .int z1.1), (5, .int z1.2.1)]) rfl rfl (fun z1 h => ?_)
  refine V_iload X dX3_layOut_6 5 rfl ?_
  refine V_iload_n X dX3_layOut_8 2 rfl rfl ?_
  refine B_icmp_ge X 50 dX3_layOut_9 (by decide) h (fun h => ?_) (fun h => ?_)
  · refine V_iload X dX3_layOut_50 4 rfl ?_
    have h : (z1.1, z1.2.2) = (rv, M') := h
    exact R_i X hr hlk (congrArg Prod.fst h) (congrArg Prod.snd h) dX3_layOut_52
  · refine V_aload_n X dX3_layOut_12 3 rfl rfl ?_
    refine V_iload X dX3_layOut_13 5 rfl ?_
    refine V_iload_n X dX3_layOut_15 1 rfl rfl ?_
    refine V_isub X dX3_layOut_16 ?_
    obtain ⟨r2, e3, h⟩ := (Ok.bind h).ex
    refine C_Vi (As := [.int (z1.2.1 - a1)]) (M' := z1.2.2) (k0 := k1) X (wd_tly hk1) rfl (cwV 1 X.1.2.2.2.2 (gw_V wML_X3_35 wIM_X4_symbolAtSorted wSE_X4_symbolAtSorted wIN_X4 (gw_c wCD_X4_symbolAtSorted)) rfl rfl rfl (by decide +kernel) ⟨Nat.le_of_ble_eq_true rfl, Nat.le_of_ble_eq_true rfl⟩) rfl rfl (Nat.le_of_ble_eq_true rfl) ⟨Nat.zero_le _, Nat.zero_le _⟩ (k_X4_symbolAtSorted l D cy q F k1 hk1 (z1.2.1 - a1) z1.2.2 r2 e3) dX3_layOut_17 ?_
    refine V_istore (L' := [(6, .int r2), (0, .ref (q k0)), (1, .int a1), (2, .int a2), (3, .ref (q k1)), (4, .int z1.1), (5, .int z1.2.1)]) X dX3_layOut_20 (by decide) rfl ?_
    refine V_iload X dX3_layOut_22 0 rfl ?_
    refine V_aload_n X dX3_layOut_24 1 rfl rfl ?_
    refine V_iload X dX3_layOut_25 6 rfl ?_
    obtain ⟨r4, e5, h⟩ := (Ok.bind h).ex
    refine C_Vi (As := [.int z1.2.1]) (M' := z1.2.2) (k0 := k0) X (wd_row hk0) rfl (cwV 1 X.1.2.2.2.2 (gw_V wML_X3_27 wIM_X3_at wSE_X3_at wIN_X3 (gw_c wCD_X3_at)) rfl rfl rfl (by decide +kernel) ⟨Nat.le_of_ble_eq_true rfl, Nat.le_of_ble_eq_true rfl⟩) rfl rfl (Nat.le_of_ble_eq_true rfl) ⟨Nat.zero_le _, Nat.zero_le _⟩ (k_X3_at l D cy q k0 hk0 z1.2.1 z1.2.2 r4 e5) dX3_layOut_27 ?_
    refine B_icmp_eq X 36 dX3_layOut_30 (by decide) h (fun h => ?_) (fun h => ?_)
    · refine V_aload_n X dX3_layOut_36 1 rfl rfl ?_
      refine V_iload X dX3_layOut_37 6 rfl ?_
      refine V_iload X dX3_layOut_39 0 rfl ?_
      obtain ⟨r6, e7, h⟩ := (Ok.bind h).ex
      refine C_Vv (As := [.int z1.2.1, .int r2]) (M' := r6) (k0 := k0) X (wd_row hk0) rfl (cwV 2 X.1.2.2.2.2 (gw_V wML_X3_40 wIM_X3_replace wSE_X3_replace wIN_X3 (gw_c wCD_X3_replace)) rfl rfl rfl (by decide +kernel) ⟨Nat.le_of_ble_eq_true rfl, Nat.le_of_ble_eq_true rfl⟩) rfl rfl (Nat.le_of_ble_eq_true rfl) ⟨Nat.zero_le _, Nat.zero_le _⟩ (k_X3_replace l D cy q k0 hk0 z1.2.1 r2 z1.2.2 r6 e7) dX3_layOut_41 ?_
      refine V_iinc (v := (z1.2.1 + (nI 1))) (L' := [(5, .int (z1.2.1 + (nI 1))), (6, .int r2), (0, .ref (q k0)), (1, .int a1), (2, .int a2), (3, .ref (q k1)), (4, .int z1.1)]) (j := 6) X dX3_layOut_44 rfl rfl (by decide) rfl ?_
      refine V_goto X 6 dX3_layOut_47 (by decide) ?_
      exact V_sub [2, 3, 4, 5, 6, 0] rfl h
    · refine V_iinc (v := (z1.1 + (nI 1))) (L' := [(4, .int (z1.1 + (nI 1))), (6, .int r2), (0, .ref (q k0)), (1, .int a1), (2, .int a2), (3, .ref (q k1)), (5, .int z1.2.1)]) (j := 5) X dX3_layOut_33 rfl rfl (by decide) rfl ?_
      refine V_aload_n X dX3_layOut_36 2 rfl rfl ?_
      refine V_iload X dX3_layOut_37 6 rfl ?_
      refine V_iload X dX3_layOut_39 1 rfl ?_
      obtain ⟨r8, e9, h⟩ := (Ok.bind h).ex
      refine C_Vv (As := [.int z1.2.1, .int r2]) (M' := r8) (k0 := k0) X (wd_row hk0) rfl (cwV 2 X.1.2.2.2.2 (gw_V wML_X3_40 wIM_X3_replace wSE_X3_replace wIN_X3 (gw_c wCD_X3_replace)) rfl rfl rfl (by decide +kernel) ⟨Nat.le_of_ble_eq_true rfl, Nat.le_of_ble_eq_true rfl⟩) rfl rfl (Nat.le_of_ble_eq_true rfl) ⟨Nat.zero_le _, Nat.zero_le _⟩ (k_X3_replace l D cy q k0 hk0 z1.2.1 r2 z1.2.2 r8 e9) dX3_layOut_41 ?_
      refine V_iinc (v := (z1.2.1 + (nI 1))) (L' := [(5, .int (z1.2.1 + (nI 1))), (4, .int (z1.1 + (nI 1))), (6, .int r2), (0, .ref (q k0)), (1, .int a1), (2, .int a2), (3, .ref (q k1))]) (j := 6) X dX3_layOut_44 rfl rfl (by decide) rfl ?_
      refine V_goto X 6 dX3_layOut_47 (by decide) ?_
      exact V_sub [3, 4, 5, 6, 1, 0] rfl h
def rm_X6_sort : Room := { frames := 3, cells := 0, slots := 0, locals := 69 }
def f_X6_sort (F : Nat) (a1 : Int32) (a2 : Int32) (M : Mm) : Option (Int32 × Mm) :=
  (f_X3_hasSpan 1 a1 a2 M).bind fun r1 => if r1 = 0 then (some ((-1000001 : Int32), M)) else ((f_X0_remember F 1 M).bind fun r3 => (f_X4_fill F 33 1 a1 a2 r3).bind fun r5 => (f_X3_layOut F 1 a1 a2 33 r5).bind fun r7 => some (r7.1, r7.2))
set_option maxRecDepth 100000 in
set_option maxHeartbeats 4000000 in
theorem k_X6_sort (l : Launch) (D : va_G) (cy : Nat → ClassId) (q : Nat → Nat) (F : Nat) (a1 : Int32) (a2 : Int32) (M : Mm) (rv : Int32) (M' : Mm) (h0 : f_X6_sort F a1 a2 M = some (rv, M')) : KI l yX6_sort (Cond.code yX6_sort cX6_sort 3 (Option.some FieldType.int) :: gw) rm_X6_sort D cy q [.ref (q 0), .int a1, .int a2] M rv M' := by
  refine KI.mk (L0 := [(0, .ref (q 0)), (1, .int a1), (2, .int a2)]) (by decide +kernel) rfl (Nat.le_of_ble_eq_true rfl) rfl rfl rfl ?_
  intro p e s m below meth c X0 hr hlk
  have X := Fx.gw (own := RX6) X0
  clear X0
  have h : Ok (f_X6_sort F a1 a2 M) (fun r => r = (rv, M')) := Ok.of h0 rfl
  clear h0
  delta f_X6_sort at h
  refine V_aload_n X dX6_sort_0 0 rfl rfl ?_
  refine G_6_0 X inX6 wFL_X6_10 dX6_sort_1 ?_
  refine V_iload_n X dX6_sort_4 1 rfl rfl ?_
  refine V_iload_n X dX6_sort_5 2 rfl rfl ?_
  obtain ⟨r1, e2, h⟩ := (Ok.bind h).ex
  refine C_Vi (As := [.int a1, .int a2]) (M' := M) (k0 := 1) X (wd_row row_1) rfl (cwV 2 X.1.2.2.2.2 (gw_V wML_X6_93 wIM_X3_hasSpan wSE_X3_hasSpan wIN_X3 (gw_c wCD_X3_hasSpan)) rfl rfl rfl (by decide +kernel) ⟨Nat.le_of_ble_eq_true rfl, Nat.le_of_ble_eq_true rfl⟩) rfl rfl (Nat.le_of_ble_eq_true rfl) ⟨Nat.zero_le _, Nat.zero_le _⟩ (k_X3_hasSpan l D cy q 1 row_1 a1 a2 M r1 e2) dX6_sort_6 ?_
  refine B_if_ne X 15 dX6_sort_9 (by decide) h (fun h => ?_) (fun h => ?_)
  · refine V_aload_n X dX6_sort_15 0 rfl rfl ?_
    refine G_6_1 X inX6 wFL_X6_19 dX6_sort_16 ?_
    refine V_aload_n X dX6_sort_19 0 rfl rfl ?_
    refine G_6_0 X inX6 wFL_X6_10 dX6_sort_20 ?_
    obtain ⟨r3, e4, h⟩ := (Ok.bind h).ex
    refine C_Vv (As := [.ref (q 1)]) (M' := r3) (k0 := 13) X rfl rfl (cwV 1 X.1.2.2.2.2 (gw_V wML_X6_68 wIM_X0_remember wSE_X0_remember wIN_X0 (gw_c wCD_X0_remember)) rfl rfl rfl (by decide +kernel) ⟨Nat.le_of_ble_eq_true rfl, Nat.le_of_ble_eq_true rfl⟩) rfl rfl (Nat.le_of_ble_eq_true rfl) ⟨Nat.zero_le _, Nat.zero_le _⟩ (k_X0_remember l D cy q F 1 row_1 M r3 e4) dX6_sort_23 ?_
    refine V_aload_n X dX6_sort_26 0 rfl rfl ?_
    refine G_6_3 X inX6 wFL_X6_33 dX6_sort_27 ?_
    refine V_aload_n X dX6_sort_30 0 rfl rfl ?_
    refine G_6_0 X inX6 wFL_X6_10 dX6_sort_31 ?_
    refine V_iload_n X dX6_sort_34 1 rfl rfl ?_
    refine V_iload_n X dX6_sort_35 2 rfl rfl ?_
    obtain ⟨r5, e6, h⟩ := (Ok.bind h).ex
    refine C_Vv (As := [.ref (q 1), .int a1, .int a2]) (M' := r5) (k0 := 33) X (wd_tly tly_33) rfl (cwV 3 X.1.2.2.2.2 (gw_V wML_X6_100 wIM_X4_fill wSE_X4_fill wIN_X4 (gw_c wCD_X4_fill)) rfl rfl rfl (by decide +kernel) ⟨Nat.le_of_ble_eq_true rfl, Nat.le_of_ble_eq_true rfl⟩) rfl rfl (Nat.le_of_ble_eq_true rfl) ⟨Nat.zero_le _, Nat.zero_le _⟩ (k_X4_fill l D cy q F 33 tly_33 1 row_1 a1 a2 r3 r5 e6) dX6_sort_36 ?_
    refine V_aload_n X dX6_sort_39 0 rfl rfl ?_
    refine G_6_0 X inX6 wFL_X6_10 dX6_sort_40 ?_
    refine V_iload_n X dX6_sort_43 1 rfl rfl ?_
    refine V_iload_n X dX6_sort_44 2 rfl rfl ?_
    refine V_aload_n X dX6_sort_45 0 rfl rfl ?_
    refine G_6_3 X inX6 wFL_X6_33 dX6_sort_46 ?_
    obtain ⟨r7, e8, h⟩ := (Ok.bind h).ex
    refine C_Vi (As := [.int a1, .int a2, .ref (q 33)]) (M' := r7.2) (k0 := 1) X (wd_row row_1) rfl (cwV 3 X.1.2.2.2.2 (gw_V wML_X6_104 wIM_X3_layOut wSE_X3_layOut wIN_X3 (gw_c wCD_X3_layOut)) rfl rfl rfl (by decide +kernel) ⟨Nat.le_of_ble_eq_true rfl, Nat.le_of_ble_eq_true rfl⟩) rfl rfl (Nat.le_of_ble_eq_true rfl) ⟨Nat.zero_le _, Nat.zero_le _⟩ (k_X3_layOut l D cy q F 1 row_1 a1 a2 33 tly_33 r5 r7.1 r7.2 e8) dX6_sort_49 ?_
    have h : (r7.1, r7.2) = (rv, M') := h
    exact R_i X hr hlk (congrArg Prod.fst h) (congrArg Prod.snd h) dX6_sort_52
  · refine V_ldc X wKI_X6_66 dX6_sort_12 ?_
    have h : ((-1000001 : Int32), M) = (rv, M') := h
    exact R_i X hr hlk (congrArg Prod.fst h) (congrArg Prod.snd h) dX6_sort_14
def rm_X6_hasBits : Room := { frames := 0, cells := 0, slots := 0, locals := 0 }
def f_X6_hasBits (a0 : Int32) : Option (Int32) :=
  if a0 < 0 then (some (nI 0)) else (if (nI 4) ≤ a0 then (some (nI 0)) else (some (nI 1)))
set_option maxRecDepth 100000 in
set_option maxHeartbeats 4000000 in
theorem k_X6_hasBits (l : Launch) (D : va_G) (cy : Nat → ClassId) (q : Nat → Nat) (a0 : Int32) (M : Mm) (rv : Int32) (h0 : f_X6_hasBits a0 = some rv) : KI l yX6_hasBits (Cond.code yX6_hasBits cX6_hasBits 1 (Option.some FieldType.boolean) :: gw) rm_X6_hasBits D cy q [.int a0] M rv M := by
  refine KI.mk (L0 := [(0, .int a0)]) (by decide +kernel) rfl (Nat.le_of_ble_eq_true rfl) rfl rfl rfl ?_
  intro p e s m below meth c X0 hr hlk
  have X := Fx.gw (own := RX6) X0
  clear X0
  have h : Ok (f_X6_hasBits a0) (fun r => r = rv) := Ok.of h0 rfl
  clear h0
  delta f_X6_hasBits at h
  refine V_iload_n X dX6_hasBits_0 0 rfl rfl ?_
  refine B_if_lt X 13 dX6_hasBits_1 (by decide) h (fun h => ?_) (fun h => ?_)
  · refine V_iconst (v := (nI 0)) X dX6_hasBits_13 (by decide) ?_
    have h : (nI 0) = rv := h
    exact R_z X hr hlk rfl h rfl dX6_hasBits_14
  · refine V_iload_n X dX6_hasBits_4 0 rfl rfl ?_
    refine V_iconst (v := (nI 4)) X dX6_hasBits_5 (by decide) ?_
    refine B_icmp_ge X 13 dX6_hasBits_6 (by decide) h (fun h => ?_) (fun h => ?_)
    · refine V_iconst (v := (nI 0)) X dX6_hasBits_13 (by decide) ?_
      have h : (nI 0) = rv := h
      exact R_z X hr hlk rfl h rfl dX6_hasBits_14
    · refine V_iconst (v := (nI 1)) X dX6_hasBits_9 (by decide) ?_
      refine V_goto X 14 dX6_hasBits_10 (by decide) ?_
      have h : (nI 1) = rv := h
      exact R_z X hr hlk rfl h rfl dX6_hasBits_14
def rm_X1_isOn : Room := { frames := 1, cells := 0, slots := 0, locals := 21 }
def f_X1_isOn (a1 : Int32) (a2 : Int32) (M : Mm) : Option (Int32) :=
  (f_X6_isAtMost a1 (nI 4)).bind fun r1 => if r1 = 0 then (some (nI 0)) else (if a2 < 0 then (some (nI 0)) else (if (M 15 3) ≤ a2 then (some (nI 0)) else (some (nI 1))))
set_option maxRecDepth 100000 in
set_option maxHeartbeats 4000000 in
theorem k_X1_isOn (l : Launch) (D : va_G) (cy : Nat → ClassId) (q : Nat → Nat) (a1 : Int32) (a2 : Int32) (M : Mm) (rv : Int32) (h0 : f_X1_isOn a1 a2 M = some rv) : KI l yX1_isOn (Cond.code yX1_isOn cX1_isOn 3 (Option.some FieldType.boolean) :: gw) rm_X1_isOn D cy q [.ref (q 15), .int a1, .int a2] M rv M := by
  refine KI.mk (L0 := [(0, .ref (q 15)), (1, .int a1), (2, .int a2)]) (by decide +kernel) rfl (Nat.le_of_ble_eq_true rfl) rfl rfl rfl ?_
  intro p e s m below meth c X0 hr hlk
  have X := Fx.gw (own := RX1) X0
  clear X0
  have h : Ok (f_X1_isOn a1 a2 M) (fun r => r = rv) := Ok.of h0 rfl
  clear h0
  delta f_X1_isOn at h
  refine V_iload_n X dX1_isOn_0 1 rfl rfl ?_
  refine V_iconst (v := (nI 4)) X dX1_isOn_1 (by decide) ?_
  obtain ⟨r1, e2, h⟩ := (Ok.bind h).ex
  refine C_Ni (As := [.int a1, .int (nI 4)]) (M' := M) X ⟨va_cnB 2 X.1.2.2.2.2 (gw_code wCD_X6_isAtMost) rfl rfl rfl X.2.1.2.2.2.2.1 (X.1.2.2.2.2 _ wIN_X6) (by decide +kernel) ⟨Nat.le_of_ble_eq_true rfl, Nat.le_of_ble_eq_true rfl⟩, X.1.2.2.2.2 _ wST_X6_isAtMost, trivial⟩ rfl rfl (Nat.le_of_ble_eq_true rfl) ⟨Nat.zero_le _, Nat.zero_le _⟩ (k_X6_isAtMost l D cy q a1 (nI 4) M r1 e2) dX1_isOn_2 ?_
  refine B_if_eq X 24 dX1_isOn_5 (by decide) h (fun h => ?_) (fun h => ?_)
  · refine V_iconst (v := (nI 0)) X dX1_isOn_24 (by decide) ?_
    have h : (nI 0) = rv := h
    exact R_z X hr hlk rfl h rfl dX1_isOn_25
  · refine V_iload_n X dX1_isOn_8 2 rfl rfl ?_
    refine B_if_lt X 24 dX1_isOn_9 (by decide) h (fun h => ?_) (fun h => ?_)
    · refine V_iconst (v := (nI 0)) X dX1_isOn_24 (by decide) ?_
      have h : (nI 0) = rv := h
      exact R_z X hr hlk rfl h rfl dX1_isOn_25
    · refine V_iload_n X dX1_isOn_12 2 rfl rfl ?_
      refine V_aload_n X dX1_isOn_13 0 rfl rfl ?_
      refine G_1_3 X inX1 wFL_X1_22 dX1_isOn_14 ?_
      refine B_icmp_ge X 24 dX1_isOn_17 (by decide) h (fun h => ?_) (fun h => ?_)
      · refine V_iconst (v := (nI 0)) X dX1_isOn_24 (by decide) ?_
        have h : (nI 0) = rv := h
        exact R_z X hr hlk rfl h rfl dX1_isOn_25
      · refine V_iconst (v := (nI 1)) X dX1_isOn_20 (by decide) ?_
        refine V_goto X 25 dX1_isOn_21 (by decide) ?_
        have h : (nI 1) = rv := h
        exact R_z X hr hlk rfl h rfl dX1_isOn_25
def rm_X1_bitOf : Room := { frames := 2, cells := 0, slots := 0, locals := 43 }
def f_X1_bitOf (a1 : Int32) (a2 : Int32) (M : Mm) : Option (Int32) :=
  (f_X6_hasBits a1).bind fun r1 => if r1 = 0 then (some (-1 : Int32)) else ((f_X1_isOn a1 a2 M).bind fun r3 => if r3 = 0 then (some (-1 : Int32)) else (if inb a1 5 = true then if inb a2 60 = true then some (((M (19 + (Int32.toNatClampNeg a1)) (Int32.toNatClampNeg a2)) >>> (((nI 3) - a1) &&& 31)) &&& (nI 1)) else none else none))
set_option maxRecDepth 100000 in
set_option maxHeartbeats 4000000 in
theorem k_X1_bitOf (l : Launch) (D : va_G) (cy : Nat → ClassId) (q : Nat → Nat) (a1 : Int32) (a2 : Int32) (M : Mm) (rv : Int32) (h0 : f_X1_bitOf a1 a2 M = some rv) : KI l yX1_bitOf (Cond.code yX1_bitOf cX1_bitOf 3 (Option.some FieldType.int) :: gw) rm_X1_bitOf D cy q [.ref (q 15), .int a1, .int a2] M rv M := by
  refine KI.mk (L0 := [(0, .ref (q 15)), (1, .int a1), (2, .int a2)]) (by decide +kernel) rfl (Nat.le_of_ble_eq_true rfl) rfl rfl rfl ?_
  intro p e s m below meth c X0 hr hlk
  have X := Fx.gw (own := RX1) X0
  clear X0
  have h : Ok (f_X1_bitOf a1 a2 M) (fun r => r = rv) := Ok.of h0 rfl
  clear h0
  delta f_X1_bitOf at h
  refine V_iload_n X dX1_bitOf_0 1 rfl rfl ?_
  obtain ⟨r1, e2, h⟩ := (Ok.bind h).ex
  refine C_Ni (As := [.int a1]) (M' := M) X ⟨va_cnB 1 X.1.2.2.2.2 (gw_code wCD_X6_hasBits) rfl rfl rfl X.2.1.2.2.2.1 (X.1.2.2.2.2 _ wIN_X6) (by decide +kernel) ⟨Nat.le_of_ble_eq_true rfl, Nat.le_of_ble_eq_true rfl⟩, X.1.2.2.2.2 _ wST_X6_hasBits, trivial⟩ rfl rfl (Nat.le_of_ble_eq_true rfl) ⟨Nat.zero_le _, Nat.zero_le _⟩ (k_X6_hasBits l D cy q a1 M r1 e2) dX1_bitOf_1 ?_
  refine B_if_eq X 33 dX1_bitOf_4 (by decide) h (fun h => ?_) (fun h => ?_)
  · refine V_iconst (v := (-1 : Int32)) X dX1_bitOf_33 (by decide) ?_
    have h : (-1 : Int32) = rv := h
    exact R_i X hr hlk h rfl dX1_bitOf_34
  · refine V_aload_n X dX1_bitOf_7 0 rfl rfl ?_
    refine V_iload_n X dX1_bitOf_8 1 rfl rfl ?_
    refine V_iload_n X dX1_bitOf_9 2 rfl rfl ?_
    obtain ⟨r3, e4, h⟩ := (Ok.bind h).ex
    refine C_Vi (As := [.int a1, .int a2]) (M' := M) (k0 := 15) X rfl rfl (cwV 2 X.1.2.2.2.2 (gw_V wML_X1_47 wIM_X1_isOn wSE_X1_isOn wIN_X1 (gw_c wCD_X1_isOn)) rfl rfl rfl (by decide +kernel) ⟨Nat.le_of_ble_eq_true rfl, Nat.le_of_ble_eq_true rfl⟩) rfl rfl (Nat.le_of_ble_eq_true rfl) ⟨Nat.zero_le _, Nat.zero_le _⟩ (k_X1_isOn l D cy q a1 a2 M r3 e4) dX1_bitOf_10 ?_
    refine B_if_eq X 33 dX1_bitOf_13 (by decide) h (fun h => ?_) (fun h => ?_)
    · refine V_iconst (v := (-1 : Int32)) X dX1_bitOf_33 (by decide) ?_
      have h : (-1 : Int32) = rv := h
      exact R_i X hr hlk h rfl dX1_bitOf_34
    · refine V_aload_n X dX1_bitOf_16 0 rfl rfl ?_
      refine G_1_0 X inX1 wFL_X1_11 dX1_bitOf_17 ?_
      refine V_iload_n X dX1_bitOf_20 1 rfl rfl ?_
      refine A_r16_ld X h dX1_bitOf_21 (fun hb5 h => ?_)
      refine V_iload_n X dX1_bitOf_22 2 rfl rfl ?_
      refine A_a60_ld X (isA60_19 hb5) h dX1_bitOf_23 (fun hb6 h => ?_)
      refine V_iconst (v := (nI 3)) X dX1_bitOf_24 (by decide) ?_
      refine V_iload_n X dX1_bitOf_25 1 rfl rfl ?_
      refine V_isub X dX1_bitOf_26 ?_
      refine V_ishr X dX1_bitOf_27 ?_
      refine V_iconst (v := (nI 1)) X dX1_bitOf_28 (by decide) ?_
      refine V_iand X dX1_bitOf_29 ?_
      refine V_goto X 34 dX1_bitOf_30 (by decide) ?_
      have h : (((M (19 + (Int32.toNatClampNeg a1)) (Int32.toNatClampNeg a2)) >>> (((nI 3) - a1) &&& 31)) &&& (nI 1)) = rv := h
      exact R_i X hr hlk h rfl dX1_bitOf_34
def rm_X1_moveBits : Room := { frames := 3, cells := 0, slots := 0, locals := 65 }
def f_X1_moveBits (F : Nat) (a1 : Int32) (a2 : Int32) (a3 : Int32) (M : Mm) : Option (Int32 × Mm) :=
  lpf (fun z1 : Int32 × Int32 × Mm => if (z1.2.2 15 3) ≤ z1.2.1 then (some (.inr (z1.1, z1.2.2))) else ((f_X1_bitOf a1 z1.2.1 z1.2.2).bind fun r2 => if r2 = a2 then (if (z1.2.2 15 3) ≤ z1.1 then (some (.inl (z1.1, (z1.2.1 + (nI 1)), z1.2.2))) else (if inb a1 4 = true then if inb z1.2.1 60 = true then if inb (a1 + (nI 1)) 5 = true then if inb a1 5 = true then if inb z1.2.1 60 = true then if inb z1.1 60 = true then if inb (a1 + (nI 1)) 5 = true then if inb a1 5 = true then if inb z1.2.1 60 = true then if inb z1.1 60 = true then some (.inl ((z1.1 + (nI 1)), (z1.2.1 + (nI 1)), (up (up (up z1.2.2 (29 + (Int32.toNatClampNeg a1)) (Int32.toNatClampNeg z1.2.1) z1.1) (19 + (Int32.toNatClampNeg (a1 + (nI 1)))) (Int32.toNatClampNeg z1.1) ((up z1.2.2 (29 + (Int32.toNatClampNeg a1)) (Int32.toNatClampNeg z1.2.1) z1.1) (19 + (Int32.toNatClampNeg a1)) (Int32.toNatClampNeg z1.2.1))) (24 + (Int32.toNatClampNeg (a1 + (nI 1)))) (Int32.toNatClampNeg z1.1) ((up (up z1.2.2 (29 + (Int32.toNatClampNeg a1)) (Int32.toNatClampNeg z1.2.1) z1.1) (19 + (Int32.toNatClampNeg (a1 + (nI 1)))) (Int32.toNatClampNeg z1.1) ((up z1.2.2 (29 + (Int32.toNatClampNeg a1)) (Int32.toNatClampNeg z1.2.1) z1.1) (19 + (Int32.toNatClampNeg a1)) (Int32.toNatClampNeg z1.2.1))) (24 + (Int32.toNatClampNeg a1)) (Int32.toNatClampNeg z1.2.1))))) else none else none else none else none else none else none else none else none else none else none)) else (some (.inl (z1.1, (z1.2.1 + (nI 1)), z1.2.2))))) F (a3, (nI 0), M)
set_option maxRecDepth 100000 in
set_option maxHeartbeats 4000000 in
theorem k_X1_moveBits (l : Launch) (D : va_G) (cy : Nat → ClassId) (q : Nat → Nat) (F : Nat) (a1 : Int32) (a2 : Int32) (a3 : Int32) (M : Mm) (rv : Int32) (M' : Mm) (h0 : f_X1_moveBits F a1 a2 a3 M = some (rv, M')) : KI l yX1_moveBits (Cond.code yX1_moveBits cX1_moveBits 6 (Option.some FieldType.int) :: gw) rm_X1_moveBits D cy q [.ref (q 15), .int a1, .int a2, .int a3] M rv M' := by
  refine KI.mk (L0 := [(0, .ref (q 15)), (1, .int a1), (2, .int a2), (3, .int a3)]) (by decide +kernel) rfl (Nat.le_of_ble_eq_true rfl) rfl rfl rfl ?_
  intro p e s m below meth c X0 hr hlk
  have X := Fx.gw (own := RX1) X0
  clear X0
  have h : Ok (f_X1_moveBits F a1 a2 a3 M) (fun r => r = (rv, M')) := Ok.of h0 rfl
  clear h0
  delta f_X1_moveBits at h
  refine V_iload_n X dX1_moveBits_0 3 rfl rfl ?_
  refine V_istore (L' := [(4, .int a3), (0, .ref (q 15)), (1, .int a1), (2, .int a2), (3, .int a3)]) X dX1_moveBits_1 (by decide) rfl ?_
  refine V_iconst (v := (nI 0)) X dX1_moveBits_3 (by decide) ?_
  refine V_istore (L' := [(5, .int (nI 0)), (4, .int a3), (0, .ref (q 15)), (1, .int a1), (2, .int a2), (3, .int a3)]) X dX1_moveBits_4 (by decide) rfl ?_
  refine V_sub (L' := [(0, .ref (q 15)), (1, .int a1), (2, .int a2), (4, .int a3), (5, .int (nI 0))]) [2, 3, 4, 1, 0] rfl ?_
  refine V_loop X h (fun z1 => z1.2.2) (fun z1 => [(0, .ref (q 15)), (1, .int a1), (2, .int a2), (4, .int z1.1), (5, .int z1.2.1)]) rfl rfl (fun z1 h => ?_)
  refine V_iload X dX1_moveBits_6 4 rfl ?_
  refine V_aload_n X dX1_moveBits_8 0 rfl rfl ?_
  refine G_1_3 X inX1 wFL_X1_22 dX1_moveBits_9 ?_
  refine B_icmp_ge X 95 dX1_moveBits_12 (by decide) h (fun h => ?_) (fun h => ?_)
  · refine V_iload X dX1_moveBits_95 3 rfl ?_
    have h : (z1.1, z1.2.2) = (rv, M') := h
    exact R_i X hr hlk (congrArg Prod.fst h) (congrArg Prod.snd h) dX1_moveBits_97
  · refine V_aload_n X dX1_moveBits_15 0 rfl rfl ?_
    refine V_iload_n X dX1_moveBits_16 1 rfl rfl ?_
    refine V_iload X dX1_moveBits_17 4 rfl ?_
    obtain ⟨r2, e3, h⟩ := (Ok.bind h).ex
    refine C_Vi (As := [.int a1, .int z1.2.1]) (M' := z1.2.2) (k0 := 15) X rfl rfl (cwV 2 X.1.2.2.2.2 (gw_V wML_X1_39 wIM_X1_bitOf wSE_X1_bitOf wIN_X1 (gw_c wCD_X1_bitOf)) rfl rfl rfl (by decide +kernel) ⟨Nat.le_of_ble_eq_true rfl, Nat.le_of_ble_eq_true rfl⟩) rfl rfl (Nat.le_of_ble_eq_true rfl) ⟨Nat.zero_le _, Nat.zero_le _⟩ (k_X1_bitOf l D cy q a1 z1.2.1 z1.2.2 r2 e3) dX1_moveBits_19 ?_
    refine V_iload_n X dX1_moveBits_22 2 rfl rfl ?_
    refine B_icmp_ne X 89 dX1_moveBits_23 (by decide) h (fun h => ?_) (fun h => ?_)
    · refine V_iinc (v := (z1.2.1 + (nI 1))) (L' := [(5, .int (z1.2.1 + (nI 1))), (0, .ref (q 15)), (1, .int a1), (2, .int a2), (4, .int z1.1)]) (j := 4) X dX1_moveBits_89 rfl rfl (by decide) rfl ?_
      refine V_goto X 6 dX1_moveBits_92 (by decide) ?_
      exact V_sub [1, 2, 3, 4, 0] rfl h
    · refine V_iload X dX1_moveBits_26 3 rfl ?_
      refine V_aload_n X dX1_moveBits_28 0 rfl rfl ?_
      refine G_1_3 X inX1 wFL_X1_22 dX1_moveBits_29 ?_
      refine B_icmp_ge X 89 dX1_moveBits_32 (by decide) h (fun h => ?_) (fun h => ?_)
      · refine V_iinc (v := (z1.2.1 + (nI 1))) (L' := [(5, .int (z1.2.1 + (nI 1))), (0, .ref (q 15)), (1, .int a1), (2, .int a2), (4, .int z1.1)]) (j := 4) X dX1_moveBits_89 rfl rfl (by decide) rfl ?_
        refine V_goto X 6 dX1_moveBits_92 (by decide) ?_
        exact V_sub [1, 2, 3, 4, 0] rfl h
      · refine V_aload_n X dX1_moveBits_35 0 rfl rfl ?_
        refine G_1_2 X inX1 wFL_X1_19 dX1_moveBits_36 ?_
        refine V_iload_n X dX1_moveBits_39 1 rfl rfl ?_
        refine A_r18_ld X h dX1_moveBits_40 (fun hb4 h => ?_)
        refine V_iload X dX1_moveBits_41 4 rfl ?_
        refine V_iload X dX1_moveBits_43 3 rfl ?_
        refine A_a60_st X (isA60_29 hb4) h dX1_moveBits_45 (fun hb5 h => ?_)
        refine V_aload_n X dX1_moveBits_46 0 rfl rfl ?_
        refine G_1_0 X inX1 wFL_X1_11 dX1_moveBits_47 ?_
        refine V_iload_n X dX1_moveBits_50 1 rfl rfl ?_
        refine V_iconst (v := (nI 1)) X dX1_moveBits_51 (by decide) ?_
        refine V_iadd X dX1_moveBits_52 ?_
        refine A_r16_ld X h dX1_moveBits_53 (fun hb6 h => ?_)
        refine V_iload X dX1_moveBits_54 3 rfl ?_
        refine V_aload_n X dX1_moveBits_56 0 rfl rfl ?_
        refine G_1_0 X inX1 wFL_X1_11 dX1_moveBits_57 ?_
        refine V_iload_n X dX1_moveBits_60 1 rfl rfl ?_
        refine A_r16_ld X h dX1_moveBits_61 (fun hb7 h => ?_)
        refine V_iload X dX1_moveBits_62 4 rfl ?_
        refine A_a60_ld X (isA60_19 hb7) h dX1_moveBits_64 (fun hb8 h => ?_)
        refine A_a60_st X (isA60_19 hb6) h dX1_moveBits_65 (fun hb9 h => ?_)
        refine V_aload_n X dX1_moveBits_66 0 rfl rfl ?_
        refine G_1_1 X inX1 wFL_X1_16 dX1_moveBits_67 ?_
        refine V_iload_n X dX1_moveBits_70 1 rfl rfl ?_
        refine V_iconst (v := (nI 1)) X dX1_moveBits_71 (by decide) ?_
        refine V_iadd X dX1_moveBits_72 ?_
        refine A_r17_ld X h dX1_moveBits_73 (fun hb10 h => ?_)
        refine V_iload X dX1_moveBits_74 3 rfl ?_
        refine V_aload_n X dX1_moveBits_76 0 rfl rfl ?_
        refine G_1_1 X inX1 wFL_X1_16 dX1_moveBits_77 ?_
        refine V_iload_n X dX1_moveBits_80 1 rfl rfl ?_
        refine A_r17_ld X h dX1_moveBits_81 (fun hb11 h => ?_)
        refine V_iload X dX1_moveBits_82 4 rfl ?_
        refine A_a60_ld X (isA60_24 hb11) h dX1_moveBits_84 (fun hb12 h => ?_)
        refine A_a60_st X (isA60_24 hb10) h dX1_moveBits_85 (fun hb13 h => ?_)
        refine V_iinc (v := (z1.1 + (nI 1))) (L' := [(4, .int (z1.1 + (nI 1))), (0, .ref (q 15)), (1, .int a1), (2, .int a2), (5, .int z1.2.1)]) (j := 3) X dX1_moveBits_86 rfl rfl (by decide) rfl ?_
        refine V_iinc (v := (z1.2.1 + (nI 1))) (L' := [(5, .int (z1.2.1 + (nI 1))), (4, .int (z1.1 + (nI 1))), (0, .ref (q 15)), (1, .int a1), (2, .int a2)]) (j := 4) X dX1_moveBits_89 rfl rfl (by decide) rfl ?_
        refine V_goto X 6 dX1_moveBits_92 (by decide) ?_
        exact V_sub [2, 3, 4, 1, 0] rfl h
def rm_X1_build : Room := { frames := 4, cells := 0, slots := 0, locals := 90 }
def f_X1_build (F : Nat) (k0 : Nat) (M : Mm) : Option (Mm) :=
  (f_X3_size k0 M).bind fun r1 => lpf (fun z3 : Int32 × Mm => if (z3.2 15 3) ≤ z3.1 then (lpf (fun z4 : Int32 × Mm => if (nI 4) ≤ z4.1 then (some (.inr (.inr z4.2))) else ((f_X1_moveBits F z4.1 (nI 0) (nI 0) z4.2).bind fun r5 => (f_X1_moveBits F z4.1 (nI 1) r5.1 r5.2).bind fun r7 => some (.inl ((z4.1 + (nI 1)), r7.2)))) F ((nI 0), z3.2)) else (if inb (nI 0) 5 = true then (f_X3_at k0 z3.1 z3.2).bind fun r10 => if inb z3.1 60 = true then if inb (nI 0) 5 = true then if inb z3.1 60 = true then some (.inl ((z3.1 + (nI 1)), (up (up z3.2 (19 + (Int32.toNatClampNeg (nI 0))) (Int32.toNatClampNeg z3.1) r10) (24 + (Int32.toNatClampNeg (nI 0))) (Int32.toNatClampNeg z3.1) z3.1))) else none else none else none else none)) F ((nI 0), (up M 15 3 r1))
set_option maxRecDepth 100000 in
set_option maxHeartbeats 4000000 in
theorem k_X1_build (l : Launch) (D : va_G) (cy : Nat → ClassId) (q : Nat → Nat) (F : Nat) (k0 : Nat) (hk0 : isRow k0) (M : Mm) (M' : Mm) (h0 : f_X1_build F k0 M = some M') : KV l yX1_build (Cond.code yX1_build cX1_build 4 none :: gw) rm_X1_build D cy q [.ref (q 15), .ref (q k0)] M M' := by
  refine KV.mk (L0 := [(0, .ref (q 15)), (1, .ref (q k0))]) (by decide +kernel) rfl (Nat.le_of_ble_eq_true rfl) rfl rfl rfl ?_
  intro p e s m below meth c X0 hr hlk
  have X := Fx.gw (own := RX1) X0
  clear X0
  have h : Ok (f_X1_build F k0 M) (fun r => r = M') := Ok.of h0 rfl
  clear h0
  delta f_X1_build at h
  refine V_aload_n X dX1_build_0 0 rfl rfl ?_
  refine V_aload_n X dX1_build_1 1 rfl rfl ?_
  obtain ⟨r1, e2, h⟩ := (Ok.bind h).ex
  refine C_Vi (As := []) (M' := M) (k0 := k0) X (wd_row hk0) rfl (cwV 0 X.1.2.2.2.2 (gw_V wML_X1_26 wIM_X3_size wSE_X3_size wIN_X3 (gw_c wCD_X3_size)) rfl rfl rfl (by decide +kernel) ⟨Nat.le_of_ble_eq_true rfl, Nat.le_of_ble_eq_true rfl⟩) rfl rfl (Nat.le_of_ble_eq_true rfl) ⟨Nat.zero_le _, Nat.zero_le _⟩ (k_X3_size l D cy q k0 hk0 M r1 e2) dX1_build_2 ?_
  refine P_1_3 X inX1 wFL_X1_22 dX1_build_5 ?_
  refine V_iconst (v := (nI 0)) X dX1_build_8 (by decide) ?_
  refine V_istore_n (L' := [(2, .int (nI 0)), (0, .ref (q 15)), (1, .ref (q k0))]) X dX1_build_9 rfl (by decide) rfl ?_
  refine V_sub (L' := [(0, .ref (q 15)), (1, .ref (q k0)), (2, .int (nI 0))]) [1, 2, 0] rfl ?_
  refine V_loop X h (fun z3 => z3.2) (fun z3 => [(0, .ref (q 15)), (1, .ref (q k0)), (2, .int z3.1)]) rfl rfl (fun z3 h => ?_)
  refine V_iload_n X dX1_build_10 2 rfl rfl ?_
  refine V_aload_n X dX1_build_11 0 rfl rfl ?_
  refine G_1_3 X inX1 wFL_X1_22 dX1_build_12 ?_
  refine B_icmp_ge X 46 dX1_build_15 (by decide) h (fun h => ?_) (fun h => ?_)
  · refine V_iconst (v := (nI 0)) X dX1_build_46 (by decide) ?_
    refine V_istore_n (L' := [(2, .int (nI 0)), (0, .ref (q 15)), (1, .ref (q k0))]) X dX1_build_47 rfl (by decide) rfl ?_
    refine V_sub (L' := [(0, .ref (q 15)), (2, .int (nI 0))]) [1, 0] rfl ?_
    refine V_loop X h (fun z4 => z4.2) (fun z4 => [(0, .ref (q 15)), (2, .int z4.1)]) rfl rfl (fun z4 h => ?_)
    refine V_iload_n X dX1_build_48 1 rfl rfl ?_
    refine V_iconst (v := (nI 4)) X dX1_build_49 (by decide) ?_
    refine B_icmp_ge X 75 dX1_build_50 (by decide) h (fun h => ?_) (fun h => ?_)
    · have h : z4.2 = M' := h
      exact R_v X hr hlk h dX1_build_75
    · refine V_aload_n X dX1_build_53 0 rfl rfl ?_
      refine V_iload_n X dX1_build_54 1 rfl rfl ?_
      refine V_iconst (v := (nI 0)) X dX1_build_55 (by decide) ?_
      refine V_iconst (v := (nI 0)) X dX1_build_56 (by decide) ?_
      obtain ⟨r5, e6, h⟩ := (Ok.bind h).ex
      refine C_Vi (As := [.int z4.1, .int (nI 0), .int (nI 0)]) (M' := r5.2) (k0 := 15) X rfl rfl (cwV 3 X.1.2.2.2.2 (gw_V wML_X1_35 wIM_X1_moveBits wSE_X1_moveBits wIN_X1 (gw_c wCD_X1_moveBits)) rfl rfl rfl (by decide +kernel) ⟨Nat.le_of_ble_eq_true rfl, Nat.le_of_ble_eq_true rfl⟩) rfl rfl (Nat.le_of_ble_eq_true rfl) ⟨Nat.zero_le _, Nat.zero_le _⟩ (k_X1_moveBits l D cy q F z4.1 (nI 0) (nI 0) z4.2 r5.1 r5.2 e6) dX1_build_57 ?_
      refine V_istore_n (L' := [(3, .int r5.1), (0, .ref (q 15)), (2, .int z4.1)]) X dX1_build_60 rfl (by decide) rfl ?_
      refine V_aload_n X dX1_build_61 1 rfl rfl ?_
      refine V_iload_n X dX1_build_62 2 rfl rfl ?_
      refine V_iconst (v := (nI 1)) X dX1_build_63 (by decide) ?_
      refine V_iload_n X dX1_build_64 0 rfl rfl ?_
      obtain ⟨r7, e8, h⟩ := (Ok.bind h).ex
      refine C_Vi (As := [.int z4.1, .int (nI 1), .int r5.1]) (M' := r7.2) (k0 := 15) X rfl rfl (cwV 3 X.1.2.2.2.2 (gw_V wML_X1_35 wIM_X1_moveBits wSE_X1_moveBits wIN_X1 (gw_c wCD_X1_moveBits)) rfl rfl rfl (by decide +kernel) ⟨Nat.le_of_ble_eq_true rfl, Nat.le_of_ble_eq_true rfl⟩) rfl rfl (Nat.le_of_ble_eq_true rfl) ⟨Nat.zero_le _, Nat.zero_le _⟩ (k_X1_moveBits l D cy q F z4.1 (nI 1) r5.1 r5.2 r7.1 r7.2 e8) dX1_build_65 ?_
      refine V_pop X dX1_build_68 rfl ?_
      refine V_iinc (v := (z4.1 + (nI 1))) (L' := [(2, .int (z4.1 + (nI 1))), (3, .int r5.1), (0, .ref (q 15))]) (j := 2) X dX1_build_69 rfl rfl (by decide) rfl ?_
      refine V_goto X 48 dX1_build_72 (by decide) ?_
      exact V_sub [2, 0] rfl h
  · refine V_aload_n X dX1_build_18 0 rfl rfl ?_
    refine G_1_0 X inX1 wFL_X1_11 dX1_build_19 ?_
    refine V_iconst (v := (nI 0)) X dX1_build_22 (by decide) ?_
    refine A_r16_ld X h dX1_build_23 (fun hb9 h => ?_)
    refine V_iload_n X dX1_build_24 2 rfl rfl ?_
    refine V_aload_n X dX1_build_25 1 rfl rfl ?_
    refine V_iload_n X dX1_build_26 2 rfl rfl ?_
    obtain ⟨r10, e11, h⟩ := (Ok.bind h).ex
    refine C_Vi (As := [.int z3.1]) (M' := z3.2) (k0 := k0) X (wd_row hk0) rfl (cwV 1 X.1.2.2.2.2 (gw_V wML_X1_31 wIM_X3_at wSE_X3_at wIN_X3 (gw_c wCD_X3_at)) rfl rfl rfl (by decide +kernel) ⟨Nat.le_of_ble_eq_true rfl, Nat.le_of_ble_eq_true rfl⟩) rfl rfl (Nat.le_of_ble_eq_true rfl) ⟨Nat.zero_le _, Nat.zero_le _⟩ (k_X3_at l D cy q k0 hk0 z3.1 z3.2 r10 e11) dX1_build_27 ?_
    refine A_a60_st X (isA60_19 hb9) h dX1_build_30 (fun hb12 h => ?_)
    refine V_aload_n X dX1_build_31 0 rfl rfl ?_
    refine G_1_1 X inX1 wFL_X1_16 dX1_build_32 ?_
    refine V_iconst (v := (nI 0)) X dX1_build_35 (by decide) ?_
    refine A_r17_ld X h dX1_build_36 (fun hb13 h => ?_)
    refine V_iload_n X dX1_build_37 2 rfl rfl ?_
    refine V_iload_n X dX1_build_38 2 rfl rfl ?_
    refine A_a60_st X (isA60_24 hb13) h dX1_build_39 (fun hb14 h => ?_)
    refine V_iinc (v := (z3.1 + (nI 1))) (L' := [(2, .int (z3.1 + (nI 1))), (0, .ref (q 15)), (1, .ref (q k0))]) (j := 2) X dX1_build_40 rfl rfl (by decide) rfl ?_
    refine V_goto X 10 dX1_build_43 (by decide) ?_
    exact V_sub [1, 2, 0] rfl h
def rm_X1_symbolOf : Room := { frames := 2, cells := 0, slots := 0, locals := 43 }
def f_X1_symbolOf (a1 : Int32) (a2 : Int32) (M : Mm) : Option (Int32) :=
  (f_X1_isOn a1 a2 M).bind fun r1 => if r1 = 0 then (some (-1 : Int32)) else (if inb a1 5 = true then if inb a2 60 = true then some (M (19 + (Int32.toNatClampNeg a1)) (Int32.toNatClampNeg a2)) else none else none)
set_option maxRecDepth 100000 in
set_option maxHeartbeats 4000000 in
theorem k_X1_symbolOf (l : Launch) (D : va_G) (cy : Nat → ClassId) (q : Nat → Nat) (a1 : Int32) (a2 : Int32) (M : Mm) (rv : Int32) (h0 : f_X1_symbolOf a1 a2 M = some rv) : KI l yX1_symbolOf (Cond.code yX1_symbolOf cX1_symbolOf 3 (Option.some FieldType.int) :: gw) rm_X1_symbolOf D cy q [.ref (q 15), .int a1, .int a2] M rv M := by
  refine KI.mk (L0 := [(0, .ref (q 15)), (1, .int a1), (2, .int a2)]) (by decide +kernel) rfl (Nat.le_of_ble_eq_true rfl) rfl rfl rfl ?_
  intro p e s m below meth c X0 hr hlk
  have X := Fx.gw (own := RX1) X0
  clear X0
  have h : Ok (f_X1_symbolOf a1 a2 M) (fun r => r = rv) := Ok.of h0 rfl
  clear h0
  delta f_X1_symbolOf at h
  refine V_aload_n X dX1_symbolOf_0 0 rfl rfl ?_
  refine V_iload_n X dX1_symbolOf_1 1 rfl rfl ?_
  refine V_iload_n X dX1_symbolOf_2 2 rfl rfl ?_
  obtain ⟨r1, e2, h⟩ := (Ok.bind h).ex
  refine C_Vi (As := [.int a1, .int a2]) (M' := M) (k0 := 15) X rfl rfl (cwV 2 X.1.2.2.2.2 (gw_V wML_X1_47 wIM_X1_isOn wSE_X1_isOn wIN_X1 (gw_c wCD_X1_isOn)) rfl rfl rfl (by decide +kernel) ⟨Nat.le_of_ble_eq_true rfl, Nat.le_of_ble_eq_true rfl⟩) rfl rfl (Nat.le_of_ble_eq_true rfl) ⟨Nat.zero_le _, Nat.zero_le _⟩ (k_X1_isOn l D cy q a1 a2 M r1 e2) dX1_symbolOf_3 ?_
  refine B_if_eq X 20 dX1_symbolOf_6 (by decide) h (fun h => ?_) (fun h => ?_)
  · refine V_iconst (v := (-1 : Int32)) X dX1_symbolOf_20 (by decide) ?_
    have h : (-1 : Int32) = rv := h
    exact R_i X hr hlk h rfl dX1_symbolOf_21
  · refine V_aload_n X dX1_symbolOf_9 0 rfl rfl ?_
    refine G_1_0 X inX1 wFL_X1_11 dX1_symbolOf_10 ?_
    refine V_iload_n X dX1_symbolOf_13 1 rfl rfl ?_
    refine A_r16_ld X h dX1_symbolOf_14 (fun hb3 h => ?_)
    refine V_iload_n X dX1_symbolOf_15 2 rfl rfl ?_
    refine A_a60_ld X (isA60_19 hb3) h dX1_symbolOf_16 (fun hb4 h => ?_)
    refine V_goto X 21 dX1_symbolOf_17 (by decide) ?_
    have h : (M (19 + (Int32.toNatClampNeg a1)) (Int32.toNatClampNeg a2)) = rv := h
    exact R_i X hr hlk h rfl dX1_symbolOf_21
def rm_X1_goalOf : Room := { frames := 2, cells := 0, slots := 0, locals := 43 }
def f_X1_goalOf (a1 : Int32) (a2 : Int32) (M : Mm) : Option (Int32) :=
  (f_X6_hasBits a1).bind fun r1 => if r1 = 0 then (some (-1 : Int32)) else ((f_X1_isOn a1 a2 M).bind fun r3 => if r3 = 0 then (some (-1 : Int32)) else (if inb a1 4 = true then if inb a2 60 = true then some (M (29 + (Int32.toNatClampNeg a1)) (Int32.toNatClampNeg a2)) else none else none))
set_option maxRecDepth 100000 in
set_option maxHeartbeats 4000000 in
theorem k_X1_goalOf (l : Launch) (D : va_G) (cy : Nat → ClassId) (q : Nat → Nat) (a1 : Int32) (a2 : Int32) (M : Mm) (rv : Int32) (h0 : f_X1_goalOf a1 a2 M = some rv) : KI l yX1_goalOf (Cond.code yX1_goalOf cX1_goalOf 3 (Option.some FieldType.int) :: gw) rm_X1_goalOf D cy q [.ref (q 15), .int a1, .int a2] M rv M := by
  refine KI.mk (L0 := [(0, .ref (q 15)), (1, .int a1), (2, .int a2)]) (by decide +kernel) rfl (Nat.le_of_ble_eq_true rfl) rfl rfl rfl ?_
  intro p e s m below meth c X0 hr hlk
  have X := Fx.gw (own := RX1) X0
  clear X0
  have h : Ok (f_X1_goalOf a1 a2 M) (fun r => r = rv) := Ok.of h0 rfl
  clear h0
  delta f_X1_goalOf at h
  refine V_iload_n X dX1_goalOf_0 1 rfl rfl ?_
  obtain ⟨r1, e2, h⟩ := (Ok.bind h).ex
  refine C_Ni (As := [.int a1]) (M' := M) X ⟨va_cnB 1 X.1.2.2.2.2 (gw_code wCD_X6_hasBits) rfl rfl rfl X.2.1.2.2.2.1 (X.1.2.2.2.2 _ wIN_X6) (by decide +kernel) ⟨Nat.le_of_ble_eq_true rfl, Nat.le_of_ble_eq_true rfl⟩, X.1.2.2.2.2 _ wST_X6_hasBits, trivial⟩ rfl rfl (Nat.le_of_ble_eq_true rfl) ⟨Nat.zero_le _, Nat.zero_le _⟩ (k_X6_hasBits l D cy q a1 M r1 e2) dX1_goalOf_1 ?_
  refine B_if_eq X 27 dX1_goalOf_4 (by decide) h (fun h => ?_) (fun h => ?_)
  · refine V_iconst (v := (-1 : Int32)) X dX1_goalOf_27 (by decide) ?_
    have h : (-1 : Int32) = rv := h
    exact R_i X hr hlk h rfl dX1_goalOf_28
  · refine V_aload_n X dX1_goalOf_7 0 rfl rfl ?_
    refine V_iload_n X dX1_goalOf_8 1 rfl rfl ?_
    refine V_iload_n X dX1_goalOf_9 2 rfl rfl ?_
    obtain ⟨r3, e4, h⟩ := (Ok.bind h).ex
    refine C_Vi (As := [.int a1, .int a2]) (M' := M) (k0 := 15) X rfl rfl (cwV 2 X.1.2.2.2.2 (gw_V wML_X1_47 wIM_X1_isOn wSE_X1_isOn wIN_X1 (gw_c wCD_X1_isOn)) rfl rfl rfl (by decide +kernel) ⟨Nat.le_of_ble_eq_true rfl, Nat.le_of_ble_eq_true rfl⟩) rfl rfl (Nat.le_of_ble_eq_true rfl) ⟨Nat.zero_le _, Nat.zero_le _⟩ (k_X1_isOn l D cy q a1 a2 M r3 e4) dX1_goalOf_10 ?_
    refine B_if_eq X 27 dX1_goalOf_13 (by decide) h (fun h => ?_) (fun h => ?_)
    · refine V_iconst (v := (-1 : Int32)) X dX1_goalOf_27 (by decide) ?_
      have h : (-1 : Int32) = rv := h
      exact R_i X hr hlk h rfl dX1_goalOf_28
    · refine V_aload_n X dX1_goalOf_16 0 rfl rfl ?_
      refine G_1_2 X inX1 wFL_X1_19 dX1_goalOf_17 ?_
      refine V_iload_n X dX1_goalOf_20 1 rfl rfl ?_
      refine A_r18_ld X h dX1_goalOf_21 (fun hb5 h => ?_)
      refine V_iload_n X dX1_goalOf_22 2 rfl rfl ?_
      refine A_a60_ld X (isA60_29 hb5) h dX1_goalOf_23 (fun hb6 h => ?_)
      refine V_goto X 28 dX1_goalOf_24 (by decide) ?_
      have h : (M (29 + (Int32.toNatClampNeg a1)) (Int32.toNatClampNeg a2)) = rv := h
      exact R_i X hr hlk h rfl dX1_goalOf_28
def rm_X1_originOf : Room := { frames := 2, cells := 0, slots := 0, locals := 43 }
def f_X1_originOf (a1 : Int32) (a2 : Int32) (M : Mm) : Option (Int32) :=
  (f_X1_isOn a1 a2 M).bind fun r1 => if r1 = 0 then (some (-1 : Int32)) else (if inb a1 5 = true then if inb a2 60 = true then some (M (24 + (Int32.toNatClampNeg a1)) (Int32.toNatClampNeg a2)) else none else none)
set_option maxRecDepth 100000 in
set_option maxHeartbeats 4000000 in
theorem k_X1_originOf (l : Launch) (D : va_G) (cy : Nat → ClassId) (q : Nat → Nat) (a1 : Int32) (a2 : Int32) (M : Mm) (rv : Int32) (h0 : f_X1_originOf a1 a2 M = some rv) : KI l yX1_originOf (Cond.code yX1_originOf cX1_originOf 3 (Option.some FieldType.int) :: gw) rm_X1_originOf D cy q [.ref (q 15), .int a1, .int a2] M rv M := by
  refine KI.mk (L0 := [(0, .ref (q 15)), (1, .int a1), (2, .int a2)]) (by decide +kernel) rfl (Nat.le_of_ble_eq_true rfl) rfl rfl rfl ?_
  intro p e s m below meth c X0 hr hlk
  have X := Fx.gw (own := RX1) X0
  clear X0
  have h : Ok (f_X1_originOf a1 a2 M) (fun r => r = rv) := Ok.of h0 rfl
  clear h0
  delta f_X1_originOf at h
  refine V_aload_n X dX1_originOf_0 0 rfl rfl ?_
  refine V_iload_n X dX1_originOf_1 1 rfl rfl ?_
  refine V_iload_n X dX1_originOf_2 2 rfl rfl ?_
  obtain ⟨r1, e2, h⟩ := (Ok.bind h).ex
  refine C_Vi (As := [.int a1, .int a2]) (M' := M) (k0 := 15) X rfl rfl (cwV 2 X.1.2.2.2.2 (gw_V wML_X1_47 wIM_X1_isOn wSE_X1_isOn wIN_X1 (gw_c wCD_X1_isOn)) rfl rfl rfl (by decide +kernel) ⟨Nat.le_of_ble_eq_true rfl, Nat.le_of_ble_eq_true rfl⟩) rfl rfl (Nat.le_of_ble_eq_true rfl) ⟨Nat.zero_le _, Nat.zero_le _⟩ (k_X1_isOn l D cy q a1 a2 M r1 e2) dX1_originOf_3 ?_
  refine B_if_eq X 20 dX1_originOf_6 (by decide) h (fun h => ?_) (fun h => ?_)
  · refine V_iconst (v := (-1 : Int32)) X dX1_originOf_20 (by decide) ?_
    have h : (-1 : Int32) = rv := h
    exact R_i X hr hlk h rfl dX1_originOf_21
  · refine V_aload_n X dX1_originOf_9 0 rfl rfl ?_
    refine G_1_1 X inX1 wFL_X1_16 dX1_originOf_10 ?_
    refine V_iload_n X dX1_originOf_13 1 rfl rfl ?_
    refine A_r17_ld X h dX1_originOf_14 (fun hb3 h => ?_)
    refine V_iload_n X dX1_originOf_15 2 rfl rfl ?_
    refine A_a60_ld X (isA60_24 hb3) h dX1_originOf_16 (fun hb4 h => ?_)
    refine V_goto X 21 dX1_originOf_17 (by decide) ?_
    have h : (M (24 + (Int32.toNatClampNeg a1)) (Int32.toNatClampNeg a2)) = rv := h
    exact R_i X hr hlk h rfl dX1_originOf_21
def rm_X6_levelOf : Room := { frames := 5, cells := 0, slots := 0, locals := 113 }
def f_X6_levelOf (F : Nat) (a1 : Int32) (a2 : Int32) (a3 : Int32) (M : Mm) : Option (Int32 × Mm) :=
  (f_X6_isAtMost a1 (nI 4)).bind fun r1 => if r1 = 0 then (some ((-1000001 : Int32), M)) else ((f_X3_hasPlace 1 a2 M).bind fun r3 => if r3 = 0 then (some ((-1000001 : Int32), M)) else ((f_X6_isAtMost a3 (nI 3)).bind fun r5 => if r5 = 0 then (some ((-1000001 : Int32), M)) else (jn (if a1 = (nI 4) then (if a3 = (nI 1) then (some (.inr ((-1000004 : Int32), M))) else (if a3 = (nI 2) then (some (.inr ((-1000004 : Int32), M))) else (some (.inl ())))) else (some (.inl ()))) (fun z7 : Unit => (f_X1_build F 1 M).bind fun r8 => if a3 = 0 then ((f_X1_symbolOf a1 a2 r8).bind fun r16 => some (r16, r8)) else (if a3 = (nI 1) then ((f_X1_bitOf a1 a2 r8).bind fun r14 => some (r14, r8)) else (if a3 = (nI 2) then ((f_X1_goalOf a1 a2 r8).bind fun r12 => some (r12, r8)) else ((f_X1_originOf a1 a2 r8).bind fun r10 => some (r10, r8))))))))
set_option maxRecDepth 100000 in
set_option maxHeartbeats 4000000 in
theorem k_X6_levelOf (l : Launch) (D : va_G) (cy : Nat → ClassId) (q : Nat → Nat) (F : Nat) (a1 : Int32) (a2 : Int32) (a3 : Int32) (M : Mm) (rv : Int32) (M' : Mm) (h0 : f_X6_levelOf F a1 a2 a3 M = some (rv, M')) : KI l yX6_levelOf (Cond.code yX6_levelOf cX6_levelOf 4 (Option.some FieldType.int) :: gw) rm_X6_levelOf D cy q [.ref (q 0), .int a1, .int a2, .int a3] M rv M' := by
  refine KI.mk (L0 := [(0, .ref (q 0)), (1, .int a1), (2, .int a2), (3, .int a3)]) (by decide +kernel) rfl (Nat.le_of_ble_eq_true rfl) rfl rfl rfl ?_
  intro p e s m below meth c X0 hr hlk
  have X := Fx.gw (own := RX6) X0
  clear X0
  have h : Ok (f_X6_levelOf F a1 a2 a3 M) (fun r => r = (rv, M')) := Ok.of h0 rfl
  clear h0
  delta f_X6_levelOf at h
  refine V_iload_n X dX6_levelOf_0 1 rfl rfl ?_
  refine V_iconst (v := (nI 4)) X dX6_levelOf_1 (by decide) ?_
  obtain ⟨r1, e2, h⟩ := (Ok.bind h).ex
  refine C_Si (As := [.int a1, .int (nI 4)]) (M' := M) X (va_cwS 2 X.1.2.2.2.2 (gw_S wML_X6_58 wST_X6_isAtMost wIN_X6 (gw_c wCD_X6_isAtMost)) rfl rfl rfl (by decide +kernel) ⟨Nat.le_of_ble_eq_true rfl, Nat.le_of_ble_eq_true rfl⟩) rfl rfl (Nat.le_of_ble_eq_true rfl) ⟨Nat.zero_le _, Nat.zero_le _⟩ (k_X6_isAtMost l D cy q a1 (nI 4) M r1 e2) dX6_levelOf_2 ?_
  refine B_if_eq X 27 dX6_levelOf_5 (by decide) h (fun h => ?_) (fun h => ?_)
  · refine V_ldc X wKI_X6_66 dX6_levelOf_27 ?_
    have h : ((-1000001 : Int32), M) = (rv, M') := h
    exact R_i X hr hlk (congrArg Prod.fst h) (congrArg Prod.snd h) dX6_levelOf_29
  · refine V_aload_n X dX6_levelOf_8 0 rfl rfl ?_
    refine G_6_0 X inX6 wFL_X6_10 dX6_levelOf_9 ?_
    refine V_iload_n X dX6_levelOf_12 2 rfl rfl ?_
    obtain ⟨r3, e4, h⟩ := (Ok.bind h).ex
    refine C_Vi (As := [.int a2]) (M' := M) (k0 := 1) X (wd_row row_1) rfl (cwV 1 X.1.2.2.2.2 (gw_V wML_X6_76 wIM_X3_hasPlace wSE_X3_hasPlace wIN_X3 (gw_c wCD_X3_hasPlace)) rfl rfl rfl (by decide +kernel) ⟨Nat.le_of_ble_eq_true rfl, Nat.le_of_ble_eq_true rfl⟩) rfl rfl (Nat.le_of_ble_eq_true rfl) ⟨Nat.zero_le _, Nat.zero_le _⟩ (k_X3_hasPlace l D cy q 1 row_1 a2 M r3 e4) dX6_levelOf_13 ?_
    refine B_if_eq X 27 dX6_levelOf_16 (by decide) h (fun h => ?_) (fun h => ?_)
    · refine V_ldc X wKI_X6_66 dX6_levelOf_27 ?_
      have h : ((-1000001 : Int32), M) = (rv, M') := h
      exact R_i X hr hlk (congrArg Prod.fst h) (congrArg Prod.snd h) dX6_levelOf_29
    · refine V_iload_n X dX6_levelOf_19 3 rfl rfl ?_
      refine V_iconst (v := (nI 3)) X dX6_levelOf_20 (by decide) ?_
      obtain ⟨r5, e6, h⟩ := (Ok.bind h).ex
      refine C_Si (As := [.int a3, .int (nI 3)]) (M' := M) X (va_cwS 2 X.1.2.2.2.2 (gw_S wML_X6_58 wST_X6_isAtMost wIN_X6 (gw_c wCD_X6_isAtMost)) rfl rfl rfl (by decide +kernel) ⟨Nat.le_of_ble_eq_true rfl, Nat.le_of_ble_eq_true rfl⟩) rfl rfl (Nat.le_of_ble_eq_true rfl) ⟨Nat.zero_le _, Nat.zero_le _⟩ (k_X6_isAtMost l D cy q a3 (nI 3) M r5 e6) dX6_levelOf_21 ?_
      refine B_if_ne X 30 dX6_levelOf_24 (by decide) h (fun h => ?_) (fun h => ?_)
      · refine V_iload_n X dX6_levelOf_30 1 rfl rfl ?_
        refine V_iconst (v := (nI 4)) X dX6_levelOf_31 (by decide) ?_
        refine V_join X h (fun z7 => M) (fun z7 => [(0, .ref (q 0)), (1, .int a1), (2, .int a2), (3, .int a3)]) (fun z7 => []) 48 (fun z7 h => ?_) (fun h => ?_)
        · refine V_aload_n X dX6_levelOf_48 0 rfl rfl ?_
          refine G_6_2 X inX6 wFL_X6_26 dX6_levelOf_49 ?_
          refine V_aload_n X dX6_levelOf_52 0 rfl rfl ?_
          refine G_6_0 X inX6 wFL_X6_10 dX6_levelOf_53 ?_
          obtain ⟨r8, e9, h⟩ := (Ok.bind h).ex
          refine C_Vv (As := [.ref (q 1)]) (M' := r8) (k0 := 15) X rfl rfl (cwV 1 X.1.2.2.2.2 (gw_V wML_X6_109 wIM_X1_build wSE_X1_build wIN_X1 (gw_c wCD_X1_build)) rfl rfl rfl (by decide +kernel) ⟨Nat.le_of_ble_eq_true rfl, Nat.le_of_ble_eq_true rfl⟩) rfl rfl (Nat.le_of_ble_eq_true rfl) ⟨Nat.zero_le _, Nat.zero_le _⟩ (k_X1_build l D cy q F 1 row_1 M r8 e9) dX6_levelOf_56 ?_
          refine V_iload_n X dX6_levelOf_59 3 rfl rfl ?_
          refine B_if_ne X 73 dX6_levelOf_60 (by decide) h (fun h => ?_) (fun h => ?_)
          · refine V_iload_n X dX6_levelOf_73 3 rfl rfl ?_
            refine V_iconst (v := (nI 1)) X dX6_levelOf_74 (by decide) ?_
            refine B_icmp_ne X 88 dX6_levelOf_75 (by decide) h (fun h => ?_) (fun h => ?_)
            · refine V_iload_n X dX6_levelOf_88 3 rfl rfl ?_
              refine V_iconst (v := (nI 2)) X dX6_levelOf_89 (by decide) ?_
              refine B_icmp_ne X 105 dX6_levelOf_90 (by decide) h (fun h => ?_) (fun h => ?_)
              · refine V_aload_n X dX6_levelOf_105 0 rfl rfl ?_
                refine G_6_2 X inX6 wFL_X6_26 dX6_levelOf_106 ?_
                refine V_iload_n X dX6_levelOf_109 1 rfl rfl ?_
                refine V_iload_n X dX6_levelOf_110 2 rfl rfl ?_
                obtain ⟨r10, e11, h⟩ := (Ok.bind h).ex
                refine C_Vi (As := [.int a1, .int a2]) (M' := r8) (k0 := 15) X rfl rfl (cwV 2 X.1.2.2.2.2 (gw_V wML_X6_121 wIM_X1_originOf wSE_X1_originOf wIN_X1 (gw_c wCD_X1_originOf)) rfl rfl rfl (by decide +kernel) ⟨Nat.le_of_ble_eq_true rfl, Nat.le_of_ble_eq_true rfl⟩) rfl rfl (Nat.le_of_ble_eq_true rfl) ⟨Nat.zero_le _, Nat.zero_le _⟩ (k_X1_originOf l D cy q a1 a2 r8 r10 e11) dX6_levelOf_111 ?_
                have h : (r10, r8) = (rv, M') := h
                exact R_i X hr hlk (congrArg Prod.fst h) (congrArg Prod.snd h) dX6_levelOf_114
              · refine V_aload_n X dX6_levelOf_93 0 rfl rfl ?_
                refine G_6_2 X inX6 wFL_X6_26 dX6_levelOf_94 ?_
                refine V_iload_n X dX6_levelOf_97 1 rfl rfl ?_
                refine V_iload_n X dX6_levelOf_98 2 rfl rfl ?_
                obtain ⟨r12, e13, h⟩ := (Ok.bind h).ex
                refine C_Vi (As := [.int a1, .int a2]) (M' := r8) (k0 := 15) X rfl rfl (cwV 2 X.1.2.2.2.2 (gw_V wML_X6_118 wIM_X1_goalOf wSE_X1_goalOf wIN_X1 (gw_c wCD_X1_goalOf)) rfl rfl rfl (by decide +kernel) ⟨Nat.le_of_ble_eq_true rfl, Nat.le_of_ble_eq_true rfl⟩) rfl rfl (Nat.le_of_ble_eq_true rfl) ⟨Nat.zero_le _, Nat.zero_le _⟩ (k_X1_goalOf l D cy q a1 a2 r8 r12 e13) dX6_levelOf_99 ?_
                refine V_goto X 114 dX6_levelOf_102 (by decide) ?_
                have h : (r12, r8) = (rv, M') := h
                exact R_i X hr hlk (congrArg Prod.fst h) (congrArg Prod.snd h) dX6_levelOf_114
            · refine V_aload_n X dX6_levelOf_78 0 rfl rfl ?_
              refine G_6_2 X inX6 wFL_X6_26 dX6_levelOf_79 ?_
              refine V_iload_n X dX6_levelOf_82 1 rfl rfl ?_
              refine V_iload_n X dX6_levelOf_83 2 rfl rfl ?_
              obtain ⟨r14, e15, h⟩ := (Ok.bind h).ex
              refine C_Vi (As := [.int a1, .int a2]) (M' := r8) (k0 := 15) X rfl rfl (cwV 2 X.1.2.2.2.2 (gw_V wML_X6_115 wIM_X1_bitOf wSE_X1_bitOf wIN_X1 (gw_c wCD_X1_bitOf)) rfl rfl rfl (by decide +kernel) ⟨Nat.le_of_ble_eq_true rfl, Nat.le_of_ble_eq_true rfl⟩) rfl rfl (Nat.le_of_ble_eq_true rfl) ⟨Nat.zero_le _, Nat.zero_le _⟩ (k_X1_bitOf l D cy q a1 a2 r8 r14 e15) dX6_levelOf_84 ?_
              have h : (r14, r8) = (rv, M') := h
              exact R_i X hr hlk (congrArg Prod.fst h) (congrArg Prod.snd h) dX6_levelOf_87
          · refine V_aload_n X dX6_levelOf_63 0 rfl rfl ?_
            refine G_6_2 X inX6 wFL_X6_26 dX6_levelOf_64 ?_
            refine V_iload_n X dX6_levelOf_67 1 rfl rfl ?_
            refine V_iload_n X dX6_levelOf_68 2 rfl rfl ?_
            obtain ⟨r16, e17, h⟩ := (Ok.bind h).ex
            refine C_Vi (As := [.int a1, .int a2]) (M' := r8) (k0 := 15) X rfl rfl (cwV 2 X.1.2.2.2.2 (gw_V wML_X6_112 wIM_X1_symbolOf wSE_X1_symbolOf wIN_X1 (gw_c wCD_X1_symbolOf)) rfl rfl rfl (by decide +kernel) ⟨Nat.le_of_ble_eq_true rfl, Nat.le_of_ble_eq_true rfl⟩) rfl rfl (Nat.le_of_ble_eq_true rfl) ⟨Nat.zero_le _, Nat.zero_le _⟩ (k_X1_symbolOf l D cy q a1 a2 r8 r16 e17) dX6_levelOf_69 ?_
            have h : (r16, r8) = (rv, M') := h
            exact R_i X hr hlk (congrArg Prod.fst h) (congrArg Prod.snd h) dX6_levelOf_72
        · refine B_icmp_ne X 48 dX6_levelOf_32 (by decide) h (fun h => ?_) (fun h => ?_)
          · exact V_sub [0, 1, 2, 3] rfl h
          · refine V_iload_n X dX6_levelOf_35 3 rfl rfl ?_
            refine V_iconst (v := (nI 1)) X dX6_levelOf_36 (by decide) ?_
            refine B_icmp_eq X 45 dX6_levelOf_37 (by decide) h (fun h => ?_) (fun h => ?_)
            · refine V_ldc X wKI_X6_108 dX6_levelOf_45 ?_
              have h : ((-1000004 : Int32), M) = (rv, M') := h
              exact R_i X hr hlk (congrArg Prod.fst h) (congrArg Prod.snd h) dX6_levelOf_47
            · refine V_iload_n X dX6_levelOf_40 3 rfl rfl ?_
              refine V_iconst (v := (nI 2)) X dX6_levelOf_41 (by decide) ?_
              refine B_icmp_ne X 48 dX6_levelOf_42 (by decide) h (fun h => ?_) (fun h => ?_)
              · exact V_sub [0, 1, 2, 3] rfl h
              · refine V_ldc X wKI_X6_108 dX6_levelOf_45 ?_
                have h : ((-1000004 : Int32), M) = (rv, M') := h
                exact R_i X hr hlk (congrArg Prod.fst h) (congrArg Prod.snd h) dX6_levelOf_47
      · refine V_ldc X wKI_X6_66 dX6_levelOf_27 ?_
        have h : ((-1000001 : Int32), M) = (rv, M') := h
        exact R_i X hr hlk (congrArg Prod.fst h) (congrArg Prod.snd h) dX6_levelOf_29
def rm_X6_blocks : Room := { frames := 1, cells := 0, slots := 0, locals := 20 }
def f_X6_blocks (M : Mm) : Option (Int32) :=
  (f_X3_size 1 M).bind fun r1 => some (((r1 + (nI 8)) - (nI 1)) / (nI 8))
set_option maxRecDepth 100000 in
set_option maxHeartbeats 4000000 in
theorem k_X6_blocks (l : Launch) (D : va_G) (cy : Nat → ClassId) (q : Nat → Nat)  (M : Mm) (rv : Int32) (h0 : f_X6_blocks M = some rv) : KI l yX6_blocks (Cond.code yX6_blocks cX6_blocks 1 (Option.some FieldType.int) :: gw) rm_X6_blocks D cy q [.ref (q 0)] M rv M := by
  refine KI.mk (L0 := [(0, .ref (q 0))]) (by decide +kernel) rfl (Nat.le_of_ble_eq_true rfl) rfl rfl rfl ?_
  intro p e s m below meth c X0 hr hlk
  have X := Fx.gw (own := RX6) X0
  clear X0
  have h : Ok (f_X6_blocks M) (fun r => r = rv) := Ok.of h0 rfl
  clear h0
  delta f_X6_blocks at h
  refine V_aload_n X dX6_blocks_0 0 rfl rfl ?_
  refine G_6_0 X inX6 wFL_X6_10 dX6_blocks_1 ?_
  obtain ⟨r1, e2, h⟩ := (Ok.bind h).ex
  refine C_Vi (As := []) (M' := M) (k0 := 1) X (wd_row row_1) rfl (cwV 0 X.1.2.2.2.2 (gw_V wML_X6_54 wIM_X3_size wSE_X3_size wIN_X3 (gw_c wCD_X3_size)) rfl rfl rfl (by decide +kernel) ⟨Nat.le_of_ble_eq_true rfl, Nat.le_of_ble_eq_true rfl⟩) rfl rfl (Nat.le_of_ble_eq_true rfl) ⟨Nat.zero_le _, Nat.zero_le _⟩ (k_X3_size l D cy q 1 row_1 M r1 e2) dX6_blocks_4 ?_
  refine V_bipush (v := (nI 8)) X dX6_blocks_7 (by decide) ?_
  refine V_iadd X dX6_blocks_9 ?_
  refine V_iconst (v := (nI 1)) X dX6_blocks_10 (by decide) ?_
  refine V_isub X dX6_blocks_11 ?_
  refine V_bipush (v := (nI 8)) X dX6_blocks_12 (by decide) ?_
  refine V_idiv X dX6_blocks_14 (by decide) ?_
  have h : (((r1 + (nI 8)) - (nI 1)) / (nI 8)) = rv := h
  exact R_i X hr hlk h rfl dX6_blocks_15
def rm_X1_packed : Room := { frames := 3, cells := 0, slots := 0, locals := 65 }
def f_X1_packed (F : Nat) (a1 : Int32) (a2 : Int32) (a3 : Int32) (M : Mm) : Option (Int64) :=
  lpf (fun z1 : Int64 × Int32 => if a3 ≤ z1.2 then (some (.inr z1.1)) else ((f_X1_bitOf a1 z1.2 M).bind fun r2 => if r2 = (nI 1) then (some (.inl ((z1.1 ||| ((1 : Int64) <<< ((Int32.toInt64 (z1.2 - a2)) &&& 63))), (z1.2 + (nI 1))))) else (some (.inl (z1.1, (z1.2 + (nI 1))))))) F ((0 : Int64), a2)
set_option maxRecDepth 100000 in
set_option maxHeartbeats 4000000 in
theorem k_X1_packed (l : Launch) (D : va_G) (cy : Nat → ClassId) (q : Nat → Nat) (F : Nat) (a1 : Int32) (a2 : Int32) (a3 : Int32) (M : Mm) (rv : Int64) (h0 : f_X1_packed F a1 a2 a3 M = some rv) : KL l yX1_packed (Cond.code yX1_packed cX1_packed 7 (Option.some FieldType.long) :: gw) rm_X1_packed D cy q [.ref (q 15), .int a1, .int a2, .int a3] M rv M := by
  refine KL.mk (L0 := [(0, .ref (q 15)), (1, .int a1), (2, .int a2), (3, .int a3)]) (by decide +kernel) rfl (Nat.le_of_ble_eq_true rfl) rfl rfl rfl ?_
  intro p e s m below meth c X0 hr hlk
  have X := Fx.gw (own := RX1) X0
  clear X0
  have h : Ok (f_X1_packed F a1 a2 a3 M) (fun r => r = rv) := Ok.of h0 rfl
  clear h0
  delta f_X1_packed at h
  refine V_lconst (v := 0) X dX1_packed_0 (by decide) ?_
  refine V_lstore (L' := [(4, .long (0 : Int64)), (0, .ref (q 15)), (1, .int a1), (2, .int a2), (3, .int a3)]) X dX1_packed_1 (by decide) rfl ?_
  refine V_iload_n X dX1_packed_3 3 rfl rfl ?_
  refine V_istore (L' := [(6, .int a2), (4, .long (0 : Int64)), (0, .ref (q 15)), (1, .int a1), (2, .int a2), (3, .int a3)]) X dX1_packed_4 (by decide) rfl ?_
  refine V_sub (L' := [(0, .ref (q 15)), (1, .int a1), (2, .int a2), (3, .int a3), (4, .long (0 : Int64)), (6, .int a2)]) [2, 3, 4, 5, 1, 0] rfl ?_
  refine V_loop X h (fun z1 => M) (fun z1 => [(0, .ref (q 15)), (1, .int a1), (2, .int a2), (3, .int a3), (4, .long z1.1), (6, .int z1.2)]) rfl rfl (fun z1 h => ?_)
  refine V_iload X dX1_packed_6 5 rfl ?_
  refine V_iload_n X dX1_packed_8 3 rfl rfl ?_
  refine B_icmp_ge X 40 dX1_packed_9 (by decide) h (fun h => ?_) (fun h => ?_)
  · refine V_lload X dX1_packed_40 4 rfl ?_
    have h : z1.1 = rv := h
    exact R_l X hr hlk h rfl dX1_packed_42
  · refine V_aload_n X dX1_packed_12 0 rfl rfl ?_
    refine V_iload_n X dX1_packed_13 1 rfl rfl ?_
    refine V_iload X dX1_packed_14 5 rfl ?_
    obtain ⟨r2, e3, h⟩ := (Ok.bind h).ex
    refine C_Vi (As := [.int a1, .int z1.2]) (M' := M) (k0 := 15) X rfl rfl (cwV 2 X.1.2.2.2.2 (gw_V wML_X1_39 wIM_X1_bitOf wSE_X1_bitOf wIN_X1 (gw_c wCD_X1_bitOf)) rfl rfl rfl (by decide +kernel) ⟨Nat.le_of_ble_eq_true rfl, Nat.le_of_ble_eq_true rfl⟩) rfl rfl (Nat.le_of_ble_eq_true rfl) ⟨Nat.zero_le _, Nat.zero_le _⟩ (k_X1_bitOf l D cy q a1 z1.2 M r2 e3) dX1_packed_16 ?_
    refine V_iconst (v := (nI 1)) X dX1_packed_19 (by decide) ?_
    refine B_icmp_ne X 34 dX1_packed_20 (by decide) h (fun h => ?_) (fun h => ?_)
    · refine V_iinc (v := (z1.2 + (nI 1))) (L' := [(6, .int (z1.2 + (nI 1))), (0, .ref (q 15)), (1, .int a1), (2, .int a2), (3, .int a3), (4, .long z1.1)]) (j := 5) X dX1_packed_34 rfl rfl (by decide) rfl ?_
      refine V_goto X 6 dX1_packed_37 (by decide) ?_
      exact V_sub [1, 2, 3, 4, 5, 0] rfl h
    · refine V_lload X dX1_packed_23 4 rfl ?_
      refine V_lconst (v := 1) X dX1_packed_25 (by decide) ?_
      refine V_iload X dX1_packed_26 5 rfl ?_
      refine V_iload_n X dX1_packed_28 2 rfl rfl ?_
      refine V_isub X dX1_packed_29 ?_
      refine V_lshl X dX1_packed_30 ?_
      refine V_lor X dX1_packed_31 ?_
      refine V_lstore (L' := [(4, .long (z1.1 ||| ((1 : Int64) <<< ((Int32.toInt64 (z1.2 - a2)) &&& 63)))), (0, .ref (q 15)), (1, .int a1), (2, .int a2), (3, .int a3), (6, .int z1.2)]) X dX1_packed_32 (by decide) rfl ?_
      refine V_iinc (v := (z1.2 + (nI 1))) (L' := [(6, .int (z1.2 + (nI 1))), (4, .long (z1.1 ||| ((1 : Int64) <<< ((Int32.toInt64 (z1.2 - a2)) &&& 63)))), (0, .ref (q 15)), (1, .int a1), (2, .int a2), (3, .int a3)]) (j := 5) X dX1_packed_34 rfl rfl (by decide) rfl ?_
      refine V_goto X 6 dX1_packed_37 (by decide) ?_
      exact V_sub [2, 3, 4, 5, 1, 0] rfl h
