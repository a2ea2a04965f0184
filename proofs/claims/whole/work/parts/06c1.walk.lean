def rm_J13_bitCount_95d88 : Room := { frames := 0, cells := 0, slots := 0, locals := 0 }
def f_J13_bitCount_95d88 (a0 : Int64) : Option (Int32) :=
  some ((Int64.toInt32 ((((((((a0 - (((Int64.toUInt64 a0) >>> ((Int32.toInt64 (nI 1)).toUInt64 &&& Int64.toUInt64 63)).toInt64 &&& (6148914691236517205 : Int64))) &&& (3689348814741910323 : Int64)) + (((Int64.toUInt64 (a0 - (((Int64.toUInt64 a0) >>> ((Int32.toInt64 (nI 1)).toUInt64 &&& Int64.toUInt64 63)).toInt64 &&& (6148914691236517205 : Int64)))) >>> ((Int32.toInt64 (nI 2)).toUInt64 &&& Int64.toUInt64 63)).toInt64 &&& (3689348814741910323 : Int64))) + ((Int64.toUInt64 (((a0 - (((Int64.toUInt64 a0) >>> ((Int32.toInt64 (nI 1)).toUInt64 &&& Int64.toUInt64 63)).toInt64 &&& (6148914691236517205 : Int64))) &&& (3689348814741910323 : Int64)) + (((Int64.toUInt64 (a0 - (((Int64.toUInt64 a0) >>> ((Int32.toInt64 (nI 1)).toUInt64 &&& Int64.toUInt64 63)).toInt64 &&& (6148914691236517205 : Int64)))) >>> ((Int32.toInt64 (nI 2)).toUInt64 &&& Int64.toUInt64 63)).toInt64 &&& (3689348814741910323 : Int64)))) >>> ((Int32.toInt64 (nI 4)).toUInt64 &&& Int64.toUInt64 63)).toInt64) &&& (1085102592571150095 : Int64)) + ((Int64.toUInt64 (((((a0 - (((Int64.toUInt64 a0) >>> ((Int32.toInt64 (nI 1)).toUInt64 &&& Int64.toUInt64 63)).toInt64 &&& (6148914691236517205 : Int64))) &&& (3689348814741910323 : Int64)) + (((Int64.toUInt64 (a0 - (((Int64.toUInt64 a0) >>> ((Int32.toInt64 (nI 1)).toUInt64 &&& Int64.toUInt64 63)).toInt64 &&& (6148914691236517205 : Int64)))) >>> ((Int32.toInt64 (nI 2)).toUInt64 &&& Int64.toUInt64 63)).toInt64 &&& (3689348814741910323 : Int64))) + ((Int64.toUInt64 (((a0 - (((Int64.toUInt64 a0) >>> ((Int32.toInt64 (nI 1)).toUInt64 &&& Int64.toUInt64 63)).toInt64 &&& (6148914691236517205 : Int64))) &&& (3689348814741910323 : Int64)) + (((Int64.toUInt64 (a0 - (((Int64.toUInt64 a0) >>> ((Int32.toInt64 (nI 1)).toUInt64 &&& Int64.toUInt64 63)).toInt64 &&& (6148914691236517205 : Int64)))) >>> ((Int32.toInt64 (nI 2)).toUInt64 &&& Int64.toUInt64 63)).toInt64 &&& (3689348814741910323 : Int64)))) >>> ((Int32.toInt64 (nI 4)).toUInt64 &&& Int64.toUInt64 63)).toInt64) &&& (1085102592571150095 : Int64))) >>> ((Int32.toInt64 (nI 8)).toUInt64 &&& Int64.toUInt64 63)).toInt64) + ((Int64.toUInt64 ((((((a0 - (((Int64.toUInt64 a0) >>> ((Int32.toInt64 (nI 1)).toUInt64 &&& Int64.toUInt64 63)).toInt64 &&& (6148914691236517205 : Int64))) &&& (3689348814741910323 : Int64)) + (((Int64.toUInt64 (a0 - (((Int64.toUInt64 a0) >>> ((Int32.toInt64 (nI 1)).toUInt64 &&& Int64.toUInt64 63)).toInt64 &&& (6148914691236517205 : Int64)))) >>> ((Int32.toInt64 (nI 2)).toUInt64 &&& Int64.toUInt64 63)).toInt64 &&& (3689348814741910323 : Int64))) + ((Int64.toUInt64 (((a0 - (((Int64.toUInt64 a0) >>> ((Int32.toInt64 (nI 1)).toUInt64 &&& Int64.toUInt64 63)).toInt64 &&& (6148914691236517205 : Int64))) &&& (3689348814741910323 : Int64)) + (((Int64.toUInt64 (a0 - (((Int64.toUInt64 a0) >>> ((Int32.toInt64 (nI 1)).toUInt64 &&& Int64.toUInt64 63)).toInt64 &&& (6148914691236517205 : Int64)))) >>> ((Int32.toInt64 (nI 2)).toUInt64 &&& Int64.toUInt64 63)).toInt64 &&& (3689348814741910323 : Int64)))) >>> ((Int32.toInt64 (nI 4)).toUInt64 &&& Int64.toUInt64 63)).toInt64) &&& (1085102592571150095 : Int64)) + ((Int64.toUInt64 (((((a0 - (((Int64.toUInt64 a0) >>> ((Int32.toInt64 (nI 1)).toUInt64 &&& Int64.toUInt64 63)).toInt64 &&& (6148914691236517205 : Int64))) &&& (3689348814741910323 : Int64)) + (((Int64.toUInt64 (a0 - (((Int64.toUInt64 a0) >>> ((Int32.toInt64 (nI 1)).toUInt64 &&& Int64.toUInt64 63)).toInt64 &&& (6148914691236517205 : Int64)))) >>> ((Int32.toInt64 (nI 2)).toUInt64 &&& Int64.toUInt64 63)).toInt64 &&& (3689348814741910323 : Int64))) + ((Int64.toUInt64 (((a0 - (((Int64.toUInt64 a0) >>> ((Int32.toInt64 (nI 1)).toUInt64 &&& Int64.toUInt64 63)).toInt64 &&& (6148914691236517205 : Int64))) &&& (3689348814741910323 : Int64)) + (((Int64.toUInt64 (a0 - (((Int64.toUInt64 a0) >>> ((Int32.toInt64 (nI 1)).toUInt64 &&& Int64.toUInt64 63)).toInt64 &&& (6148914691236517205 : Int64)))) >>> ((Int32.toInt64 (nI 2)).toUInt64 &&& Int64.toUInt64 63)).toInt64 &&& (3689348814741910323 : Int64)))) >>> ((Int32.toInt64 (nI 4)).toUInt64 &&& Int64.toUInt64 63)).toInt64) &&& (1085102592571150095 : Int64))) >>> ((Int32.toInt64 (nI 8)).toUInt64 &&& Int64.toUInt64 63)).toInt64)) >>> ((Int32.toInt64 (nI 16)).toUInt64 &&& Int64.toUInt64 63)).toInt64) + ((Int64.toUInt64 (((((((a0 - (((Int64.toUInt64 a0) >>> ((Int32.toInt64 (nI 1)).toUInt64 &&& Int64.toUInt64 63)).toInt64 &&& (6148914691236517205 : Int64))) &&& (3689348814741910323 : Int64)) + (((Int64.toUInt64 (a0 - (((Int64.toUInt64 a0) >>> ((Int32.toInt64 (nI 1)).toUInt64 &&& Int64.toUInt64 63)).toInt64 &&& (6148914691236517205 : Int64)))) >>> ((Int32.toInt64 (nI 2)).toUInt64 &&& Int64.toUInt64 63)).toInt64 &&& (3689348814741910323 : Int64))) + ((Int64.toUInt64 (((a0 - (((Int64.toUInt64 a0) >>> ((Int32.toInt64 (nI 1)).toUInt64 &&& Int64.toUInt64 63)).toInt64 &&& (6148914691236517205 : Int64))) &&& (3689348814741910323 : Int64)) + (((Int64.toUInt64 (a0 - (((Int64.toUInt64 a0) >>> ((Int32.toInt64 (nI 1)).toUInt64 &&& Int64.toUInt64 63)).toInt64 &&& (6148914691236517205 : Int64)))) >>> ((Int32.toInt64 (nI 2)).toUInt64 &&& Int64.toUInt64 63)).toInt64 &&& (3689348814741910323 : Int64)))) >>> ((Int32.toInt64 (nI 4)).toUInt64 &&& Int64.toUInt64 63)).toInt64) &&& (1085102592571150095 : Int64)) + ((Int64.toUInt64 (((((a0 - (((Int64.toUInt64 a0) >>> ((Int32.toInt64 (nI 1)).toUInt64 &&& Int64.toUInt64 63)).toInt64 &&& (6148914691236517205 : Int64))) &&& (3689348814741910323 : Int64)) + (((Int64.toUInt64 (a0 - (((Int64.toUInt64 a0) >>> ((Int32.toInt64 (nI 1)).toUInt64 &&& Int64.toUInt64 63)).toInt64 &&& (6148914691236517205 : Int64)))) >>> ((Int32.toInt64 (nI 2)).toUInt64 &&& Int64.toUInt64 63)).toInt64 &&& (3689348814741910323 : Int64))) + ((Int64.toUInt64 (((a0 - (((Int64.toUInt64 a0) >>> ((Int32.toInt64 (nI 1)).toUInt64 &&& Int64.toUInt64 63)).toInt64 &&& (6148914691236517205 : Int64))) &&& (3689348814741910323 : Int64)) + (((Int64.toUInt64 (a0 - (((Int64.toUInt64 a0) >>> ((Int32.toInt64 (nI 1)).toUInt64 &&& Int64.toUInt64 63)).toInt64 &&& (6148914691236517205 : Int64)))) >>> ((Int32.toInt64 (nI 2)).toUInt64 &&& Int64.toUInt64 63)).toInt64 &&& (3689348814741910323 : Int64)))) >>> ((Int32.toInt64 (nI 4)).toUInt64 &&& Int64.toUInt64 63)).toInt64) &&& (1085102592571150095 : Int64))) >>> ((Int32.toInt64 (nI 8)).toUInt64 &&& Int64.toUInt64 63)).toInt64) + ((Int64.toUInt64 ((((((a0 - (((Int64.toUInt64 a0) >>> ((Int32.toInt64 (nI 1)).toUInt64 &&& Int64.toUInt64 63)).toInt64 &&& (6148914691236517205 : Int64))) &&& (3689348814741910323 : Int64)) + (((Int64.toUInt64 (a0 - (((Int64.toUInt64 a0) >>> ((Int32.toInt64 (nI 1)).toUInt64 &&& Int64.toUInt64 63)).toInt64 &&& (6148914691236517205 : Int64)))) >>> ((Int32.toInt64 (nI 2)).toUInt64 &&& Int64.toUInt64 63)).toInt64 &&& (3689348814741910323 : Int64))) + ((Int64.toUInt64 (((a0 - (((Int64.toUInt64 a0) >>> ((Int32.toInt64 (nI 1)).toUInt64 &&& Int64.toUInt64 63)).toInt64 &&& (6148914691236517205 : Int64))) &&& (3689348814741910323 : Int64)) + (((Int64.toUInt64 (a0 - (((Int64.toUInt64 a0) >>> ((Int32.toInt64 (nI 1)).toUInt64 &&& Int64.toUInt64 63)).toInt64 &&& (6148914691236517205 : Int64)))) >>> ((Int32.toInt64 (nI 2)).toUInt64 &&& Int64.toUInt64 63)).toInt64 &&& (3689348814741910323 : Int64)))) >>> ((Int32.toInt64 (nI 4)).toUInt64 &&& Int64.toUInt64 63)).toInt64) &&& (1085102592571150095 : Int64)) + ((Int64.toUInt64 (((((a0 - (((Int64.toUInt64 a0) >>> ((Int32.toInt64 (nI 1)).toUInt64 &&& Int64.toUInt64 63)).toInt64 &&& (6148914691236517205 : Int64))) &&& (3689348814741910323 : Int64)) + (((Int64.toUInt64 (a0 - (((Int64.toUInt64 a0) >>> ((Int32.toInt64 (nI 1)).toUInt64 &&& Int64.toUInt64 63)).toInt64 &&& (6148914691236517205 : Int64)))) >>> ((Int32.toInt64 (nI 2)).toUInt64 &&& Int64.toUInt64 63)).toInt64 &&& (3689348814741910323 : Int64))) + ((Int64.toUInt64 (((a0 - (((Int64.toUInt64 a0) >>> ((Int32.toInt64 (nI 1)).toUInt64 &&& Int64.toUInt64 63)).toInt64 &&& (6148914691236517205 : Int64))) &&& (3689348814741910323 : Int64)) + (((Int64.toUInt64 (a0 - (((Int64.toUInt64 a0) >>> ((Int32.toInt64 (nI 1)).toUInt64 &&& Int64.toUInt64 63)).toInt64 &&& (6148914691236517205 : Int64)))) >>> ((Int32.toInt64 (nI 2)).toUInt64 &&& Int64.toUInt64 63)).toInt64 &&& (3689348814741910323 : Int64)))) >>> ((Int32.toInt64 (nI 4)).toUInt64 &&& Int64.toUInt64 63)).toInt64) &&& (1085102592571150095 : Int64))) >>> ((Int32.toInt64 (nI 8)).toUInt64 &&& Int64.toUInt64 63)).toInt64)) >>> ((Int32.toInt64 (nI 16)).toUInt64 &&& Int64.toUInt64 63)).toInt64)) >>> ((Int32.toInt64 (nI 32)).toUInt64 &&& Int64.toUInt64 63)).toInt64)) &&& (nI 127))
set_option maxRecDepth 100000 in
set_option maxHeartbeats 4000000 in
theorem k_J13_bitCount_95d88 (l : Launch) (D : va_G) (cy : Nat → ClassId) (q : Nat → Nat) (a0 : Int64) (M : Mm) (rv : Int32) (h0 : f_J13_bitCount_95d88 a0 = some rv) : KI l yJ13_bitCount_95d88 (Cond.code yJ13_bitCount_95d88 cJ13_bitCount_95d88 2 (Option.some FieldType.int) :: gw) rm_J13_bitCount_95d88 D cy q [.long a0] M rv M := by
  refine KI.mk (L0 := [(0, .long a0)]) (by decide +kernel) rfl (Nat.le_of_ble_eq_true rfl) rfl rfl rfl ?_
  intro p e s m below meth c X0 hr hlk
  have X := Fx.gw (own := RJ13) X0
  clear X0
  have h : Ok (f_J13_bitCount_95d88 a0) (fun r => r = rv) := Ok.of h0 rfl
  clear h0
  delta f_J13_bitCount_95d88 at h
  refine V_lload_n X dJ13_bitCount_95d88_0 0 rfl rfl ?_
  refine V_lload_n X dJ13_bitCount_95d88_1 0 rfl rfl ?_
  refine V_iconst (v := (nI 1)) X dJ13_bitCount_95d88_2 (by decide) ?_
  refine V_lushr X dJ13_bitCount_95d88_3 ?_
  refine V_ldc2 X wKL_J13_314 dJ13_bitCount_95d88_4 ?_
  refine V_land X dJ13_bitCount_95d88_7 ?_
  refine V_lsub X dJ13_bitCount_95d88_8 ?_
  refine V_lstore_n (L' := [(0, .long (a0 - (((Int64.toUInt64 a0) >>> ((Int32.toInt64 (nI 1)).toUInt64 &&& Int64.toUInt64 63)).toInt64 &&& (6148914691236517205 : Int64))))]) X dJ13_bitCount_95d88_9 rfl (by decide) rfl ?_
  refine V_lload_n X dJ13_bitCount_95d88_10 0 rfl rfl ?_
  refine V_ldc2 X wKL_J13_316 dJ13_bitCount_95d88_11 ?_
  refine V_land X dJ13_bitCount_95d88_14 ?_
  refine V_lload_n X dJ13_bitCount_95d88_15 0 rfl rfl ?_
  refine V_iconst (v := (nI 2)) X dJ13_bitCount_95d88_16 (by decide) ?_
  refine V_lushr X dJ13_bitCount_95d88_17 ?_
  refine V_ldc2 X wKL_J13_316 dJ13_bitCount_95d88_18 ?_
  refine V_land X dJ13_bitCount_95d88_21 ?_
  refine V_ladd X dJ13_bitCount_95d88_22 ?_
  refine V_lstore_n (L' := [(0, .long (((a0 - (((Int64.toUInt64 a0) >>> ((Int32.toInt64 (nI 1)).toUInt64 &&& Int64.toUInt64 63)).toInt64 &&& (6148914691236517205 : Int64))) &&& (3689348814741910323 : Int64)) + (((Int64.toUInt64 (a0 - (((Int64.toUInt64 a0) >>> ((Int32.toInt64 (nI 1)).toUInt64 &&& Int64.toUInt64 63)).toInt64 &&& (6148914691236517205 : Int64)))) >>> ((Int32.toInt64 (nI 2)).toUInt64 &&& Int64.toUInt64 63)).toInt64 &&& (3689348814741910323 : Int64))))]) X dJ13_bitCount_95d88_23 rfl (by decide) rfl ?_
  refine V_lload_n X dJ13_bitCount_95d88_24 0 rfl rfl ?_
  refine V_lload_n X dJ13_bitCount_95d88_25 0 rfl rfl ?_
  refine V_iconst (v := (nI 4)) X dJ13_bitCount_95d88_26 (by decide) ?_
  refine V_lushr X dJ13_bitCount_95d88_27 ?_
  refine V_ladd X dJ13_bitCount_95d88_28 ?_
  refine V_ldc2 X wKL_J13_318 dJ13_bitCount_95d88_29 ?_
  refine V_land X dJ13_bitCount_95d88_32 ?_
  refine V_lstore_n (L' := [(0, .long (((((a0 - (((Int64.toUInt64 a0) >>> ((Int32.toInt64 (nI 1)).toUInt64 &&& Int64.toUInt64 63)).toInt64 &&& (6148914691236517205 : Int64))) &&& (3689348814741910323 : Int64)) + (((Int64.toUInt64 (a0 - (((Int64.toUInt64 a0) >>> ((Int32.toInt64 (nI 1)).toUInt64 &&& Int64.toUInt64 63)).toInt64 &&& (6148914691236517205 : Int64)))) >>> ((Int32.toInt64 (nI 2)).toUInt64 &&& Int64.toUInt64 63)).toInt64 &&& (3689348814741910323 : Int64))) + ((Int64.toUInt64 (((a0 - (((Int64.toUInt64 a0) >>> ((Int32.toInt64 (nI 1)).toUInt64 &&& Int64.toUInt64 63)).toInt64 &&& (6148914691236517205 : Int64))) &&& (3689348814741910323 : Int64)) + (((Int64.toUInt64 (a0 - (((Int64.toUInt64 a0) >>> ((Int32.toInt64 (nI 1)).toUInt64 &&& Int64.toUInt64 63)).toInt64 &&& (6148914691236517205 : Int64)))) >>> ((Int32.toInt64 (nI 2)).toUInt64 &&& Int64.toUInt64 63)).toInt64 &&& (3689348814741910323 : Int64)))) >>> ((Int32.toInt64 (nI 4)).toUInt64 &&& Int64.toUInt64 63)).toInt64) &&& (1085102592571150095 : Int64)))]) X dJ13_bitCount_95d88_33 rfl (by decide) rfl ?_
  refine V_lload_n X dJ13_bitCount_95d88_34 0 rfl rfl ?_
  refine V_lload_n X dJ13_bitCount_95d88_35 0 rfl rfl ?_
  refine V_bipush (v := (nI 8)) X dJ13_bitCount_95d88_36 (by decide) ?_
  refine V_lushr X dJ13_bitCount_95d88_38 ?_
  refine V_ladd X dJ13_bitCount_95d88_39 ?_
  refine V_lstore_n (L' := [(0, .long ((((((a0 - (((Int64.toUInt64 a0) >>> ((Int32.toInt64 (nI 1)).toUInt64 &&& Int64.toUInt64 63)).toInt64 &&& (6148914691236517205 : Int64))) &&& (3689348814741910323 : Int64)) + (((Int64.toUInt64 (a0 - (((Int64.toUInt64 a0) >>> ((Int32.toInt64 (nI 1)).toUInt64 &&& Int64.toUInt64 63)).toInt64 &&& (6148914691236517205 : Int64)))) >>> ((Int32.toInt64 (nI 2)).toUInt64 &&& Int64.toUInt64 63)).toInt64 &&& (3689348814741910323 : Int64))) + ((Int64.toUInt64 (((a0 - (((Int64.toUInt64 a0) >>> ((Int32.toInt64 (nI 1)).toUInt64 &&& Int64.toUInt64 63)).toInt64 &&& (6148914691236517205 : Int64))) &&& (3689348814741910323 : Int64)) + (((Int64.toUInt64 (a0 - (((Int64.toUInt64 a0) >>> ((Int32.toInt64 (nI 1)).toUInt64 &&& Int64.toUInt64 63)).toInt64 &&& (6148914691236517205 : Int64)))) >>> ((Int32.toInt64 (nI 2)).toUInt64 &&& Int64.toUInt64 63)).toInt64 &&& (3689348814741910323 : Int64)))) >>> ((Int32.toInt64 (nI 4)).toUInt64 &&& Int64.toUInt64 63)).toInt64) &&& (1085102592571150095 : Int64)) + ((Int64.toUInt64 (((((a0 - (((Int64.toUInt64 a0) >>> ((Int32.toInt64 (nI 1)).toUInt64 &&& Int64.toUInt64 63)).toInt64 &&& (6148914691236517205 : Int64))) &&& (3689348814741910323 : Int64)) + (((Int64.toUInt64 (a0 - (((Int64.toUInt64 a0) >>> ((Int32.toInt64 (nI 1)).toUInt64 &&& Int64.toUInt64 63)).toInt64 &&& (6148914691236517205 : Int64)))) >>> ((Int32.toInt64 (nI 2)).toUInt64 &&& Int64.toUInt64 63)).toInt64 &&& (3689348814741910323 : Int64))) + ((Int64.toUInt64 (((a0 - (((Int64.toUInt64 a0) >>> ((Int32.toInt64 (nI 1)).toUInt64 &&& Int64.toUInt64 63)).toInt64 &&& (6148914691236517205 : Int64))) &&& (3689348814741910323 : Int64)) + (((Int64.toUInt64 (a0 - (((Int64.toUInt64 a0) >>> ((Int32.toInt64 (nI 1)).toUInt64 &&& Int64.toUInt64 63)).toInt64 &&& (6148914691236517205 : Int64)))) >>> ((Int32.toInt64 (nI 2)).toUInt64 &&& Int64.toUInt64 63)).toInt64 &&& (3689348814741910323 : Int64)))) >>> ((Int32.toInt64 (nI 4)).toUInt64 &&& Int64.toUInt64 63)).toInt64) &&& (1085102592571150095 : Int64))) >>> ((Int32.toInt64 (nI 8)).toUInt64 &&& Int64.toUInt64 63)).toInt64))]) X dJ13_bitCount_95d88_40 rfl (by decide) rfl ?_
  refine V_lload_n X dJ13_bitCount_95d88_41 0 rfl rfl ?_
  refine V_lload_n X dJ13_bitCount_95d88_42 0 rfl rfl ?_
  refine V_bipush (v := (nI 16)) X dJ13_bitCount_95d88_43 (by decide) ?_
  refine V_lushr X dJ13_bitCount_95d88_45 ?_
  refine V_ladd X dJ13_bitCount_95d88_46 ?_
  refine V_lstore_n (L' := [(0, .long (((((((a0 - (((Int64.toUInt64 a0) >>> ((Int32.toInt64 (nI 1)).toUInt64 &&& Int64.toUInt64 63)).toInt64 &&& (6148914691236517205 : Int64))) &&& (3689348814741910323 : Int64)) + (((Int64.toUInt64 (a0 - (((Int64.toUInt64 a0) >>> ((Int32.toInt64 (nI 1)).toUInt64 &&& Int64.toUInt64 63)).toInt64 &&& (6148914691236517205 : Int64)))) >>> ((Int32.toInt64 (nI 2)).toUInt64 &&& Int64.toUInt64 63)).toInt64 &&& (3689348814741910323 : Int64))) + ((Int64.toUInt64 (((a0 - (((Int64.toUInt64 a0) >>> ((Int32.toInt64 (nI 1)).toUInt64 &&& Int64.toUInt64 63)).toInt64 &&& (6148914691236517205 : Int64))) &&& (3689348814741910323 : Int64)) + (((Int64.toUInt64 (a0 - (((Int64.toUInt64 a0) >>> ((Int32.toInt64 (nI 1)).toUInt64 &&& Int64.toUInt64 63)).toInt64 &&& (6148914691236517205 : Int64)))) >>> ((Int32.toInt64 (nI 2)).toUInt64 &&& Int64.toUInt64 63)).toInt64 &&& (3689348814741910323 : Int64)))) >>> ((Int32.toInt64 (nI 4)).toUInt64 &&& Int64.toUInt64 63)).toInt64) &&& (1085102592571150095 : Int64)) + ((Int64.toUInt64 (((((a0 - (((Int64.toUInt64 a0) >>> ((Int32.toInt64 (nI 1)).toUInt64 &&& Int64.toUInt64 63)).toInt64 &&& (6148914691236517205 : Int64))) &&& (3689348814741910323 : Int64)) + (((Int64.toUInt64 (a0 - (((Int64.toUInt64 a0) >>> ((Int32.toInt64 (nI 1)).toUInt64 &&& Int64.toUInt64 63)).toInt64 &&& (6148914691236517205 : Int64)))) >>> ((Int32.toInt64 (nI 2)).toUInt64 &&& Int64.toUInt64 63)).toInt64 &&& (3689348814741910323 : Int64))) + ((Int64.toUInt64 (((a0 - (((Int64.toUInt64 a0) >>> ((Int32.toInt64 (nI 1)).toUInt64 &&& Int64.toUInt64 63)).toInt64 &&& (6148914691236517205 : Int64))) &&& (3689348814741910323 : Int64)) + (((Int64.toUInt64 (a0 - (((Int64.toUInt64 a0) >>> ((Int32.toInt64 (nI 1)).toUInt64 &&& Int64.toUInt64 63)).toInt64 &&& (6148914691236517205 : Int64)))) >>> ((Int32.toInt64 (nI 2)).toUInt64 &&& Int64.toUInt64 63)).toInt64 &&& (3689348814741910323 : Int64)))) >>> ((Int32.toInt64 (nI 4)).toUInt64 &&& Int64.toUInt64 63)).toInt64) &&& (1085102592571150095 : Int64))) >>> ((Int32.toInt64 (nI 8)).toUInt64 &&& Int64.toUInt64 63)).toInt64) + ((Int64.toUInt64 ((((((a0 - (((Int64.toUInt64 a0) >>> ((Int32.toInt64 (nI 1)).toUInt64 &&& Int64.toUInt64 63)).toInt64 &&& (6148914691236517205 : Int64))) &&& (3689348814741910323 : Int64)) + (((Int64.toUInt64 (a0 - (((Int64.toUInt64 a0) >>> ((Int32.toInt64 (nI 1)).toUInt64 &&& Int64.toUInt64 63)).toInt64 &&& (6148914691236517205 : Int64)))) >>> ((Int32.toInt64 (nI 2)).toUInt64 &&& Int64.toUInt64 63)).toInt64 &&& (3689348814741910323 : Int64))) + ((Int64.toUInt64 (((a0 - (((Int64.toUInt64 a0) >>> ((Int32.toInt64 (nI 1)).toUInt64 &&& Int64.toUInt64 63)).toInt64 &&& (6148914691236517205 : Int64))) &&& (3689348814741910323 : Int64)) + (((Int64.toUInt64 (a0 - (((Int64.toUInt64 a0) >>> ((Int32.toInt64 (nI 1)).toUInt64 &&& Int64.toUInt64 63)).toInt64 &&& (6148914691236517205 : Int64)))) >>> ((Int32.toInt64 (nI 2)).toUInt64 &&& Int64.toUInt64 63)).toInt64 &&& (3689348814741910323 : Int64)))) >>> ((Int32.toInt64 (nI 4)).toUInt64 &&& Int64.toUInt64 63)).toInt64) &&& (1085102592571150095 : Int64)) + ((Int64.toUInt64 (((((a0 - (((Int64.toUInt64 a0) >>> ((Int32.toInt64 (nI 1)).toUInt64 &&& Int64.toUInt64 63)).toInt64 &&& (6148914691236517205 : Int64))) &&& (3689348814741910323 : Int64)) + (((Int64.toUInt64 (a0 - (((Int64.toUInt64 a0) >>> ((Int32.toInt64 (nI 1)).toUInt64 &&& Int64.toUInt64 63)).toInt64 &&& (6148914691236517205 : Int64)))) >>> ((Int32.toInt64 (nI 2)).toUInt64 &&& Int64.toUInt64 63)).toInt64 &&& (3689348814741910323 : Int64))) + ((Int64.toUInt64 (((a0 - (((Int64.toUInt64 a0) >>> ((Int32.toInt64 (nI 1)).toUInt64 &&& Int64.toUInt64 63)).toInt64 &&& (6148914691236517205 : Int64))) &&& (3689348814741910323 : Int64)) + (((Int64.toUInt64 (a0 - (((Int64.toUInt64 a0) >>> ((Int32.toInt64 (nI 1)).toUInt64 &&& Int64.toUInt64 63)).toInt64 &&& (6148914691236517205 : Int64)))) >>> ((Int32.toInt64 (nI 2)).toUInt64 &&& Int64.toUInt64 63)).toInt64 &&& (3689348814741910323 : Int64)))) >>> ((Int32.toInt64 (nI 4)).toUInt64 &&& Int64.toUInt64 63)).toInt64) &&& (1085102592571150095 : Int64))) >>> ((Int32.toInt64 (nI 8)).toUInt64 &&& Int64.toUInt64 63)).toInt64)) >>> ((Int32.toInt64 (nI 16)).toUInt64 &&& Int64.toUInt64 63)).toInt64))]) X dJ13_bitCount_95d88_47 rfl (by decide) rfl ?_
  refine V_lload_n X dJ13_bitCount_95d88_48 0 rfl rfl ?_
  refine V_lload_n X dJ13_bitCount_95d88_49 0 rfl rfl ?_
  refine V_bipush (v := (nI 32)) X dJ13_bitCount_95d88_50 (by decide) ?_
  refine V_lushr X dJ13_bitCount_95d88_52 ?_
  refine V_ladd X dJ13_bitCount_95d88_53 ?_
  refine V_lstore_n (L' := [(0, .long ((((((((a0 - (((Int64.toUInt64 a0) >>> ((Int32.toInt64 (nI 1)).toUInt64 &&& Int64.toUInt64 63)).toInt64 &&& (6148914691236517205 : Int64))) &&& (3689348814741910323 : Int64)) + (((Int64.toUInt64 (a0 - (((Int64.toUInt64 a0) >>> ((Int32.toInt64 (nI 1)).toUInt64 &&& Int64.toUInt64 63)).toInt64 &&& (6148914691236517205 : Int64)))) >>> ((Int32.toInt64 (nI 2)).toUInt64 &&& Int64.toUInt64 63)).toInt64 &&& (3689348814741910323 : Int64))) + ((Int64.toUInt64 (((a0 - (((Int64.toUInt64 a0) >>> ((Int32.toInt64 (nI 1)).toUInt64 &&& Int64.toUInt64 63)).toInt64 &&& (6148914691236517205 : Int64))) &&& (3689348814741910323 : Int64)) + (((Int64.toUInt64 (a0 - (((Int64.toUInt64 a0) >>> ((Int32.toInt64 (nI 1)).toUInt64 &&& Int64.toUInt64 63)).toInt64 &&& (6148914691236517205 : Int64)))) >>> ((Int32.toInt64 (nI 2)).toUInt64 &&& Int64.toUInt64 63)).toInt64 &&& (3689348814741910323 : Int64)))) >>> ((Int32.toInt64 (nI 4)).toUInt64 &&& Int64.toUInt64 63)).toInt64) &&& (1085102592571150095 : Int64)) + ((Int64.toUInt64 (((((a0 - (((Int64.toUInt64 a0) >>> ((Int32.toInt64 (nI 1)).toUInt64 &&& Int64.toUInt64 63)).toInt64 &&& (6148914691236517205 : Int64))) &&& (3689348814741910323 : Int64)) + (((Int64.toUInt64 (a0 - (((Int64.toUInt64 a0) >>> ((Int32.toInt64 (nI 1)).toUInt64 &&& Int64.toUInt64 63)).toInt64 &&& (6148914691236517205 : Int64)))) >>> ((Int32.toInt64 (nI 2)).toUInt64 &&& Int64.toUInt64 63)).toInt64 &&& (3689348814741910323 : Int64))) + ((Int64.toUInt64 (((a0 - (((Int64.toUInt64 a0) >>> ((Int32.toInt64 (nI 1)).toUInt64 &&& Int64.toUInt64 63)).toInt64 &&& (6148914691236517205 : Int64))) &&& (3689348814741910323 : Int64)) + (((Int64.toUInt64 (a0 - (((Int64.toUInt64 a0) >>> ((Int32.toInt64 (nI 1)).toUInt64 &&& Int64.toUInt64 63)).toInt64 &&& (6148914691236517205 : Int64)))) >>> ((Int32.toInt64 (nI 2)).toUInt64 &&& Int64.toUInt64 63)).toInt64 &&& (3689348814741910323 : Int64)))) >>> ((Int32.toInt64 (nI 4)).toUInt64 &&& Int64.toUInt64 63)).toInt64) &&& (1085102592571150095 : Int64))) >>> ((Int32.toInt64 (nI 8)).toUInt64 &&& Int64.toUInt64 63)).toInt64) + ((Int64.toUInt64 ((((((a0 - (((Int64.toUInt64 a0) >>> ((Int32.toInt64 (nI 1)).toUInt64 &&& Int64.toUInt64 63)).toInt64 &&& (6148914691236517205 : Int64))) &&& (3689348814741910323 : Int64)) + (((Int64.toUInt64 (a0 - (((Int64.toUInt64 a0) >>> ((Int32.toInt64 (nI 1)).toUInt64 &&& Int64.toUInt64 63)).toInt64 &&& (6148914691236517205 : Int64)))) >>> ((Int32.toInt64 (nI 2)).toUInt64 &&& Int64.toUInt64 63)).toInt64 &&& (3689348814741910323 : Int64))) + ((Int64.toUInt64 (((a0 - (((Int64.toUInt64 a0) >>> ((Int32.toInt64 (nI 1)).toUInt64 &&& Int64.toUInt64 63)).toInt64 &&& (6148914691236517205 : Int64))) &&& (3689348814741910323 : Int64)) + (((Int64.toUInt64 (a0 - (((Int64.toUInt64 a0) >>> ((Int32.toInt64 (nI 1)).toUInt64 &&& Int64.toUInt64 63)).toInt64 &&& (6148914691236517205 : Int64)))) >>> ((Int32.toInt64 (nI 2)).toUInt64 &&& Int64.toUInt64 63)).toInt64 &&& (3689348814741910323 : Int64)))) >>> ((Int32.toInt64 (nI 4)).toUInt64 &&& Int64.toUInt64 63)).toInt64) &&& (1085102592571150095 : Int64)) + ((Int64.toUInt64 (((((a0 - (((Int64.toUInt64 a0) >>> ((Int32.toInt64 (nI 1)).toUInt64 &&& Int64.toUInt64 63)).toInt64 &&& (6148914691236517205 : Int64))) &&& (3689348814741910323 : Int64)) + (((Int64.toUInt64 (a0 - (((Int64.toUInt64 a0) >>> ((Int32.toInt64 (nI 1)).toUInt64 &&& Int64.toUInt64 63)).toInt64 &&& (6148914691236517205 : Int64)))) >>> ((Int32.toInt64 (nI 2)).toUInt64 &&& Int64.toUInt64 63)).toInt64 &&& (3689348814741910323 : Int64))) + ((Int64.toUInt64 (((a0 - (((Int64.toUInt64 a0) >>> ((Int32.toInt64 (nI 1)).toUInt64 &&& Int64.toUInt64 63)).toInt64 &&& (6148914691236517205 : Int64))) &&& (3689348814741910323 : Int64)) + (((Int64.toUInt64 (a0 - (((Int64.toUInt64 a0) >>> ((Int32.toInt64 (nI 1)).toUInt64 &&& Int64.toUInt64 63)).toInt64 &&& (6148914691236517205 : Int64)))) >>> ((Int32.toInt64 (nI 2)).toUInt64 &&& Int64.toUInt64 63)).toInt64 &&& (3689348814741910323 : Int64)))) >>> ((Int32.toInt64 (nI 4)).toUInt64 &&& Int64.toUInt64 63)).toInt64) &&& (1085102592571150095 : Int64))) >>> ((Int32.toInt64 (nI 8)).toUInt64 &&& Int64.toUInt64 63)).toInt64)) >>> ((Int32.toInt64 (nI 16)).toUInt64 &&& Int64.toUInt64 63)).toInt64) + ((Int64.toUInt64 (((((((a0 - (((Int64.toUInt64 a0) >>> ((Int32.toInt64 (nI 1)).toUInt64 &&& Int64.toUInt64 63)).toInt64 &&& (6148914691236517205 : Int64))) &&& (3689348814741910323 : Int64)) + (((Int64.toUInt64 (a0 - (((Int64.toUInt64 a0) >>> ((Int32.toInt64 (nI 1)).toUInt64 &&& Int64.toUInt64 63)).toInt64 &&& (6148914691236517205 : Int64)))) >>> ((Int32.toInt64 (nI 2)).toUInt64 &&& Int64.toUInt64 63)).toInt64 &&& (3689348814741910323 : Int64))) + ((Int64.toUInt64 (((a0 - (((Int64.toUInt64 a0) >>> ((Int32.toInt64 (nI 1)).toUInt64 &&& Int64.toUInt64 63)).toInt64 &&& (6148914691236517205 : Int64))) &&& (3689348814741910323 : Int64)) + (((Int64.toUInt64 (a0 - (((Int64.toUInt64 a0) >>> ((Int32.toInt64 (nI 1)).toUInt64 &&& Int64.toUInt64 63)).toInt64 &&& (6148914691236517205 : Int64)))) >>> ((Int32.toInt64 (nI 2)).toUInt64 &&& Int64.toUInt64 63)).toInt64 &&& (3689348814741910323 : Int64)))) >>> ((Int32.toInt64 (nI 4)).toUInt64 &&& Int64.toUInt64 63)).toInt64) &&& (1085102592571150095 : Int64)) + ((Int64.toUInt64 (((((a0 - (((Int64.toUInt64 a0) >>> ((Int32.toInt64 (nI 1)).toUInt64 &&& Int64.toUInt64 63)).toInt64 &&& (6148914691236517205 : Int64))) &&& (3689348814741910323 : Int64)) + (((Int64.toUInt64 (a0 - (((Int64.toUInt64 a0) >>> ((Int32.toInt64 (nI 1)).toUInt64 &&& Int64.toUInt64 63)).toInt64 &&& (6148914691236517205 : Int64)))) >>> ((Int32.toInt64 (nI 2)).toUInt64 &&& Int64.toUInt64 63)).toInt64 &&& (3689348814741910323 : Int64))) + ((Int64.toUInt64 (((a0 - (((Int64.toUInt64 a0) >>> ((Int32.toInt64 (nI 1)).toUInt64 &&& Int64.toUInt64 63)).toInt64 &&& (6148914691236517205 : Int64))) &&& (3689348814741910323 : Int64)) + (((Int64.toUInt64 (a0 - (((Int64.toUInt64 a0) >>> ((Int32.toInt64 (nI 1)).toUInt64 &&& Int64.toUInt64 63)).toInt64 &&& (6148914691236517205 : Int64)))) >>> ((Int32.toInt64 (nI 2)).toUInt64 &&& Int64.toUInt64 63)).toInt64 &&& (3689348814741910323 : Int64)))) >>> ((Int32.toInt64 (nI 4)).toUInt64 &&& Int64.toUInt64 63)).toInt64) &&& (1085102592571150095 : Int64))) >>> ((Int32.toInt64 (nI 8)).toUInt64 &&& Int64.toUInt64 63)).toInt64) + ((Int64.toUInt64 ((((((a0 - (((Int64.toUInt64 a0) >>> ((Int32.toInt64 (nI 1)).toUInt64 &&& Int64.toUInt64 63)).toInt64 &&& (6148914691236517205 : Int64))) &&& (3689348814741910323 : Int64)) + (((Int64.toUInt64 (a0 - (((Int64.toUInt64 a0) >>> ((Int32.toInt64 (nI 1)).toUInt64 &&& Int64.toUInt64 63)).toInt64 &&& (6148914691236517205 : Int64)))) >>> ((Int32.toInt64 (nI 2)).toUInt64 &&& Int64.toUInt64 63)).toInt64 &&& (3689348814741910323 : Int64))) + ((Int64.toUInt64 (((a0 - (((Int64.toUInt64 a0) >>> ((Int32.toInt64 (nI 1)).toUInt64 &&& Int64.toUInt64 63)).toInt64 &&& (6148914691236517205 : Int64))) &&& (3689348814741910323 : Int64)) + (((Int64.toUInt64 (a0 - (((Int64.toUInt64 a0) >>> ((Int32.toInt64 (nI 1)).toUInt64 &&& Int64.toUInt64 63)).toInt64 &&& (6148914691236517205 : Int64)))) >>> ((Int32.toInt64 (nI 2)).toUInt64 &&& Int64.toUInt64 63)).toInt64 &&& (3689348814741910323 : Int64)))) >>> ((Int32.toInt64 (nI 4)).toUInt64 &&& Int64.toUInt64 63)).toInt64) &&& (1085102592571150095 : Int64)) + ((Int64.toUInt64 (((((a0 - (((Int64.toUInt64 a0) >>> ((Int32.toInt64 (nI 1)).toUInt64 &&& Int64.toUInt64 63)).toInt64 &&& (6148914691236517205 : Int64))) &&& (3689348814741910323 : Int64)) + (((Int64.toUInt64 (a0 - (((Int64.toUInt64 a0) >>> ((Int32.toInt64 (nI 1)).toUInt64 &&& Int64.toUInt64 63)).toInt64 &&& (6148914691236517205 : Int64)))) >>> ((Int32.toInt64 (nI 2)).toUInt64 &&& Int64.toUInt64 63)).toInt64 &&& (3689348814741910323 : Int64))) + ((Int64.toUInt64 (((a0 - (((Int64.toUInt64 a0) >>> ((Int32.toInt64 (nI 1)).toUInt64 &&& Int64.toUInt64 63)).toInt64 &&& (6148914691236517205 : Int64))) &&& (3689348814741910323 : Int64)) + (((Int64.toUInt64 (a0 - (((Int64.toUInt64 a0) >>> ((Int32.toInt64 (nI 1)).toUInt64 &&& Int64.toUInt64 63)).toInt64 &&& (6148914691236517205 : Int64)))) >>> ((Int32.toInt64 (nI 2)).toUInt64 &&& Int64.toUInt64 63)).toInt64 &&& (3689348814741910323 : Int64)))) >>> ((Int32.toInt64 (nI 4)).toUInt64 &&& Int64.toUInt64 63)).toInt64) &&& (1085102592571150095 : Int64))) >>> ((Int32.toInt64 (nI 8)).toUInt64 &&& Int64.toUInt64 63)).toInt64)) >>> ((Int32.toInt64 (nI 16)).toUInt64 &&& Int64.toUInt64 63)).toInt64)) >>> ((Int32.toInt64 (nI 32)).toUInt64 &&& Int64.toUInt64 63)).toInt64))]) X dJ13_bitCount_95d88_54 rfl (by decide) rfl ?_
  refine V_lload_n X dJ13_bitCount_95d88_55 0 rfl rfl ?_
  refine V_l2i X dJ13_bitCount_95d88_56 ?_
  refine V_bipush (v := (nI 127)) X dJ13_bitCount_95d88_57 (by decide) ?_
  refine V_iand X dJ13_bitCount_95d88_59 ?_
  have h : ((Int64.toInt32 ((((((((a0 - (((Int64.toUInt64 a0) >>> ((Int32.toInt64 (nI 1)).toUInt64 &&& Int64.toUInt64 63)).toInt64 &&& (6148914691236517205 : Int64))) &&& (3689348814741910323 : Int64)) + (((Int64.toUInt64 (a0 - (((Int64.toUInt64 a0) >>> ((Int32.toInt64 (nI 1)).toUInt64 &&& Int64.toUInt64 63)).toInt64 &&& (6148914691236517205 : Int64)))) >>> ((Int32.toInt64 (nI 2)).toUInt64 &&& Int64.toUInt64 63)).toInt64 &&& (3689348814741910323 : Int64))) + ((Int64.toUInt64 (((a0 - (((Int64.toUInt64 a0) >>> ((Int32.toInt64 (nI 1)).toUInt64 &&& Int64.toUInt64 63)).toInt64 &&& (6148914691236517205 : Int64))) &&& (3689348814741910323 : Int64)) + (((Int64.toUInt64 (a0 - (((Int64.toUInt64 a0) >>> ((Int32.toInt64 (nI 1)).toUInt64 &&& Int64.toUInt64 63)).toInt64 &&& (6148914691236517205 : Int64)))) >>> ((Int32.toInt64 (nI 2)).toUInt64 &&& Int64.toUInt64 63)).toInt64 &&& (3689348814741910323 : Int64)))) >>> ((Int32.toInt64 (nI 4)).toUInt64 &&& Int64.toUInt64 63)).toInt64) &&& (1085102592571150095 : Int64)) + ((Int64.toUInt64 (((((a0 - (((Int64.toUInt64 a0) >>> ((Int32.toInt64 (nI 1)).toUInt64 &&& Int64.toUInt64 63)).toInt64 &&& (6148914691236517205 : Int64))) &&& (3689348814741910323 : Int64)) + (((Int64.toUInt64 (a0 - (((Int64.toUInt64 a0) >>> ((Int32.toInt64 (nI 1)).toUInt64 &&& Int64.toUInt64 63)).toInt64 &&& (6148914691236517205 : Int64)))) >>> ((Int32.toInt64 (nI 2)).toUInt64 &&& Int64.toUInt64 63)).toInt64 &&& (3689348814741910323 : Int64))) + ((Int64.toUInt64 (((a0 - (((Int64.toUInt64 a0) >>> ((Int32.toInt64 (nI 1)).toUInt64 &&& Int64.toUInt64 63)).toInt64 &&& (6148914691236517205 : Int64))) &&& (3689348814741910323 : Int64)) + (((Int64.toUInt64 (a0 - (((Int64.toUInt64 a0) >>> ((Int32.toInt64 (nI 1)).toUInt64 &&& Int64.toUInt64 63)).toInt64 &&& (6148914691236517205 : Int64)))) >>> ((Int32.toInt64 (nI 2)).toUInt64 &&& Int64.toUInt64 63)).toInt64 &&& (3689348814741910323 : Int64)))) >>> ((Int32.toInt64 (nI 4)).toUInt64 &&& Int64.toUInt64 63)).toInt64) &&& (1085102592571150095 : Int64))) >>> ((Int32.toInt64 (nI 8)).toUInt64 &&& Int64.toUInt64 63)).toInt64) + ((Int64.toUInt64 ((((((a0 - (((Int64.toUInt64 a0) >>> ((Int32.toInt64 (nI 1)).toUInt64 &&& Int64.toUInt64 63)).toInt64 &&& (6148914691236517205 : Int64))) &&& (3689348814741910323 : Int64)) + (((Int64.toUInt64 (a0 - (((Int64.toUInt64 a0) >>> ((Int32.toInt64 (nI 1)).toUInt64 &&& Int64.toUInt64 63)).toInt64 &&& (6148914691236517205 : Int64)))) >>> ((Int32.toInt64 (nI 2)).toUInt64 &&& Int64.toUInt64 63)).toInt64 &&& (3689348814741910323 : Int64))) + ((Int64.toUInt64 (((a0 - (((Int64.toUInt64 a0) >>> ((Int32.toInt64 (nI 1)).toUInt64 &&& Int64.toUInt64 63)).toInt64 &&& (6148914691236517205 : Int64))) &&& (3689348814741910323 : Int64)) + (((Int64.toUInt64 (a0 - (((Int64.toUInt64 a0) >>> ((Int32.toInt64 (nI 1)).toUInt64 &&& Int64.toUInt64 63)).toInt64 &&& (6148914691236517205 : Int64)))) >>> ((Int32.toInt64 (nI 2)).toUInt64 &&& Int64.toUInt64 63)).toInt64 &&& (3689348814741910323 : Int64)))) >>> ((Int32.toInt64 (nI 4)).toUInt64 &&& Int64.toUInt64 63)).toInt64) &&& (1085102592571150095 : Int64)) + ((Int64.toUInt64 (((((a0 - (((Int64.toUInt64 a0) >>> ((Int32.toInt64 (nI 1)).toUInt64 &&& Int64.toUInt64 63)).toInt64 &&& (6148914691236517205 : Int64))) &&& (3689348814741910323 : Int64)) + (((Int64.toUInt64 (a0 - (((Int64.toUInt64 a0) >>> ((Int32.toInt64 (nI 1)).toUInt64 &&& Int64.toUInt64 63)).toInt64 &&& (6148914691236517205 : Int64)))) >>> ((Int32.toInt64 (nI 2)).toUInt64 &&& Int64.toUInt64 63)).toInt64 &&& (3689348814741910323 : Int64))) + ((Int64.toUInt64 (((a0 - (((Int64.toUInt64 a0) >>> ((Int32.toInt64 (nI 1)).toUInt64 &&& Int64.toUInt64 63)).toInt64 &&& (6148914691236517205 : Int64))) &&& (3689348814741910323 : Int64)) + (((Int64.toUInt64 (a0 - (((Int64.toUInt64 a0) >>> ((Int32.toInt64 (nI 1)).toUInt64 &&& Int64.toUInt64 63)).toInt64 &&& (6148914691236517205 : Int64)))) >>> ((Int32.toInt64 (nI 2)).toUInt64 &&& Int64.toUInt64 63)).toInt64 &&& (3689348814741910323 : Int64)))) >>> ((Int32.toInt64 (nI 4)).toUInt64 &&& Int64.toUInt64 63)).toInt64) &&& (1085102592571150095 : Int64))) >>> ((Int32.toInt64 (nI 8)).toUInt64 &&& Int64.toUInt64 63)).toInt64)) >>> ((Int32.toInt64 (nI 16)).toUInt64 &&& Int64.toUInt64 63)).toInt64) + ((Int64.toUInt64 (((((((a0 - (((Int64.toUInt64 a0) >>> ((Int32.toInt64 (nI 1)).toUInt64 &&& Int64.toUInt64 63)).toInt64 &&& (6148914691236517205 : Int64))) &&& (3689348814741910323 : Int64)) + (((Int64.toUInt64 (a0 - (((Int64.toUInt64 a0) >>> ((Int32.toInt64 (nI 1)).toUInt64 &&& Int64.toUInt64 63)).toInt64 &&& (6148914691236517205 : Int64)))) >>> ((Int32.toInt64 (nI 2)).toUInt64 &&& Int64.toUInt64 63)).toInt64 &&& (3689348814741910323 : Int64))) + ((Int64.toUInt64 (((a0 - (((Int64.toUInt64 a0) >>> ((Int32.toInt64 (nI 1)).toUInt64 &&& Int64.toUInt64 63)).toInt64 &&& (6148914691236517205 : Int64))) &&& (3689348814741910323 : Int64)) + (((Int64.toUInt64 (a0 - (((Int64.toUInt64 a0) >>> ((Int32.toInt64 (nI 1)).toUInt64 &&& Int64.toUInt64 63)).toInt64 &&& (6148914691236517205 : Int64)))) >>> ((Int32.toInt64 (nI 2)).toUInt64 &&& Int64.toUInt64 63)).toInt64 &&& (3689348814741910323 : Int64)))) >>> ((Int32.toInt64 (nI 4)).toUInt64 &&& Int64.toUInt64 63)).toInt64) &&& (1085102592571150095 : Int64)) + ((Int64.toUInt64 (((((a0 - (((Int64.toUInt64 a0) >>> ((Int32.toInt64 (nI 1)).toUInt64 &&& Int64.toUInt64 63)).toInt64 &&& (6148914691236517205 : Int64))) &&& (3689348814741910323 : Int64)) + (((Int64.toUInt64 (a0 - (((Int64.toUInt64 a0) >>> ((Int32.toInt64 (nI 1)).toUInt64 &&& Int64.toUInt64 63)).toInt64 &&& (6148914691236517205 : Int64)))) >>> ((Int32.toInt64 (nI 2)).toUInt64 &&& Int64.toUInt64 63)).toInt64 &&& (3689348814741910323 : Int64))) + ((Int64.toUInt64 (((a0 - (((Int64.toUInt64 a0) >>> ((Int32.toInt64 (nI 1)).toUInt64 &&& Int64.toUInt64 63)).toInt64 &&& (6148914691236517205 : Int64))) &&& (3689348814741910323 : Int64)) + (((Int64.toUInt64 (a0 - (((Int64.toUInt64 a0) >>> ((Int32.toInt64 (nI 1)).toUInt64 &&& Int64.toUInt64 63)).toInt64 &&& (6148914691236517205 : Int64)))) >>> ((Int32.toInt64 (nI 2)).toUInt64 &&& Int64.toUInt64 63)).toInt64 &&& (3689348814741910323 : Int64)))) >>> ((Int32.toInt64 (nI 4)).toUInt64 &&& Int64.toUInt64 63)).toInt64) &&& (1085102592571150095 : Int64))) >>> ((Int32.toInt64 (nI 8)).toUInt64 &&& Int64.toUInt64 63)).toInt64) + ((Int64.toUInt64 ((((((a0 - (((Int64.toUInt64 a0) >>> ((Int32.toInt64 (nI 1)).toUInt64 &&& Int64.toUInt64 63)).toInt64 &&& (6148914691236517205 : Int64))) &&& (3689348814741910323 : Int64)) + (((Int64.toUInt64 (a0 - (((Int64.toUInt64 a0) >>> ((Int32.toInt64 (nI 1)).toUInt64 &&& Int64.toUInt64 63)).toInt64 &&& (6148914691236517205 : Int64)))) >>> ((Int32.toInt64 (nI 2)).toUInt64 &&& Int64.toUInt64 63)).toInt64 &&& (3689348814741910323 : Int64))) + ((Int64.toUInt64 (((a0 - (((Int64.toUInt64 a0) >>> ((Int32.toInt64 (nI 1)).toUInt64 &&& Int64.toUInt64 63)).toInt64 &&& (6148914691236517205 : Int64))) &&& (3689348814741910323 : Int64)) + (((Int64.toUInt64 (a0 - (((Int64.toUInt64 a0) >>> ((Int32.toInt64 (nI 1)).toUInt64 &&& Int64.toUInt64 63)).toInt64 &&& (6148914691236517205 : Int64)))) >>> ((Int32.toInt64 (nI 2)).toUInt64 &&& Int64.toUInt64 63)).toInt64 &&& (3689348814741910323 : Int64)))) >>> ((Int32.toInt64 (nI 4)).toUInt64 &&& Int64.toUInt64 63)).toInt64) &&& (1085102592571150095 : Int64)) + ((Int64.toUInt64 (((((a0 - (((Int64.toUInt64 a0) >>> ((Int32.toInt64 (nI 1)).toUInt64 &&& Int64.toUInt64 63)).toInt64 &&& (6148914691236517205 : Int64))) &&& (3689348814741910323 : Int64)) + (((Int64.toUInt64 (a0 - (((Int64.toUInt64 a0) >>> ((Int32.toInt64 (nI 1)).toUInt64 &&& Int64.toUInt64 63)).toInt64 &&& (6148914691236517205 : Int64)))) >>> ((Int32.toInt64 (nI 2)).toUInt64 &&& Int64.toUInt64 63)).toInt64 &&& (3689348814741910323 : Int64))) + ((Int64.toUInt64 (((a0 - (((Int64.toUInt64 a0) >>> ((Int32.toInt64 (nI 1)).toUInt64 &&& Int64.toUInt64 63)).toInt64 &&& (6148914691236517205 : Int64))) &&& (3689348814741910323 : Int64)) + (((Int64.toUInt64 (a0 - (((Int64.toUInt64 a0) >>> ((Int32.toInt64 (nI 1)).toUInt64 &&& Int64.toUInt64 63)).toInt64 &&& (6148914691236517205 : Int64)))) >>> ((Int32.toInt64 (nI 2)).toUInt64 &&& Int64.toUInt64 63)).toInt64 &&& (3689348814741910323 : Int64)))) >>> ((Int32.toInt64 (nI 4)).toUInt64 &&& Int64.toUInt64 63)).toInt64) &&& (1085102592571150095 : Int64))) >>> ((Int32.toInt64 (nI 8)).toUInt64 &&& Int64.toUInt64 63)).toInt64)) >>> ((Int32.toInt64 (nI 16)).toUInt64 &&& Int64.toUInt64 63)).toInt64)) >>> ((Int32.toInt64 (nI 32)).toUInt64 &&& Int64.toUInt64 63)).toInt64)) &&& (nI 127)) = rv := h
  exact R_i X hr hlk h rfl dJ13_bitCount_95d88_60
def rm_X1_ones : Room := { frames := 4, cells := 0, slots := 0, locals := 91 }
def f_X1_ones (F : Nat) (a1 : Int32) (a2 : Int32) (a3 : Int32) (M : Mm) : Option (Int32) :=
  (f_X1_packed F a1 a2 a3 M).bind fun r1 => (f_J13_bitCount_95d88 r1).bind fun r3 => some r3
set_option maxRecDepth 100000 in
set_option maxHeartbeats 4000000 in
theorem k_X1_ones (l : Launch) (D : va_G) (cy : Nat → ClassId) (q : Nat → Nat) (F : Nat) (a1 : Int32) (a2 : Int32) (a3 : Int32) (M : Mm) (rv : Int32) (h0 : f_X1_ones F a1 a2 a3 M = some rv) : KI l yX1_ones (Cond.code yX1_ones cX1_ones 4 (Option.some FieldType.int) :: gw) rm_X1_ones D cy q [.ref (q 15), .int a1, .int a2, .int a3] M rv M := by
  refine KI.mk (L0 := [(0, .ref (q 15)), (1, .int a1), (2, .int a2), (3, .int a3)]) (by decide +kernel) rfl (Nat.le_of_ble_eq_true rfl) rfl rfl rfl ?_
  intro p e s m below meth c X0 hr hlk
  have X := Fx.gw (own := RX1) X0
  clear X0
  have h : Ok (f_X1_ones F a1 a2 a3 M) (fun r => r = rv) := Ok.of h0 rfl
  clear h0
  delta f_X1_ones at h
  refine V_aload_n X dX1_ones_0 0 rfl rfl ?_
  refine V_iload_n X dX1_ones_1 1 rfl rfl ?_
  refine V_iload_n X dX1_ones_2 2 rfl rfl ?_
  refine V_iload_n X dX1_ones_3 3 rfl rfl ?_
  obtain ⟨r1, e2, h⟩ := (Ok.bind h).ex
  refine C_Vl (As := [.int a1, .int a2, .int a3]) (M' := M) (k0 := 15) X rfl rfl (cwV 3 X.1.2.2.2.2 (gw_V wML_X1_54 wIM_X1_packed wSE_X1_packed wIN_X1 (gw_c wCD_X1_packed)) rfl rfl rfl (by decide +kernel) ⟨Nat.le_of_ble_eq_true rfl, Nat.le_of_ble_eq_true rfl⟩) rfl rfl (Nat.le_of_ble_eq_true rfl) ⟨Nat.zero_le _, Nat.zero_le _⟩ (k_X1_packed l D cy q F a1 a2 a3 M r1 e2) dX1_ones_4 ?_
  obtain ⟨r3, e4, h⟩ := (Ok.bind h).ex
  refine C_Si (As := [.long r1]) (M' := M) X (va_cwS 1 X.1.2.2.2.2 (gw_S wML_X1_58 wST_J13_bitCount_95d88 wIN_J13 (gw_c wCD_J13_bitCount_95d88)) rfl rfl rfl (by decide +kernel) ⟨Nat.le_of_ble_eq_true rfl, Nat.le_of_ble_eq_true rfl⟩) rfl rfl (Nat.le_of_ble_eq_true rfl) ⟨Nat.zero_le _, Nat.zero_le _⟩ (k_J13_bitCount_95d88 l D cy q r1 M r3 e4) dX1_ones_7 ?_
  have h : r3 = rv := h
  exact R_i X hr hlk h rfl dX1_ones_10
def rm_X6_blockOf : Room := { frames := 5, cells := 0, slots := 0, locals := 114 }
def f_X6_blockOf (F : Nat) (a1 : Int32) (a2 : Int32) (a3 : Int32) (M : Mm) : Option (Int32 × Mm) :=
  (f_X6_hasBits a1).bind fun r1 => if r1 = 0 then (some ((-1000001 : Int32), M)) else (if a2 < 0 then (some ((-1000001 : Int32), M)) else ((f_X6_isAtMost a3 (nI 2)).bind fun r3 => if r3 = 0 then (some ((-1000001 : Int32), M)) else ((f_X6_blocks M).bind fun r5 => if a2 < r5 then ((f_X1_build F 1 M).bind fun r7 => (f_X3_size 1 r7).bind fun r9 => if a3 = 0 then ((f_X1_packed F a1 (a2 * (nI 8)) (if r9 < ((a2 * (nI 8)) + (nI 8)) then r9 else ((a2 * (nI 8)) + (nI 8))) r7).bind fun r15 => some ((Int64.toInt32 r15), r7)) else (if a3 = (nI 1) then ((f_X1_ones F a1 (a2 * (nI 8)) (if r9 < ((a2 * (nI 8)) + (nI 8)) then r9 else ((a2 * (nI 8)) + (nI 8))) r7).bind fun r13 => some (r13, r7)) else ((f_X1_ones F a1 (nI 0) (a2 * (nI 8)) r7).bind fun r11 => some (r11, r7)))) else (some ((-1000004 : Int32), M)))))
set_option maxRecDepth 100000 in
set_option maxHeartbeats 4000000 in
theorem k_X6_blockOf (l : Launch) (D : va_G) (cy : Nat → ClassId) (q : Nat → Nat) (F : Nat) (a1 : Int32) (a2 : Int32) (a3 : Int32) (M : Mm) (rv : Int32) (M' : Mm) (h0 : f_X6_blockOf F a1 a2 a3 M = some (rv, M')) : KI l yX6_blockOf (Cond.code yX6_blockOf cX6_blockOf 6 (Option.some FieldType.int) :: gw) rm_X6_blockOf D cy q [.ref (q 0), .int a1, .int a2, .int a3] M rv M' := by
  refine KI.mk (L0 := [(0, .ref (q 0)), (1, .int a1), (2, .int a2), (3, .int a3)]) (by decide +kernel) rfl (Nat.le_of_ble_eq_true rfl) rfl rfl rfl ?_
  intro p e s m below meth c X0 hr hlk
  have X := Fx.gw (own := RX6) X0
  clear X0
  have h : Ok (f_X6_blockOf F a1 a2 a3 M) (fun r => r = (rv, M')) := Ok.of h0 rfl
  clear h0
  delta f_X6_blockOf at h
  refine V_iload_n X dX6_blockOf_0 1 rfl rfl ?_
  obtain ⟨r1, e2, h⟩ := (Ok.bind h).ex
  refine C_Si (As := [.int a1]) (M' := M) X (va_cwS 1 X.1.2.2.2.2 (gw_S wML_X6_124 wST_X6_hasBits wIN_X6 (gw_c wCD_X6_hasBits)) rfl rfl rfl (by decide +kernel) ⟨Nat.le_of_ble_eq_true rfl, Nat.le_of_ble_eq_true rfl⟩) rfl rfl (Nat.le_of_ble_eq_true rfl) ⟨Nat.zero_le _, Nat.zero_le _⟩ (k_X6_hasBits l D cy q a1 M r1 e2) dX6_blockOf_1 ?_
  refine B_if_eq X 19 dX6_blockOf_4 (by decide) h (fun h => ?_) (fun h => ?_)
  · refine V_ldc X wKI_X6_66 dX6_blockOf_19 ?_
    have h : ((-1000001 : Int32), M) = (rv, M') := h
    exact R_i X hr hlk (congrArg Prod.fst h) (congrArg Prod.snd h) dX6_blockOf_21
  · refine V_iload_n X dX6_blockOf_7 2 rfl rfl ?_
    refine B_if_lt X 19 dX6_blockOf_8 (by decide) h (fun h => ?_) (fun h => ?_)
    · refine V_ldc X wKI_X6_66 dX6_blockOf_19 ?_
      have h : ((-1000001 : Int32), M) = (rv, M') := h
      exact R_i X hr hlk (congrArg Prod.fst h) (congrArg Prod.snd h) dX6_blockOf_21
    · refine V_iload_n X dX6_blockOf_11 3 rfl rfl ?_
      refine V_iconst (v := (nI 2)) X dX6_blockOf_12 (by decide) ?_
      obtain ⟨r3, e4, h⟩ := (Ok.bind h).ex
      refine C_Si (As := [.int a3, .int (nI 2)]) (M' := M) X (va_cwS 2 X.1.2.2.2.2 (gw_S wML_X6_58 wST_X6_isAtMost wIN_X6 (gw_c wCD_X6_isAtMost)) rfl rfl rfl (by decide +kernel) ⟨Nat.le_of_ble_eq_true rfl, Nat.le_of_ble_eq_true rfl⟩) rfl rfl (Nat.le_of_ble_eq_true rfl) ⟨Nat.zero_le _, Nat.zero_le _⟩ (k_X6_isAtMost l D cy q a3 (nI 2) M r3 e4) dX6_blockOf_13 ?_
      refine B_if_ne X 22 dX6_blockOf_16 (by decide) h (fun h => ?_) (fun h => ?_)
      · refine V_iload_n X dX6_blockOf_22 2 rfl rfl ?_
        refine V_aload_n X dX6_blockOf_23 0 rfl rfl ?_
        obtain ⟨r5, e6, h⟩ := (Ok.bind h).ex
        refine C_Vi (As := []) (M' := M) (k0 := 0) X rfl rfl (cwV 0 X.1.2.2.2.2 (gw_V wML_X6_127 wIM_X6_blocks wSE_X6_blocks wIN_X6 (gw_c wCD_X6_blocks)) rfl rfl rfl (by decide +kernel) ⟨Nat.le_of_ble_eq_true rfl, Nat.le_of_ble_eq_true rfl⟩) rfl rfl (Nat.le_of_ble_eq_true rfl) ⟨Nat.zero_le _, Nat.zero_le _⟩ (k_X6_blocks l D cy q M r5 e6) dX6_blockOf_24 ?_
        refine B_icmp_lt X 33 dX6_blockOf_27 (by decide) h (fun h => ?_) (fun h => ?_)
        · refine V_aload_n X dX6_blockOf_33 0 rfl rfl ?_
          refine G_6_2 X inX6 wFL_X6_26 dX6_blockOf_34 ?_
          refine V_aload_n X dX6_blockOf_37 0 rfl rfl ?_
          refine G_6_0 X inX6 wFL_X6_10 dX6_blockOf_38 ?_
          obtain ⟨r7, e8, h⟩ := (Ok.bind h).ex
          refine C_Vv (As := [.ref (q 1)]) (M' := r7) (k0 := 15) X rfl rfl (cwV 1 X.1.2.2.2.2 (gw_V wML_X6_109 wIM_X1_build wSE_X1_build wIN_X1 (gw_c wCD_X1_build)) rfl rfl rfl (by decide +kernel) ⟨Nat.le_of_ble_eq_true rfl, Nat.le_of_ble_eq_true rfl⟩) rfl rfl (Nat.le_of_ble_eq_true rfl) ⟨Nat.zero_le _, Nat.zero_le _⟩ (k_X1_build l D cy q F 1 row_1 M r7 e8) dX6_blockOf_41 ?_
          refine V_iload_n X dX6_blockOf_44 2 rfl rfl ?_
          refine V_bipush (v := (nI 8)) X dX6_blockOf_45 (by decide) ?_
          refine V_imul X dX6_blockOf_47 ?_
          refine V_istore (L' := [(4, .int (a2 * (nI 8))), (0, .ref (q 0)), (1, .int a1), (2, .int a2), (3, .int a3)]) X dX6_blockOf_48 (by decide) rfl ?_
          refine V_iload X dX6_blockOf_50 0 rfl ?_
          refine V_bipush (v := (nI 8)) X dX6_blockOf_52 (by decide) ?_
          refine V_iadd X dX6_blockOf_54 ?_
          refine V_aload_n X dX6_blockOf_55 1 rfl rfl ?_
          refine G_6_0 X inX6 wFL_X6_10 dX6_blockOf_56 ?_
          obtain ⟨r9, e10, h⟩ := (Ok.bind h).ex
          refine C_Vi (As := []) (M' := r7) (k0 := 1) X (wd_row row_1) rfl (cwV 0 X.1.2.2.2.2 (gw_V wML_X6_54 wIM_X3_size wSE_X3_size wIN_X3 (gw_c wCD_X3_size)) rfl rfl rfl (by decide +kernel) ⟨Nat.le_of_ble_eq_true rfl, Nat.le_of_ble_eq_true rfl⟩) rfl rfl (Nat.le_of_ble_eq_true rfl) ⟨Nat.zero_le _, Nat.zero_le _⟩ (k_X3_size l D cy q 1 row_1 r7 r9 e10) dX6_blockOf_59 ?_
          refine C_min X wML_X6_130 wST_J9_min_7cf53 wIN_J9 wCD_J9_min_7cf53 (Nat.le_of_ble_eq_true rfl) (Nat.le_of_ble_eq_true rfl) ⟨Nat.zero_le _, Nat.zero_le _⟩ dX6_blockOf_62 ?_
          refine V_istore (L' := [(5, .int (if r9 < ((a2 * (nI 8)) + (nI 8)) then r9 else ((a2 * (nI 8)) + (nI 8)))), (4, .int (a2 * (nI 8))), (0, .ref (q 0)), (1, .int a1), (2, .int a2), (3, .int a3)]) X dX6_blockOf_65 (by decide) rfl ?_
          refine V_iload_n X dX6_blockOf_67 5 rfl rfl ?_
          refine B_if_ne X 85 dX6_blockOf_68 (by decide) h (fun h => ?_) (fun h => ?_)
          · refine V_iload_n X dX6_blockOf_85 5 rfl rfl ?_
            refine V_iconst (v := (nI 1)) X dX6_blockOf_86 (by decide) ?_
            refine B_icmp_ne X 105 dX6_blockOf_87 (by decide) h (fun h => ?_) (fun h => ?_)
            · refine V_aload_n X dX6_blockOf_105 2 rfl rfl ?_
              refine G_6_2 X inX6 wFL_X6_26 dX6_blockOf_106 ?_
              refine V_iload_n X dX6_blockOf_109 3 rfl rfl ?_
              refine V_iconst (v := (nI 0)) X dX6_blockOf_110 (by decide) ?_
              refine V_iload X dX6_blockOf_111 1 rfl ?_
              obtain ⟨r11, e12, h⟩ := (Ok.bind h).ex
              refine C_Vi (As := [.int a1, .int (nI 0), .int (a2 * (nI 8))]) (M' := r7) (k0 := 15) X rfl rfl (cwV 3 X.1.2.2.2.2 (gw_V wML_X6_139 wIM_X1_ones wSE_X1_ones wIN_X1 (gw_c wCD_X1_ones)) rfl rfl rfl (by decide +kernel) ⟨Nat.le_of_ble_eq_true rfl, Nat.le_of_ble_eq_true rfl⟩) rfl rfl (Nat.le_of_ble_eq_true rfl) ⟨Nat.zero_le _, Nat.zero_le _⟩ (k_X1_ones l D cy q F a1 (nI 0) (a2 * (nI 8)) r7 r11 e12) dX6_blockOf_113 ?_
              have h : (r11, r7) = (rv, M') := h
              exact R_i X hr hlk (congrArg Prod.fst h) (congrArg Prod.snd h) dX6_blockOf_116
            · refine V_aload_n X dX6_blockOf_90 2 rfl rfl ?_
              refine G_6_2 X inX6 wFL_X6_26 dX6_blockOf_91 ?_
              refine V_iload_n X dX6_blockOf_94 3 rfl rfl ?_
              refine V_iload X dX6_blockOf_95 1 rfl ?_
              refine V_iload X dX6_blockOf_97 0 rfl ?_
              obtain ⟨r13, e14, h⟩ := (Ok.bind h).ex
              refine C_Vi (As := [.int a1, .int (a2 * (nI 8)), .int (if r9 < ((a2 * (nI 8)) + (nI 8)) then r9 else ((a2 * (nI 8)) + (nI 8)))]) (M' := r7) (k0 := 15) X rfl rfl (cwV 3 X.1.2.2.2.2 (gw_V wML_X6_139 wIM_X1_ones wSE_X1_ones wIN_X1 (gw_c wCD_X1_ones)) rfl rfl rfl (by decide +kernel) ⟨Nat.le_of_ble_eq_true rfl, Nat.le_of_ble_eq_true rfl⟩) rfl rfl (Nat.le_of_ble_eq_true rfl) ⟨Nat.zero_le _, Nat.zero_le _⟩ (k_X1_ones l D cy q F a1 (a2 * (nI 8)) (if r9 < ((a2 * (nI 8)) + (nI 8)) then r9 else ((a2 * (nI 8)) + (nI 8))) r7 r13 e14) dX6_blockOf_99 ?_
              refine V_goto X 116 dX6_blockOf_102 (by decide) ?_
              have h : (r13, r7) = (rv, M') := h
              exact R_i X hr hlk (congrArg Prod.fst h) (congrArg Prod.snd h) dX6_blockOf_116
          · refine V_aload_n X dX6_blockOf_71 2 rfl rfl ?_
            refine G_6_2 X inX6 wFL_X6_26 dX6_blockOf_72 ?_
            refine V_iload_n X dX6_blockOf_75 3 rfl rfl ?_
            refine V_iload X dX6_blockOf_76 1 rfl ?_
            refine V_iload X dX6_blockOf_78 0 rfl ?_
            obtain ⟨r15, e16, h⟩ := (Ok.bind h).ex
            refine C_Vl (As := [.int a1, .int (a2 * (nI 8)), .int (if r9 < ((a2 * (nI 8)) + (nI 8)) then r9 else ((a2 * (nI 8)) + (nI 8)))]) (M' := r7) (k0 := 15) X rfl rfl (cwV 3 X.1.2.2.2.2 (gw_V wML_X6_135 wIM_X1_packed wSE_X1_packed wIN_X1 (gw_c wCD_X1_packed)) rfl rfl rfl (by decide +kernel) ⟨Nat.le_of_ble_eq_true rfl, Nat.le_of_ble_eq_true rfl⟩) rfl rfl (Nat.le_of_ble_eq_true rfl) ⟨Nat.zero_le _, Nat.zero_le _⟩ (k_X1_packed l D cy q F a1 (a2 * (nI 8)) (if r9 < ((a2 * (nI 8)) + (nI 8)) then r9 else ((a2 * (nI 8)) + (nI 8))) r7 r15 e16) dX6_blockOf_80 ?_
            refine V_l2i X dX6_blockOf_83 ?_
            have h : ((Int64.toInt32 r15), r7) = (rv, M') := h
            exact R_i X hr hlk (congrArg Prod.fst h) (congrArg Prod.snd h) dX6_blockOf_84
        · refine V_ldc X wKI_X6_108 dX6_blockOf_30 ?_
          have h : ((-1000004 : Int32), M) = (rv, M') := h
          exact R_i X hr hlk (congrArg Prod.fst h) (congrArg Prod.snd h) dX6_blockOf_32
      · refine V_ldc X wKI_X6_66 dX6_blockOf_19 ?_
        have h : ((-1000001 : Int32), M) = (rv, M') := h
        exact R_i X hr hlk (congrArg Prod.fst h) (congrArg Prod.snd h) dX6_blockOf_21
def rm_X6_bits : Room := { frames := 5, cells := 0, slots := 0, locals := 113 }
def f_X6_bits (F : Nat) (a1 : Int32) (M : Mm) : Option (Int64 × Mm) :=
  (f_X6_hasBits a1).bind fun r1 => if r1 = 0 then (some ((-1000001 : Int64), M)) else ((f_X1_build F 1 M).bind fun r3 => (f_X3_size 1 r3).bind fun r5 => (f_X1_packed F a1 (nI 0) r5 r3).bind fun r7 => some (r7, r3))
set_option maxRecDepth 100000 in
set_option maxHeartbeats 4000000 in
theorem k_X6_bits (l : Launch) (D : va_G) (cy : Nat → ClassId) (q : Nat → Nat) (F : Nat) (a1 : Int32) (M : Mm) (rv : Int64) (M' : Mm) (h0 : f_X6_bits F a1 M = some (rv, M')) : KL l yX6_bits (Cond.code yX6_bits cX6_bits 2 (Option.some FieldType.long) :: gw) rm_X6_bits D cy q [.ref (q 0), .int a1] M rv M' := by
  refine KL.mk (L0 := [(0, .ref (q 0)), (1, .int a1)]) (by decide +kernel) rfl (Nat.le_of_ble_eq_true rfl) rfl rfl rfl ?_
  intro p e s m below meth c X0 hr hlk
  have X := Fx.gw (own := RX6) X0
  clear X0
  have h : Ok (f_X6_bits F a1 M) (fun r => r = (rv, M')) := Ok.of h0 rfl
  clear h0
  delta f_X6_bits at h
  refine V_iload_n X dX6_bits_0 1 rfl rfl ?_
  obtain ⟨r1, e2, h⟩ := (Ok.bind h).ex
  refine C_Si (As := [.int a1]) (M' := M) X (va_cwS 1 X.1.2.2.2.2 (gw_S wML_X6_124 wST_X6_hasBits wIN_X6 (gw_c wCD_X6_hasBits)) rfl rfl rfl (by decide +kernel) ⟨Nat.le_of_ble_eq_true rfl, Nat.le_of_ble_eq_true rfl⟩) rfl rfl (Nat.le_of_ble_eq_true rfl) ⟨Nat.zero_le _, Nat.zero_le _⟩ (k_X6_hasBits l D cy q a1 M r1 e2) dX6_bits_1 ?_
  refine B_if_ne X 11 dX6_bits_4 (by decide) h (fun h => ?_) (fun h => ?_)
  · refine V_aload_n X dX6_bits_11 0 rfl rfl ?_
    refine G_6_2 X inX6 wFL_X6_26 dX6_bits_12 ?_
    refine V_aload_n X dX6_bits_15 0 rfl rfl ?_
    refine G_6_0 X inX6 wFL_X6_10 dX6_bits_16 ?_
    obtain ⟨r3, e4, h⟩ := (Ok.bind h).ex
    refine C_Vv (As := [.ref (q 1)]) (M' := r3) (k0 := 15) X rfl rfl (cwV 1 X.1.2.2.2.2 (gw_V wML_X6_109 wIM_X1_build wSE_X1_build wIN_X1 (gw_c wCD_X1_build)) rfl rfl rfl (by decide +kernel) ⟨Nat.le_of_ble_eq_true rfl, Nat.le_of_ble_eq_true rfl⟩) rfl rfl (Nat.le_of_ble_eq_true rfl) ⟨Nat.zero_le _, Nat.zero_le _⟩ (k_X1_build l D cy q F 1 row_1 M r3 e4) dX6_bits_19 ?_
    refine V_aload_n X dX6_bits_22 0 rfl rfl ?_
    refine G_6_2 X inX6 wFL_X6_26 dX6_bits_23 ?_
    refine V_iload_n X dX6_bits_26 1 rfl rfl ?_
    refine V_iconst (v := (nI 0)) X dX6_bits_27 (by decide) ?_
    refine V_aload_n X dX6_bits_28 0 rfl rfl ?_
    refine G_6_0 X inX6 wFL_X6_10 dX6_bits_29 ?_
    obtain ⟨r5, e6, h⟩ := (Ok.bind h).ex
    refine C_Vi (As := []) (M' := r3) (k0 := 1) X (wd_row row_1) rfl (cwV 0 X.1.2.2.2.2 (gw_V wML_X6_54 wIM_X3_size wSE_X3_size wIN_X3 (gw_c wCD_X3_size)) rfl rfl rfl (by decide +kernel) ⟨Nat.le_of_ble_eq_true rfl, Nat.le_of_ble_eq_true rfl⟩) rfl rfl (Nat.le_of_ble_eq_true rfl) ⟨Nat.zero_le _, Nat.zero_le _⟩ (k_X3_size l D cy q 1 row_1 r3 r5 e6) dX6_bits_32 ?_
    obtain ⟨r7, e8, h⟩ := (Ok.bind h).ex
    refine C_Vl (As := [.int a1, .int (nI 0), .int r5]) (M' := r3) (k0 := 15) X rfl rfl (cwV 3 X.1.2.2.2.2 (gw_V wML_X6_135 wIM_X1_packed wSE_X1_packed wIN_X1 (gw_c wCD_X1_packed)) rfl rfl rfl (by decide +kernel) ⟨Nat.le_of_ble_eq_true rfl, Nat.le_of_ble_eq_true rfl⟩) rfl rfl (Nat.le_of_ble_eq_true rfl) ⟨Nat.zero_le _, Nat.zero_le _⟩ (k_X1_packed l D cy q F a1 (nI 0) r5 r3 r7 e8) dX6_bits_35 ?_
    have h : (r7, r3) = (rv, M') := h
    exact R_l X hr hlk (congrArg Prod.fst h) (congrArg Prod.snd h) dX6_bits_38
  · refine V_ldc2 X wKL_X6_143 dX6_bits_7 ?_
    have h : ((-1000001 : Int64), M) = (rv, M') := h
    exact R_l X hr hlk (congrArg Prod.fst h) (congrArg Prod.snd h) dX6_bits_10
def rm_X6_symbolAt : Room := { frames := 2, cells := 0, slots := 0, locals := 42 }
def f_X6_symbolAt (a1 : Int32) (M : Mm) : Option (Int32) :=
  if 0 ≤ a1 then ((f_X3_hasPlace 1 a1 M).bind fun r1 => if r1 = 0 then (some (-1000004 : Int32)) else ((f_X3_at 1 a1 M).bind fun r3 => some r3)) else (some (-1000001 : Int32))
set_option maxRecDepth 100000 in
set_option maxHeartbeats 4000000 in
theorem k_X6_symbolAt (l : Launch) (D : va_G) (cy : Nat → ClassId) (q : Nat → Nat) (a1 : Int32) (M : Mm) (rv : Int32) (h0 : f_X6_symbolAt a1 M = some rv) : KI l yX6_symbolAt (Cond.code yX6_symbolAt cX6_symbolAt 2 (Option.some FieldType.int) :: gw) rm_X6_symbolAt D cy q [.ref (q 0), .int a1] M rv M := by
  refine KI.mk (L0 := [(0, .ref (q 0)), (1, .int a1)]) (by decide +kernel) rfl (Nat.le_of_ble_eq_true rfl) rfl rfl rfl ?_
  intro p e s m below meth c X0 hr hlk
  have X := Fx.gw (own := RX6) X0
  clear X0
  have h : Ok (f_X6_symbolAt a1 M) (fun r => r = rv) := Ok.of h0 rfl
  clear h0
  delta f_X6_symbolAt at h
  refine V_iload_n X dX6_symbolAt_0 1 rfl rfl ?_
  refine B_if_ge X 7 dX6_symbolAt_1 (by decide) h (fun h => ?_) (fun h => ?_)
  · refine V_aload_n X dX6_symbolAt_7 0 rfl rfl ?_
    refine G_6_0 X inX6 wFL_X6_10 dX6_symbolAt_8 ?_
    refine V_iload_n X dX6_symbolAt_11 1 rfl rfl ?_
    obtain ⟨r1, e2, h⟩ := (Ok.bind h).ex
    refine C_Vi (As := [.int a1]) (M' := M) (k0 := 1) X (wd_row row_1) rfl (cwV 1 X.1.2.2.2.2 (gw_V wML_X6_76 wIM_X3_hasPlace wSE_X3_hasPlace wIN_X3 (gw_c wCD_X3_hasPlace)) rfl rfl rfl (by decide +kernel) ⟨Nat.le_of_ble_eq_true rfl, Nat.le_of_ble_eq_true rfl⟩) rfl rfl (Nat.le_of_ble_eq_true rfl) ⟨Nat.zero_le _, Nat.zero_le _⟩ (k_X3_hasPlace l D cy q 1 row_1 a1 M r1 e2) dX6_symbolAt_12 ?_
    refine B_if_eq X 29 dX6_symbolAt_15 (by decide) h (fun h => ?_) (fun h => ?_)
    · refine V_ldc X wKI_X6_108 dX6_symbolAt_29 ?_
      have h : (-1000004 : Int32) = rv := h
      exact R_i X hr hlk h rfl dX6_symbolAt_31
    · refine V_aload_n X dX6_symbolAt_18 0 rfl rfl ?_
      refine G_6_0 X inX6 wFL_X6_10 dX6_symbolAt_19 ?_
      refine V_iload_n X dX6_symbolAt_22 1 rfl rfl ?_
      obtain ⟨r3, e4, h⟩ := (Ok.bind h).ex
      refine C_Vi (As := [.int a1]) (M' := M) (k0 := 1) X (wd_row row_1) rfl (cwV 1 X.1.2.2.2.2 (gw_V wML_X6_79 wIM_X3_at wSE_X3_at wIN_X3 (gw_c wCD_X3_at)) rfl rfl rfl (by decide +kernel) ⟨Nat.le_of_ble_eq_true rfl, Nat.le_of_ble_eq_true rfl⟩) rfl rfl (Nat.le_of_ble_eq_true rfl) ⟨Nat.zero_le _, Nat.zero_le _⟩ (k_X3_at l D cy q 1 row_1 a1 M r3 e4) dX6_symbolAt_23 ?_
      refine V_goto X 31 dX6_symbolAt_26 (by decide) ?_
      have h : r3 = rv := h
      exact R_i X hr hlk h rfl dX6_symbolAt_31
  · refine V_ldc X wKI_X6_66 dX6_symbolAt_4 ?_
    have h : (-1000001 : Int32) = rv := h
    exact R_i X hr hlk h rfl dX6_symbolAt_6
def rm_X4_times : Room := { frames := 1, cells := 0, slots := 0, locals := 20 }
def f_X4_times (k0 : Nat) (a1 : Int32) (M : Mm) : Option (Int32) :=
  (f_X6_isSymbol a1).bind fun r1 => if r1 = 0 then (some (nI 0)) else (if inb a1 16 = true then some (M (k0 + 1) (Int32.toNatClampNeg a1)) else none)
set_option maxRecDepth 100000 in
set_option maxHeartbeats 4000000 in
theorem k_X4_times (l : Launch) (D : va_G) (cy : Nat → ClassId) (q : Nat → Nat) (k0 : Nat) (hk0 : isTly k0) (a1 : Int32) (M : Mm) (rv : Int32) (h0 : f_X4_times k0 a1 M = some rv) : KI l yX4_times (Cond.code yX4_times cX4_times 2 (Option.some FieldType.int) :: gw) rm_X4_times D cy q [.ref (q k0), .int a1] M rv M := by
  refine KI.mk (L0 := [(0, .ref (q k0)), (1, .int a1)]) (by decide +kernel) rfl (Nat.le_of_ble_eq_true rfl) rfl rfl rfl ?_
  intro p e s m below meth c X0 hr hlk
  have X := Fx.gw (own := RX4) X0
  clear X0
  have h : Ok (f_X4_times k0 a1 M) (fun r => r = rv) := Ok.of h0 rfl
  clear h0
  delta f_X4_times at h
  refine V_iload_n X dX4_times_0 1 rfl rfl ?_
  obtain ⟨r1, e2, h⟩ := (Ok.bind h).ex
  refine C_Ni (As := [.int a1]) (M' := M) X ⟨va_cnB 1 X.1.2.2.2.2 (gw_code wCD_X6_isSymbol) rfl rfl rfl X.2.1.2.2.1 (X.1.2.2.2.2 _ wIN_X6) (by decide +kernel) ⟨Nat.le_of_ble_eq_true rfl, Nat.le_of_ble_eq_true rfl⟩, X.1.2.2.2.2 _ wST_X6_isSymbol, trivial⟩ rfl rfl (Nat.le_of_ble_eq_true rfl) ⟨Nat.zero_le _, Nat.zero_le _⟩ (k_X6_isSymbol l D cy q a1 M r1 e2) dX4_times_1 ?_
  refine B_if_eq X 16 dX4_times_4 (by decide) h (fun h => ?_) (fun h => ?_)
  · refine V_iconst (v := (nI 0)) X dX4_times_16 (by decide) ?_
    have h : (nI 0) = rv := h
    exact R_i X hr hlk h rfl dX4_times_17
  · refine V_aload_n X dX4_times_7 0 rfl rfl ?_
    refine G_4_0 X hk0 inX4 wFL_X4_9 dX4_times_8 ?_
    refine V_iload_n X dX4_times_11 1 rfl rfl ?_
    refine A_a16_ld X (isTly_a hk0) h dX4_times_12 (fun hb3 h => ?_)
    refine V_goto X 17 dX4_times_13 (by decide) ?_
    have h : (M (k0 + 1) (Int32.toNatClampNeg a1)) = rv := h
    exact R_i X hr hlk h rfl dX4_times_17
def rm_X6_rank : Room := { frames := 3, cells := 0, slots := 0, locals := 67 }
def f_X6_rank (F : Nat) (a1 : Int32) (a2 : Int32) (M : Mm) : Option (Int32 × Mm) :=
  (f_X6_isSymbol a1).bind fun r1 => if r1 = 0 then (some ((-1000001 : Int32), M)) else ((f_X3_size 1 M).bind fun r3 => (f_X6_isAtMost a2 r3).bind fun r5 => if r5 = 0 then (some ((-1000001 : Int32), M)) else ((f_X4_fill F 33 1 (nI 0) a2 M).bind fun r7 => (f_X4_times 33 a1 r7).bind fun r9 => some (r9, r7)))
set_option maxRecDepth 100000 in
set_option maxHeartbeats 4000000 in
theorem k_X6_rank (l : Launch) (D : va_G) (cy : Nat → ClassId) (q : Nat → Nat) (F : Nat) (a1 : Int32) (a2 : Int32) (M : Mm) (rv : Int32) (M' : Mm) (h0 : f_X6_rank F a1 a2 M = some (rv, M')) : KI l yX6_rank (Cond.code yX6_rank cX6_rank 3 (Option.some FieldType.int) :: gw) rm_X6_rank D cy q [.ref (q 0), .int a1, .int a2] M rv M' := by
  refine KI.mk (L0 := [(0, .ref (q 0)), (1, .int a1), (2, .int a2)]) (by decide +kernel) rfl (Nat.le_of_ble_eq_true rfl) rfl rfl rfl ?_
  intro p e s m below meth c X0 hr hlk
  have X := Fx.gw (own := RX6) X0
  clear X0
  have h : Ok (f_X6_rank F a1 a2 M) (fun r => r = (rv, M')) := Ok.of h0 rfl
  clear h0
  delta f_X6_rank at h
  refine V_iload_n X dX6_rank_0 1 rfl rfl ?_
  obtain ⟨r1, e2, h⟩ := (Ok.bind h).ex
  refine C_Si (As := [.int a1]) (M' := M) X (va_cwS 1 X.1.2.2.2.2 (gw_S wML_X6_62 wST_X6_isSymbol wIN_X6 (gw_c wCD_X6_isSymbol)) rfl rfl rfl (by decide +kernel) ⟨Nat.le_of_ble_eq_true rfl, Nat.le_of_ble_eq_true rfl⟩) rfl rfl (Nat.le_of_ble_eq_true rfl) ⟨Nat.zero_le _, Nat.zero_le _⟩ (k_X6_isSymbol l D cy q a1 M r1 e2) dX6_rank_1 ?_
  refine B_if_eq X 21 dX6_rank_4 (by decide) h (fun h => ?_) (fun h => ?_)
  · refine V_ldc X wKI_X6_66 dX6_rank_21 ?_
    have h : ((-1000001 : Int32), M) = (rv, M') := h
    exact R_i X hr hlk (congrArg Prod.fst h) (congrArg Prod.snd h) dX6_rank_23
  · refine V_iload_n X dX6_rank_7 2 rfl rfl ?_
    refine V_aload_n X dX6_rank_8 0 rfl rfl ?_
    refine G_6_0 X inX6 wFL_X6_10 dX6_rank_9 ?_
    obtain ⟨r3, e4, h⟩ := (Ok.bind h).ex
    refine C_Vi (As := []) (M' := M) (k0 := 1) X (wd_row row_1) rfl (cwV 0 X.1.2.2.2.2 (gw_V wML_X6_54 wIM_X3_size wSE_X3_size wIN_X3 (gw_c wCD_X3_size)) rfl rfl rfl (by decide +kernel) ⟨Nat.le_of_ble_eq_true rfl, Nat.le_of_ble_eq_true rfl⟩) rfl rfl (Nat.le_of_ble_eq_true rfl) ⟨Nat.zero_le _, Nat.zero_le _⟩ (k_X3_size l D cy q 1 row_1 M r3 e4) dX6_rank_12 ?_
    obtain ⟨r5, e6, h⟩ := (Ok.bind h).ex
    refine C_Si (As := [.int a2, .int r3]) (M' := M) X (va_cwS 2 X.1.2.2.2.2 (gw_S wML_X6_58 wST_X6_isAtMost wIN_X6 (gw_c wCD_X6_isAtMost)) rfl rfl rfl (by decide +kernel) ⟨Nat.le_of_ble_eq_true rfl, Nat.le_of_ble_eq_true rfl⟩) rfl rfl (Nat.le_of_ble_eq_true rfl) ⟨Nat.zero_le _, Nat.zero_le _⟩ (k_X6_isAtMost l D cy q a2 r3 M r5 e6) dX6_rank_15 ?_
    refine B_if_ne X 24 dX6_rank_18 (by decide) h (fun h => ?_) (fun h => ?_)
    · refine V_aload_n X dX6_rank_24 0 rfl rfl ?_
      refine G_6_3 X inX6 wFL_X6_33 dX6_rank_25 ?_
      refine V_aload_n X dX6_rank_28 0 rfl rfl ?_
      refine G_6_0 X inX6 wFL_X6_10 dX6_rank_29 ?_
      refine V_iconst (v := (nI 0)) X dX6_rank_32 (by decide) ?_
      refine V_iload_n X dX6_rank_33 2 rfl rfl ?_
      obtain ⟨r7, e8, h⟩ := (Ok.bind h).ex
      refine C_Vv (As := [.ref (q 1), .int (nI 0), .int a2]) (M' := r7) (k0 := 33) X (wd_tly tly_33) rfl (cwV 3 X.1.2.2.2.2 (gw_V wML_X6_100 wIM_X4_fill wSE_X4_fill wIN_X4 (gw_c wCD_X4_fill)) rfl rfl rfl (by decide +kernel) ⟨Nat.le_of_ble_eq_true rfl, Nat.le_of_ble_eq_true rfl⟩) rfl rfl (Nat.le_of_ble_eq_true rfl) ⟨Nat.zero_le _, Nat.zero_le _⟩ (k_X4_fill l D cy q F 33 tly_33 1 row_1 (nI 0) a2 M r7 e8) dX6_rank_34 ?_
      refine V_aload_n X dX6_rank_37 0 rfl rfl ?_
      refine G_6_3 X inX6 wFL_X6_33 dX6_rank_38 ?_
      refine V_iload_n X dX6_rank_41 1 rfl rfl ?_
      obtain ⟨r9, e10, h⟩ := (Ok.bind h).ex
      refine C_Vi (As := [.int a1]) (M' := r7) (k0 := 33) X (wd_tly tly_33) rfl (cwV 1 X.1.2.2.2.2 (gw_V wML_X6_145 wIM_X4_times wSE_X4_times wIN_X4 (gw_c wCD_X4_times)) rfl rfl rfl (by decide +kernel) ⟨Nat.le_of_ble_eq_true rfl, Nat.le_of_ble_eq_true rfl⟩) rfl rfl (Nat.le_of_ble_eq_true rfl) ⟨Nat.zero_le _, Nat.zero_le _⟩ (k_X4_times l D cy q 33 tly_33 a1 r7 r9 e10) dX6_rank_42 ?_
      have h : (r9, r7) = (rv, M') := h
      exact R_i X hr hlk (congrArg Prod.fst h) (congrArg Prod.snd h) dX6_rank_45
    · refine V_ldc X wKI_X6_66 dX6_rank_21 ?_
      have h : ((-1000001 : Int32), M) = (rv, M') := h
      exact R_i X hr hlk (congrArg Prod.fst h) (congrArg Prod.snd h) dX6_rank_23
def rm_X6_select : Room := { frames := 2, cells := 0, slots := 0, locals := 42 }
def f_X6_select (F : Nat) (a1 : Int32) (a2 : Int32) (M : Mm) : Option (Int32) :=
  (f_X6_isSymbol a1).bind fun r1 => if r1 = 0 then (some (-1000001 : Int32)) else (if 0 ≤ a2 then (lpf (fun z3 : Int32 × Int32 => (f_X3_size 1 M).bind fun r4 => if r4 ≤ z3.2 then (some (.inr (-1000004 : Int32))) else ((f_X3_at 1 z3.2 M).bind fun r6 => if r6 = a1 then (if z3.1 = a2 then (some (.inr z3.2)) else (some (.inl ((z3.1 + (nI 1)), (z3.2 + (nI 1)))))) else (some (.inl (z3.1, (z3.2 + (nI 1))))))) F ((nI 0), (nI 0))) else (some (-1000001 : Int32)))
set_option maxRecDepth 100000 in
set_option maxHeartbeats 4000000 in
theorem k_X6_select (l : Launch) (D : va_G) (cy : Nat → ClassId) (q : Nat → Nat) (F : Nat) (a1 : Int32) (a2 : Int32) (M : Mm) (rv : Int32) (h0 : f_X6_select F a1 a2 M = some rv) : KI l yX6_select (Cond.code yX6_select cX6_select 5 (Option.some FieldType.int) :: gw) rm_X6_select D cy q [.ref (q 0), .int a1, .int a2] M rv M := by
  refine KI.mk (L0 := [(0, .ref (q 0)), (1, .int a1), (2, .int a2)]) (by decide +kernel) rfl (Nat.le_of_ble_eq_true rfl) rfl rfl rfl ?_
  intro p e s m below meth c X0 hr hlk
  have X := Fx.gw (own := RX6) X0
  clear X0
  have h : Ok (f_X6_select F a1 a2 M) (fun r => r = rv) := Ok.of h0 rfl
  clear h0
  delta f_X6_select at h
  refine V_iload_n X dX6_select_0 1 rfl rfl ?_
  obtain ⟨r1, e2, h⟩ := (Ok.bind h).ex
  refine C_Si (As := [.int a1]) (M' := M) X (va_cwS 1 X.1.2.2.2.2 (gw_S wML_X6_62 wST_X6_isSymbol wIN_X6 (gw_c wCD_X6_isSymbol)) rfl rfl rfl (by decide +kernel) ⟨Nat.le_of_ble_eq_true rfl, Nat.le_of_ble_eq_true rfl⟩) rfl rfl (Nat.le_of_ble_eq_true rfl) ⟨Nat.zero_le _, Nat.zero_le _⟩ (k_X6_isSymbol l D cy q a1 M r1 e2) dX6_select_1 ?_
  refine B_if_eq X 11 dX6_select_4 (by decide) h (fun h => ?_) (fun h => ?_)
  · refine V_ldc X wKI_X6_66 dX6_select_11 ?_
    have h : (-1000001 : Int32) = rv := h
    exact R_i X hr hlk h rfl dX6_select_13
  · refine V_iload_n X dX6_select_7 2 rfl rfl ?_
    refine B_if_ge X 14 dX6_select_8 (by decide) h (fun h => ?_) (fun h => ?_)
    · refine V_iconst (v := (nI 0)) X dX6_select_14 (by decide) ?_
      refine V_istore_n (L' := [(3, .int (nI 0)), (0, .ref (q 0)), (1, .int a1), (2, .int a2)]) X dX6_select_15 rfl (by decide) rfl ?_
      refine V_iconst (v := (nI 0)) X dX6_select_16 (by decide) ?_
      refine V_istore (L' := [(4, .int (nI 0)), (3, .int (nI 0)), (0, .ref (q 0)), (1, .int a1), (2, .int a2)]) X dX6_select_17 (by decide) rfl ?_
      refine V_sub (L' := [(0, .ref (q 0)), (1, .int a1), (2, .int a2), (3, .int (nI 0)), (4, .int (nI 0))]) [2, 3, 4, 1, 0] rfl ?_
      refine V_loop X h (fun z3 => M) (fun z3 => [(0, .ref (q 0)), (1, .int a1), (2, .int a2), (3, .int z3.1), (4, .int z3.2)]) rfl rfl (fun z3 h => ?_)
      refine V_iload X dX6_select_19 4 rfl ?_
      refine V_aload_n X dX6_select_21 0 rfl rfl ?_
      refine G_6_0 X inX6 wFL_X6_10 dX6_select_22 ?_
      obtain ⟨r4, e5, h⟩ := (Ok.bind h).ex
      refine C_Vi (As := []) (M' := M) (k0 := 1) X (wd_row row_1) rfl (cwV 0 X.1.2.2.2.2 (gw_V wML_X6_54 wIM_X3_size wSE_X3_size wIN_X3 (gw_c wCD_X3_size)) rfl rfl rfl (by decide +kernel) ⟨Nat.le_of_ble_eq_true rfl, Nat.le_of_ble_eq_true rfl⟩) rfl rfl (Nat.le_of_ble_eq_true rfl) ⟨Nat.zero_le _, Nat.zero_le _⟩ (k_X3_size l D cy q 1 row_1 M r4 e5) dX6_select_25 ?_
      refine B_icmp_ge X 61 dX6_select_28 (by decide) h (fun h => ?_) (fun h => ?_)
      · refine V_ldc X wKI_X6_108 dX6_select_61 ?_
        have h : (-1000004 : Int32) = rv := h
        exact R_i X hr hlk h rfl dX6_select_63
      · refine V_aload_n X dX6_select_31 0 rfl rfl ?_
        refine G_6_0 X inX6 wFL_X6_10 dX6_select_32 ?_
        refine V_iload X dX6_select_35 4 rfl ?_
        obtain ⟨r6, e7, h⟩ := (Ok.bind h).ex
        refine C_Vi (As := [.int z3.2]) (M' := M) (k0 := 1) X (wd_row row_1) rfl (cwV 1 X.1.2.2.2.2 (gw_V wML_X6_79 wIM_X3_at wSE_X3_at wIN_X3 (gw_c wCD_X3_at)) rfl rfl rfl (by decide +kernel) ⟨Nat.le_of_ble_eq_true rfl, Nat.le_of_ble_eq_true rfl⟩) rfl rfl (Nat.le_of_ble_eq_true rfl) ⟨Nat.zero_le _, Nat.zero_le _⟩ (k_X3_at l D cy q 1 row_1 z3.2 M r6 e7) dX6_select_37 ?_
        refine V_iload_n X dX6_select_40 1 rfl rfl ?_
        refine B_icmp_ne X 55 dX6_select_41 (by decide) h (fun h => ?_) (fun h => ?_)
        · refine V_iinc (v := (z3.2 + (nI 1))) (L' := [(4, .int (z3.2 + (nI 1))), (0, .ref (q 0)), (1, .int a1), (2, .int a2), (3, .int z3.1)]) (j := 4) X dX6_select_55 rfl rfl (by decide) rfl ?_
          refine V_goto X 19 dX6_select_58 (by decide) ?_
          exact V_sub [1, 2, 3, 4, 0] rfl h
        · refine V_iload_n X dX6_select_44 3 rfl rfl ?_
          refine V_iload_n X dX6_select_45 2 rfl rfl ?_
          refine B_icmp_ne X 52 dX6_select_46 (by decide) h (fun h => ?_) (fun h => ?_)
          · refine V_iinc (v := (z3.1 + (nI 1))) (L' := [(3, .int (z3.1 + (nI 1))), (0, .ref (q 0)), (1, .int a1), (2, .int a2), (4, .int z3.2)]) (j := 3) X dX6_select_52 rfl rfl (by decide) rfl ?_
            refine V_iinc (v := (z3.2 + (nI 1))) (L' := [(4, .int (z3.2 + (nI 1))), (3, .int (z3.1 + (nI 1))), (0, .ref (q 0)), (1, .int a1), (2, .int a2)]) (j := 4) X dX6_select_55 rfl rfl (by decide) rfl ?_
            refine V_goto X 19 dX6_select_58 (by decide) ?_
            exact V_sub [2, 3, 4, 1, 0] rfl h
          · refine V_iload X dX6_select_49 4 rfl ?_
            have h : z3.2 = rv := h
            exact R_i X hr hlk h rfl dX6_select_51
    · refine V_ldc X wKI_X6_66 dX6_select_11 ?_
      have h : (-1000001 : Int32) = rv := h
      exact R_i X hr hlk h rfl dX6_select_13
def rm_X6_symbolOrNotFound : Room := { frames := 0, cells := 0, slots := 0, locals := 0 }
def f_X6_symbolOrNotFound (a0 : Int32) : Option (Int32) :=
  if a0 = (-1 : Int32) then (some (-1000004 : Int32)) else (some a0)
set_option maxRecDepth 100000 in
set_option maxHeartbeats 4000000 in
theorem k_X6_symbolOrNotFound (l : Launch) (D : va_G) (cy : Nat → ClassId) (q : Nat → Nat) (a0 : Int32) (M : Mm) (rv : Int32) (h0 : f_X6_symbolOrNotFound a0 = some rv) : KI l yX6_symbolOrNotFound (Cond.code yX6_symbolOrNotFound cX6_symbolOrNotFound 1 (Option.some FieldType.int) :: gw) rm_X6_symbolOrNotFound D cy q [.int a0] M rv M := by
  refine KI.mk (L0 := [(0, .int a0)]) (by decide +kernel) rfl (Nat.le_of_ble_eq_true rfl) rfl rfl rfl ?_
  intro p e s m below meth c X0 hr hlk
  have X := Fx.gw (own := RX6) X0
  clear X0
  have h : Ok (f_X6_symbolOrNotFound a0) (fun r => r = rv) := Ok.of h0 rfl
  clear h0
  delta f_X6_symbolOrNotFound at h
  refine V_iload_n X dX6_symbolOrNotFound_0 0 rfl rfl ?_
  refine V_iconst (v := (-1 : Int32)) X dX6_symbolOrNotFound_1 (by decide) ?_
  refine B_icmp_ne X 10 dX6_symbolOrNotFound_2 (by decide) h (fun h => ?_) (fun h => ?_)
  · refine V_iload_n X dX6_symbolOrNotFound_10 0 rfl rfl ?_
    have h : a0 = rv := h
    exact R_i X hr hlk h rfl dX6_symbolOrNotFound_11
  · refine V_ldc X wKI_X6_108 dX6_symbolOrNotFound_5 ?_
    refine V_goto X 11 dX6_symbolOrNotFound_7 (by decide) ?_
    have h : (-1000004 : Int32) = rv := h
    exact R_i X hr hlk h rfl dX6_symbolOrNotFound_11
def rm_X6_smallest : Room := { frames := 3, cells := 0, slots := 0, locals := 67 }
def f_X6_smallest (F : Nat) (a1 : Int32) (a2 : Int32) (a3 : Int32) (M : Mm) : Option (Int32 × Mm) :=
  (f_X3_hasSpan 1 a1 a2 M).bind fun r1 => if r1 = 0 then (some ((-1000001 : Int32), M)) else (if 0 ≤ a3 then ((f_X4_fill F 33 1 a1 a2 M).bind fun r3 => (f_X4_symbolAtSorted F 33 a3 r3).bind fun r5 => (f_X6_symbolOrNotFound r5).bind fun r7 => some (r7, r3)) else (some ((-1000001 : Int32), M)))
set_option maxRecDepth 100000 in
set_option maxHeartbeats 4000000 in
theorem k_X6_smallest (l : Launch) (D : va_G) (cy : Nat → ClassId) (q : Nat → Nat) (F : Nat) (a1 : Int32) (a2 : Int32) (a3 : Int32) (M : Mm) (rv : Int32) (M' : Mm) (h0 : f_X6_smallest F a1 a2 a3 M = some (rv, M')) : KI l yX6_smallest (Cond.code yX6_smallest cX6_smallest 4 (Option.some FieldType.int) :: gw) rm_X6_smallest D cy q [.ref (q 0), .int a1, .int a2, .int a3] M rv M' := by
  refine KI.mk (L0 := [(0, .ref (q 0)), (1, .int a1), (2, .int a2), (3, .int a3)]) (by decide +kernel) rfl (Nat.le_of_ble_eq_true rfl) rfl rfl rfl ?_
  intro p e s m below meth c X0 hr hlk
  have X := Fx.gw (own := RX6) X0
  clear X0
  have h : Ok (f_X6_smallest F a1 a2 a3 M) (fun r => r = (rv, M')) := Ok.of h0 rfl
  clear h0
  delta f_X6_smallest at h
  refine V_aload_n X dX6_smallest_0 0 rfl rfl ?_
  refine G_6_0 X inX6 wFL_X6_10 dX6_smallest_1 ?_
  refine V_iload_n X dX6_smallest_4 1 rfl rfl ?_
  refine V_iload_n X dX6_smallest_5 2 rfl rfl ?_
  obtain ⟨r1, e2, h⟩ := (Ok.bind h).ex
  refine C_Vi (As := [.int a1, .int a2]) (M' := M) (k0 := 1) X (wd_row row_1) rfl (cwV 2 X.1.2.2.2.2 (gw_V wML_X6_93 wIM_X3_hasSpan wSE_X3_hasSpan wIN_X3 (gw_c wCD_X3_hasSpan)) rfl rfl rfl (by decide +kernel) ⟨Nat.le_of_ble_eq_true rfl, Nat.le_of_ble_eq_true rfl⟩) rfl rfl (Nat.le_of_ble_eq_true rfl) ⟨Nat.zero_le _, Nat.zero_le _⟩ (k_X3_hasSpan l D cy q 1 row_1 a1 a2 M r1 e2) dX6_smallest_6 ?_
  refine B_if_eq X 16 dX6_smallest_9 (by decide) h (fun h => ?_) (fun h => ?_)
  · refine V_ldc X wKI_X6_66 dX6_smallest_16 ?_
    have h : ((-1000001 : Int32), M) = (rv, M') := h
    exact R_i X hr hlk (congrArg Prod.fst h) (congrArg Prod.snd h) dX6_smallest_18
  · refine V_iload_n X dX6_smallest_12 3 rfl rfl ?_
    refine B_if_ge X 19 dX6_smallest_13 (by decide) h (fun h => ?_) (fun h => ?_)
    · refine V_aload_n X dX6_smallest_19 0 rfl rfl ?_
      refine G_6_3 X inX6 wFL_X6_33 dX6_smallest_20 ?_
      refine V_aload_n X dX6_smallest_23 0 rfl rfl ?_
      refine G_6_0 X inX6 wFL_X6_10 dX6_smallest_24 ?_
      refine V_iload_n X dX6_smallest_27 1 rfl rfl ?_
      refine V_iload_n X dX6_smallest_28 2 rfl rfl ?_
      obtain ⟨r3, e4, h⟩ := (Ok.bind h).ex
      refine C_Vv (As := [.ref (q 1), .int a1, .int a2]) (M' := r3) (k0 := 33) X (wd_tly tly_33) rfl (cwV 3 X.1.2.2.2.2 (gw_V wML_X6_100 wIM_X4_fill wSE_X4_fill wIN_X4 (gw_c wCD_X4_fill)) rfl rfl rfl (by decide +kernel) ⟨Nat.le_of_ble_eq_true rfl, Nat.le_of_ble_eq_true rfl⟩) rfl rfl (Nat.le_of_ble_eq_true rfl) ⟨Nat.zero_le _, Nat.zero_le _⟩ (k_X4_fill l D cy q F 33 tly_33 1 row_1 a1 a2 M r3 e4) dX6_smallest_29 ?_
      refine V_aload_n X dX6_smallest_32 0 rfl rfl ?_
      refine G_6_3 X inX6 wFL_X6_33 dX6_smallest_33 ?_
      refine V_iload_n X dX6_smallest_36 3 rfl rfl ?_
      obtain ⟨r5, e6, h⟩ := (Ok.bind h).ex
      refine C_Vi (As := [.int a3]) (M' := r3) (k0 := 33) X (wd_tly tly_33) rfl (cwV 1 X.1.2.2.2.2 (gw_V wML_X6_148 wIM_X4_symbolAtSorted wSE_X4_symbolAtSorted wIN_X4 (gw_c wCD_X4_symbolAtSorted)) rfl rfl rfl (by decide +kernel) ⟨Nat.le_of_ble_eq_true rfl, Nat.le_of_ble_eq_true rfl⟩) rfl rfl (Nat.le_of_ble_eq_true rfl) ⟨Nat.zero_le _, Nat.zero_le _⟩ (k_X4_symbolAtSorted l D cy q F 33 tly_33 a3 r3 r5 e6) dX6_smallest_37 ?_
      obtain ⟨r7, e8, h⟩ := (Ok.bind h).ex
      refine C_Si (As := [.int r5]) (M' := r3) X (va_cwS 1 X.1.2.2.2.2 (gw_S wML_X6_151 wST_X6_symbolOrNotFound wIN_X6 (gw_c wCD_X6_symbolOrNotFound)) rfl rfl rfl (by decide +kernel) ⟨Nat.le_of_ble_eq_true rfl, Nat.le_of_ble_eq_true rfl⟩) rfl rfl (Nat.le_of_ble_eq_true rfl) ⟨Nat.zero_le _, Nat.zero_le _⟩ (k_X6_symbolOrNotFound l D cy q r5 r3 r7 e8) dX6_smallest_40 ?_
      have h : (r7, r3) = (rv, M') := h
      exact R_i X hr hlk (congrArg Prod.fst h) (congrArg Prod.snd h) dX6_smallest_43
    · refine V_ldc X wKI_X6_66 dX6_smallest_16 ?_
      have h : ((-1000001 : Int32), M) = (rv, M') := h
      exact R_i X hr hlk (congrArg Prod.fst h) (congrArg Prod.snd h) dX6_smallest_18
def rm_X4_timesBelow : Room := { frames := 0, cells := 0, slots := 0, locals := 0 }
def f_X4_timesBelow (F : Nat) (k0 : Nat) (a1 : Int32) (M : Mm) : Option (Int32) :=
  lpf (fun z1 : Int32 × Int32 => if a1 ≤ z1.2 then (some (.inr z1.1)) else (if (nI 16) ≤ z1.2 then (some (.inr z1.1)) else (if inb z1.2 16 = true then some (.inl ((z1.1 + (M (k0 + 1) (Int32.toNatClampNeg z1.2))), (z1.2 + (nI 1)))) else none))) F ((nI 0), (nI 0))
set_option maxRecDepth 100000 in
set_option maxHeartbeats 4000000 in
theorem k_X4_timesBelow (l : Launch) (D : va_G) (cy : Nat → ClassId) (q : Nat → Nat) (F : Nat) (k0 : Nat) (hk0 : isTly k0) (a1 : Int32) (M : Mm) (rv : Int32) (h0 : f_X4_timesBelow F k0 a1 M = some rv) : KI l yX4_timesBelow (Cond.code yX4_timesBelow cX4_timesBelow 4 (Option.some FieldType.int) :: gw) rm_X4_timesBelow D cy q [.ref (q k0), .int a1] M rv M := by
  refine KI.mk (L0 := [(0, .ref (q k0)), (1, .int a1)]) (by decide +kernel) rfl (Nat.le_of_ble_eq_true rfl) rfl rfl rfl ?_
  intro p e s m below meth c X0 hr hlk
  have X := Fx.gw (own := RX4) X0
  clear X0
  have h : Ok (f_X4_timesBelow F k0 a1 M) (fun r => r = rv) := Ok.of h0 rfl
  clear h0
  delta f_X4_timesBelow at h
  refine V_iconst (v := (nI 0)) X dX4_timesBelow_0 (by decide) ?_
  refine V_istore_n (L' := [(2, .int (nI 0)), (0, .ref (q k0)), (1, .int a1)]) X dX4_timesBelow_1 rfl (by decide) rfl ?_
  refine V_iconst (v := (nI 0)) X dX4_timesBelow_2 (by decide) ?_
  refine V_istore_n (L' := [(3, .int (nI 0)), (2, .int (nI 0)), (0, .ref (q k0)), (1, .int a1)]) X dX4_timesBelow_3 rfl (by decide) rfl ?_
  refine V_sub (L' := [(0, .ref (q k0)), (1, .int a1), (2, .int (nI 0)), (3, .int (nI 0))]) [2, 3, 1, 0] rfl ?_
  refine V_loop X h (fun z1 => M) (fun z1 => [(0, .ref (q k0)), (1, .int a1), (2, .int z1.1), (3, .int z1.2)]) rfl rfl (fun z1 h => ?_)
  refine V_iload_n X dX4_timesBelow_4 3 rfl rfl ?_
  refine V_iload_n X dX4_timesBelow_5 1 rfl rfl ?_
  refine B_icmp_ge X 30 dX4_timesBelow_6 (by decide) h (fun h => ?_) (fun h => ?_)
  · refine V_iload_n X dX4_timesBelow_30 2 rfl rfl ?_
    have h : z1.1 = rv := h
    exact R_i X hr hlk h rfl dX4_timesBelow_31
  · refine V_iload_n X dX4_timesBelow_9 3 rfl rfl ?_
    refine V_bipush (v := (nI 16)) X dX4_timesBelow_10 (by decide) ?_
    refine B_icmp_ge X 30 dX4_timesBelow_12 (by decide) h (fun h => ?_) (fun h => ?_)
    · refine V_iload_n X dX4_timesBelow_30 2 rfl rfl ?_
      have h : z1.1 = rv := h
      exact R_i X hr hlk h rfl dX4_timesBelow_31
    · refine V_iload_n X dX4_timesBelow_15 2 rfl rfl ?_
      refine V_aload_n X dX4_timesBelow_16 0 rfl rfl ?_
      refine G_4_0 X hk0 inX4 wFL_X4_9 dX4_timesBelow_17 ?_
      refine V_iload_n X dX4_timesBelow_20 3 rfl rfl ?_
      refine A_a16_ld X (isTly_a hk0) h dX4_timesBelow_21 (fun hb2 h => ?_)
      refine V_iadd X dX4_timesBelow_22 ?_
      refine V_istore_n (L' := [(2, .int (z1.1 + (M (k0 + 1) (Int32.toNatClampNeg z1.2)))), (0, .ref (q k0)), (1, .int a1), (3, .int z1.2)]) X dX4_timesBelow_23 rfl (by decide) rfl ?_
      refine V_iinc (v := (z1.2 + (nI 1))) (L' := [(3, .int (z1.2 + (nI 1))), (2, .int (z1.1 + (M (k0 + 1) (Int32.toNatClampNeg z1.2)))), (0, .ref (q k0)), (1, .int a1)]) (j := 3) X dX4_timesBelow_24 rfl rfl (by decide) rfl ?_
      refine V_goto X 4 dX4_timesBelow_27 (by decide) ?_
      exact V_sub [2, 3, 1, 0] rfl h
def rm_X6_below : Room := { frames := 3, cells := 0, slots := 0, locals := 67 }
def f_X6_below (F : Nat) (a1 : Int32) (a2 : Int32) (a3 : Int32) (M : Mm) : Option (Int32 × Mm) :=
  (f_X3_hasSpan 1 a1 a2 M).bind fun r1 => if r1 = 0 then (some ((-1000001 : Int32), M)) else ((f_X6_isAtMost a3 (nI 16)).bind fun r3 => if r3 = 0 then (some ((-1000001 : Int32), M)) else ((f_X4_fill F 33 1 a1 a2 M).bind fun r5 => (f_X4_timesBelow F 33 a3 r5).bind fun r7 => some (r7, r5)))
set_option maxRecDepth 100000 in
set_option maxHeartbeats 4000000 in
theorem k_X6_below (l : Launch) (D : va_G) (cy : Nat → ClassId) (q : Nat → Nat) (F : Nat) (a1 : Int32) (a2 : Int32) (a3 : Int32) (M : Mm) (rv : Int32) (M' : Mm) (h0 : f_X6_below F a1 a2 a3 M = some (rv, M')) : KI l yX6_below (Cond.code yX6_below cX6_below 4 (Option.some FieldType.int) :: gw) rm_X6_below D cy q [.ref (q 0), .int a1, .int a2, .int a3] M rv M' := by
  refine KI.mk (L0 := [(0, .ref (q 0)), (1, .int a1), (2, .int a2), (3, .int a3)]) (by decide +kernel) rfl (Nat.le_of_ble_eq_true rfl) rfl rfl rfl ?_
  intro p e s m below meth c X0 hr hlk
  have X := Fx.gw (own := RX6) X0
  clear X0
  have h : Ok (f_X6_below F a1 a2 a3 M) (fun r => r = (rv, M')) := Ok.of h0 rfl
  clear h0
  delta f_X6_below at h
  refine V_aload_n X dX6_below_0 0 rfl rfl ?_
  refine G_6_0 X inX6 wFL_X6_10 dX6_below_1 ?_
  refine V_iload_n X dX6_below_4 1 rfl rfl ?_
  refine V_iload_n X dX6_below_5 2 rfl rfl ?_
  obtain ⟨r1, e2, h⟩ := (Ok.bind h).ex
  refine C_Vi (As := [.int a1, .int a2]) (M' := M) (k0 := 1) X (wd_row row_1) rfl (cwV 2 X.1.2.2.2.2 (gw_V wML_X6_93 wIM_X3_hasSpan wSE_X3_hasSpan wIN_X3 (gw_c wCD_X3_hasSpan)) rfl rfl rfl (by decide +kernel) ⟨Nat.le_of_ble_eq_true rfl, Nat.le_of_ble_eq_true rfl⟩) rfl rfl (Nat.le_of_ble_eq_true rfl) ⟨Nat.zero_le _, Nat.zero_le _⟩ (k_X3_hasSpan l D cy q 1 row_1 a1 a2 M r1 e2) dX6_below_6 ?_
  refine B_if_eq X 21 dX6_below_9 (by decide) h (fun h => ?_) (fun h => ?_)
  · refine V_ldc X wKI_X6_66 dX6_below_21 ?_
    have h : ((-1000001 : Int32), M) = (rv, M') := h
    exact R_i X hr hlk (congrArg Prod.fst h) (congrArg Prod.snd h) dX6_below_23
  · refine V_iload_n X dX6_below_12 3 rfl rfl ?_
    refine V_bipush (v := (nI 16)) X dX6_below_13 (by decide) ?_
    obtain ⟨r3, e4, h⟩ := (Ok.bind h).ex
    refine C_Si (As := [.int a3, .int (nI 16)]) (M' := M) X (va_cwS 2 X.1.2.2.2.2 (gw_S wML_X6_58 wST_X6_isAtMost wIN_X6 (gw_c wCD_X6_isAtMost)) rfl rfl rfl (by decide +kernel) ⟨Nat.le_of_ble_eq_true rfl, Nat.le_of_ble_eq_true rfl⟩) rfl rfl (Nat.le_of_ble_eq_true rfl) ⟨Nat.zero_le _, Nat.zero_le _⟩ (k_X6_isAtMost l D cy q a3 (nI 16) M r3 e4) dX6_below_15 ?_
    refine B_if_ne X 24 dX6_below_18 (by decide) h (fun h => ?_) (fun h => ?_)
    · refine V_aload_n X dX6_below_24 0 rfl rfl ?_
      refine G_6_3 X inX6 wFL_X6_33 dX6_below_25 ?_
      refine V_aload_n X dX6_below_28 0 rfl rfl ?_
      refine G_6_0 X inX6 wFL_X6_10 dX6_below_29 ?_
      refine V_iload_n X dX6_below_32 1 rfl rfl ?_
      refine V_iload_n X dX6_below_33 2 rfl rfl ?_
      obtain ⟨r5, e6, h⟩ := (Ok.bind h).ex
      refine C_Vv (As := [.ref (q 1), .int a1, .int a2]) (M' := r5) (k0 := 33) X (wd_tly tly_33) rfl (cwV 3 X.1.2.2.2.2 (gw_V wML_X6_100 wIM_X4_fill wSE_X4_fill wIN_X4 (gw_c wCD_X4_fill)) rfl rfl rfl (by decide +kernel) ⟨Nat.le_of_ble_eq_true rfl, Nat.le_of_ble_eq_true rfl⟩) rfl rfl (Nat.le_of_ble_eq_true rfl) ⟨Nat.zero_le _, Nat.zero_le _⟩ (k_X4_fill l D cy q F 33 tly_33 1 row_1 a1 a2 M r5 e6) dX6_below_34 ?_
      refine V_aload_n X dX6_below_37 0 rfl rfl ?_
      refine G_6_3 X inX6 wFL_X6_33 dX6_below_38 ?_
      refine V_iload_n X dX6_below_41 3 rfl rfl ?_
      obtain ⟨r7, e8, h⟩ := (Ok.bind h).ex
      refine C_Vi (As := [.int a3]) (M' := r5) (k0 := 33) X (wd_tly tly_33) rfl (cwV 1 X.1.2.2.2.2 (gw_V wML_X6_154 wIM_X4_timesBelow wSE_X4_timesBelow wIN_X4 (gw_c wCD_X4_timesBelow)) rfl rfl rfl (by decide +kernel) ⟨Nat.le_of_ble_eq_true rfl, Nat.le_of_ble_eq_true rfl⟩) rfl rfl (Nat.le_of_ble_eq_true rfl) ⟨Nat.zero_le _, Nat.zero_le _⟩ (k_X4_timesBelow l D cy q F 33 tly_33 a3 r5 r7 e8) dX6_below_42 ?_
      have h : (r7, r5) = (rv, M') := h
      exact R_i X hr hlk (congrArg Prod.fst h) (congrArg Prod.snd h) dX6_below_45
    · refine V_ldc X wKI_X6_66 dX6_below_21 ?_
      have h : ((-1000001 : Int32), M) = (rv, M') := h
      exact R_i X hr hlk (congrArg Prod.fst h) (congrArg Prod.snd h) dX6_below_23
def rm_X4_leastFrom : Room := { frames := 1, cells := 0, slots := 0, locals := 21 }
def f_X4_leastFrom (F : Nat) (k0 : Nat) (a1 : Int32) (M : Mm) : Option (Int32) :=
  lpf (fun z1 : Int32 => if (nI 16) ≤ z1 then (some (.inr (-1 : Int32))) else (if inb z1 16 = true then if (M (k0 + 1) (Int32.toNatClampNeg z1)) ≤ 0 then (some (.inl (z1 + (nI 1)))) else (some (.inr z1)) else none)) F (if a1 < (nI 0) then (nI 0) else a1)
set_option maxRecDepth 100000 in
set_option maxHeartbeats 4000000 in
theorem k_X4_leastFrom (l : Launch) (D : va_G) (cy : Nat → ClassId) (q : Nat → Nat) (F : Nat) (k0 : Nat) (hk0 : isTly k0) (a1 : Int32) (M : Mm) (rv : Int32) (h0 : f_X4_leastFrom F k0 a1 M = some rv) : KI l yX4_leastFrom (Cond.code yX4_leastFrom cX4_leastFrom 3 (Option.some FieldType.int) :: gw) rm_X4_leastFrom D cy q [.ref (q k0), .int a1] M rv M := by
  refine KI.mk (L0 := [(0, .ref (q k0)), (1, .int a1)]) (by decide +kernel) rfl (Nat.le_of_ble_eq_true rfl) rfl rfl rfl ?_
  intro p e s m below meth c X0 hr hlk
  have X := Fx.gw (own := RX4) X0
  clear X0
  have h : Ok (f_X4_leastFrom F k0 a1 M) (fun r => r = rv) := Ok.of h0 rfl
  clear h0
  delta f_X4_leastFrom at h
  refine V_iload_n X dX4_leastFrom_0 1 rfl rfl ?_
  refine V_iconst (v := (nI 0)) X dX4_leastFrom_1 (by decide) ?_
  refine C_max X wML_X4_25 wST_J9_max_7cf53 wIN_J9 wCD_J9_max_7cf53 (Nat.le_of_ble_eq_true rfl) (Nat.le_of_ble_eq_true rfl) ⟨Nat.zero_le _, Nat.zero_le _⟩ dX4_leastFrom_2 ?_
  refine V_istore_n (L' := [(2, .int (if a1 < (nI 0) then (nI 0) else a1)), (0, .ref (q k0)), (1, .int a1)]) X dX4_leastFrom_5 rfl (by decide) rfl ?_
  refine V_sub (L' := [(0, .ref (q k0)), (2, .int (if a1 < (nI 0) then (nI 0) else a1))]) [1, 0] rfl ?_
  refine V_loop X h (fun z1 => M) (fun z1 => [(0, .ref (q k0)), (2, .int z1)]) rfl rfl (fun z1 h => ?_)
  refine V_iload_n X dX4_leastFrom_6 1 rfl rfl ?_
  refine V_bipush (v := (nI 16)) X dX4_leastFrom_7 (by decide) ?_
  refine B_icmp_ge X 29 dX4_leastFrom_9 (by decide) h (fun h => ?_) (fun h => ?_)
  · refine V_iconst (v := (-1 : Int32)) X dX4_leastFrom_29 (by decide) ?_
    have h : (-1 : Int32) = rv := h
    exact R_i X hr hlk h rfl dX4_leastFrom_30
  · refine V_aload_n X dX4_leastFrom_12 0 rfl rfl ?_
    refine G_4_0 X hk0 inX4 wFL_X4_9 dX4_leastFrom_13 ?_
    refine V_iload_n X dX4_leastFrom_16 1 rfl rfl ?_
    refine A_a16_ld X (isTly_a hk0) h dX4_leastFrom_17 (fun hb2 h => ?_)
    refine B_if_le X 23 dX4_leastFrom_18 (by decide) h (fun h => ?_) (fun h => ?_)
    · refine V_iinc (v := (z1 + (nI 1))) (L' := [(2, .int (z1 + (nI 1))), (0, .ref (q k0))]) (j := 1) X dX4_leastFrom_23 rfl rfl (by decide) rfl ?_
      refine V_goto X 6 dX4_leastFrom_26 (by decide) ?_
      exact V_sub [1, 0] rfl h
    · refine V_iload_n X dX4_leastFrom_21 1 rfl rfl ?_
      have h : z1 = rv := h
      exact R_i X hr hlk h rfl dX4_leastFrom_22
def rm_X6_notBelow : Room := { frames := 3, cells := 0, slots := 0, locals := 67 }
def f_X6_notBelow (F : Nat) (a1 : Int32) (a2 : Int32) (a3 : Int32) (M : Mm) : Option (Int32 × Mm) :=
  (f_X3_hasSpan 1 a1 a2 M).bind fun r1 => if r1 = 0 then (some ((-1000001 : Int32), M)) else ((f_X6_isSymbol a3).bind fun r3 => if r3 = 0 then (some ((-1000001 : Int32), M)) else ((f_X4_fill F 33 1 a1 a2 M).bind fun r5 => (f_X4_leastFrom F 33 a3 r5).bind fun r7 => (f_X6_symbolOrNotFound r7).bind fun r9 => some (r9, r5)))
set_option maxRecDepth 100000 in
set_option maxHeartbeats 4000000 in
theorem k_X6_notBelow (l : Launch) (D : va_G) (cy : Nat → ClassId) (q : Nat → Nat) (F : Nat) (a1 : Int32) (a2 : Int32) (a3 : Int32) (M : Mm) (rv : Int32) (M' : Mm) (h0 : f_X6_notBelow F a1 a2 a3 M = some (rv, M')) : KI l yX6_notBelow (Cond.code yX6_notBelow cX6_notBelow 4 (Option.some FieldType.int) :: gw) rm_X6_notBelow D cy q [.ref (q 0), .int a1, .int a2, .int a3] M rv M' := by
  refine KI.mk (L0 := [(0, .ref (q 0)), (1, .int a1), (2, .int a2), (3, .int a3)]) (by decide +kernel) rfl (Nat.le_of_ble_eq_true rfl) rfl rfl rfl ?_
  intro p e s m below meth c X0 hr hlk
  have X := Fx.gw (own := RX6) X0
  clear X0
  have h : Ok (f_X6_notBelow F a1 a2 a3 M) (fun r => r = (rv, M')) := Ok.of h0 rfl
  clear h0
  delta f_X6_notBelow at h
  refine V_aload_n X dX6_notBelow_0 0 rfl rfl ?_
  refine G_6_0 X inX6 wFL_X6_10 dX6_notBelow_1 ?_
  refine V_iload_n X dX6_notBelow_4 1 rfl rfl ?_
  refine V_iload_n X dX6_notBelow_5 2 rfl rfl ?_
  obtain ⟨r1, e2, h⟩ := (Ok.bind h).ex
  refine C_Vi (As := [.int a1, .int a2]) (M' := M) (k0 := 1) X (wd_row row_1) rfl (cwV 2 X.1.2.2.2.2 (gw_V wML_X6_93 wIM_X3_hasSpan wSE_X3_hasSpan wIN_X3 (gw_c wCD_X3_hasSpan)) rfl rfl rfl (by decide +kernel) ⟨Nat.le_of_ble_eq_true rfl, Nat.le_of_ble_eq_true rfl⟩) rfl rfl (Nat.le_of_ble_eq_true rfl) ⟨Nat.zero_le _, Nat.zero_le _⟩ (k_X3_hasSpan l D cy q 1 row_1 a1 a2 M r1 e2) dX6_notBelow_6 ?_
  refine B_if_eq X 19 dX6_notBelow_9 (by decide) h (fun h => ?_) (fun h => ?_)
  · refine V_ldc X wKI_X6_66 dX6_notBelow_19 ?_
    have h : ((-1000001 : Int32), M) = (rv, M') := h
    exact R_i X hr hlk (congrArg Prod.fst h) (congrArg Prod.snd h) dX6_notBelow_21
  · refine V_iload_n X dX6_notBelow_12 3 rfl rfl ?_
    obtain ⟨r3, e4, h⟩ := (Ok.bind h).ex
    refine C_Si (As := [.int a3]) (M' := M) X (va_cwS 1 X.1.2.2.2.2 (gw_S wML_X6_62 wST_X6_isSymbol wIN_X6 (gw_c wCD_X6_isSymbol)) rfl rfl rfl (by decide +kernel) ⟨Nat.le_of_ble_eq_true rfl, Nat.le_of_ble_eq_true rfl⟩) rfl rfl (Nat.le_of_ble_eq_true rfl) ⟨Nat.zero_le _, Nat.zero_le _⟩ (k_X6_isSymbol l D cy q a3 M r3 e4) dX6_notBelow_13 ?_
    refine B_if_ne X 22 dX6_notBelow_16 (by decide) h (fun h => ?_) (fun h => ?_)
    · refine V_aload_n X dX6_notBelow_22 0 rfl rfl ?_
      refine G_6_3 X inX6 wFL_X6_33 dX6_notBelow_23 ?_
      refine V_aload_n X dX6_notBelow_26 0 rfl rfl ?_
      refine G_6_0 X inX6 wFL_X6_10 dX6_notBelow_27 ?_
      refine V_iload_n X dX6_notBelow_30 1 rfl rfl ?_
      refine V_iload_n X dX6_notBelow_31 2 rfl rfl ?_
      obtain ⟨r5, e6, h⟩ := (Ok.bind h).ex
      refine C_Vv (As := [.ref (q 1), .int a1, .int a2]) (M' := r5) (k0 := 33) X (wd_tly tly_33) rfl (cwV 3 X.1.2.2.2.2 (gw_V wML_X6_100 wIM_X4_fill wSE_X4_fill wIN_X4 (gw_c wCD_X4_fill)) rfl rfl rfl (by decide +kernel) ⟨Nat.le_of_ble_eq_true rfl, Nat.le_of_ble_eq_true rfl⟩) rfl rfl (Nat.le_of_ble_eq_true rfl) ⟨Nat.zero_le _, Nat.zero_le _⟩ (k_X4_fill l D cy q F 33 tly_33 1 row_1 a1 a2 M r5 e6) dX6_notBelow_32 ?_
      refine V_aload_n X dX6_notBelow_35 0 rfl rfl ?_
      refine G_6_3 X inX6 wFL_X6_33 dX6_notBelow_36 ?_
      refine V_iload_n X dX6_notBelow_39 3 rfl rfl ?_
      obtain ⟨r7, e8, h⟩ := (Ok.bind h).ex
      refine C_Vi (As := [.int a3]) (M' := r5) (k0 := 33) X (wd_tly tly_33) rfl (cwV 1 X.1.2.2.2.2 (gw_V wML_X6_157 wIM_X4_leastFrom wSE_X4_leastFrom wIN_X4 (gw_c wCD_X4_leastFrom)) rfl rfl rfl (by decide +kernel) ⟨Nat.le_of_ble_eq_true rfl, Nat.le_of_ble_eq_true rfl⟩) rfl rfl (Nat.le_of_ble_eq_true rfl) ⟨Nat.zero_le _, Nat.zero_le _⟩ (k_X4_leastFrom l D cy q F 33 tly_33 a3 r5 r7 e8) dX6_notBelow_40 ?_
      obtain ⟨r9, e10, h⟩ := (Ok.bind h).ex
      refine C_Si (As := [.int r7]) (M' := r5) X (va_cwS 1 X.1.2.2.2.2 (gw_S wML_X6_151 wST_X6_symbolOrNotFound wIN_X6 (gw_c wCD_X6_symbolOrNotFound)) rfl rfl rfl (by decide +kernel) ⟨Nat.le_of_ble_eq_true rfl, Nat.le_of_ble_eq_true rfl⟩) rfl rfl (Nat.le_of_ble_eq_true rfl) ⟨Nat.zero_le _, Nat.zero_le _⟩ (k_X6_symbolOrNotFound l D cy q r7 r5 r9 e10) dX6_notBelow_43 ?_
      have h : (r9, r5) = (rv, M') := h
      exact R_i X hr hlk (congrArg Prod.fst h) (congrArg Prod.snd h) dX6_notBelow_46
    · refine V_ldc X wKI_X6_66 dX6_notBelow_19 ?_
      have h : ((-1000001 : Int32), M) = (rv, M') := h
      exact R_i X hr hlk (congrArg Prod.fst h) (congrArg Prod.snd h) dX6_notBelow_21
def rm_X3_sum : Room := { frames := 2, cells := 0, slots := 0, locals := 42 }
def f_X3_sum (F : Nat) (k0 : Nat) (a1 : Int32) (a2 : Int32) (M : Mm) : Option (Int32) :=
  lpf (fun z1 : Int32 × Int32 => if a2 ≤ z1.2 then (some (.inr z1.1)) else ((f_X3_at k0 z1.2 M).bind fun r2 => some (.inl ((z1.1 + r2), (z1.2 + (nI 1)))))) F ((nI 0), a1)
set_option maxRecDepth 100000 in
set_option maxHeartbeats 4000000 in
theorem k_X3_sum (l : Launch) (D : va_G) (cy : Nat → ClassId) (q : Nat → Nat) (F : Nat) (k0 : Nat) (hk0 : isRow k0) (a1 : Int32) (a2 : Int32) (M : Mm) (rv : Int32) (h0 : f_X3_sum F k0 a1 a2 M = some rv) : KI l yX3_sum (Cond.code yX3_sum cX3_sum 5 (Option.some FieldType.int) :: gw) rm_X3_sum D cy q [.ref (q k0), .int a1, .int a2] M rv M := by
  refine KI.mk (L0 := [(0, .ref (q k0)), (1, .int a1), (2, .int a2)]) (by decide +kernel) rfl (Nat.le_of_ble_eq_true rfl) rfl rfl rfl ?_
  intro p e s m below meth c X0 hr hlk
  have X := Fx.gw (own := RX3) X0
  clear X0
  have h : Ok (f_X3_sum F k0 a1 a2 M) (fun r => r = rv) := Ok.of h0 rfl
  clear h0
  delta f_X3_sum at h
  refine V_iconst (v := (nI 0)) X dX3_sum_0 (by decide) ?_
  refine V_istore_n (L' := [(3, .int (nI 0)), (0, .ref (q k0)), (1, .int a1), (2, .int a2)]) X dX3_sum_1 rfl (by decide) rfl ?_
  refine V_iload_n X dX3_sum_2 2 rfl rfl ?_
  refine V_istore (L' := [(4, .int a1), (3, .int (nI 0)), (0, .ref (q k0)), (1, .int a1), (2, .int a2)]) X dX3_sum_3 (by decide) rfl ?_
  refine V_sub (L' := [(0, .ref (q k0)), (2, .int a2), (3, .int (nI 0)), (4, .int a1)]) [2, 4, 1, 0] rfl ?_
  refine V_loop X h (fun z1 => M) (fun z1 => [(0, .ref (q k0)), (2, .int a2), (3, .int z1.1), (4, .int z1.2)]) rfl rfl (fun z1 h => ?_)
  refine V_iload X dX3_sum_5 3 rfl ?_
  refine V_iload_n X dX3_sum_7 1 rfl rfl ?_
  refine B_icmp_ge X 26 dX3_sum_8 (by decide) h (fun h => ?_) (fun h => ?_)
  · refine V_iload_n X dX3_sum_26 2 rfl rfl ?_
    have h : z1.1 = rv := h
    exact R_i X hr hlk h rfl dX3_sum_27
  · refine V_iload_n X dX3_sum_11 2 rfl rfl ?_
    refine V_aload_n X dX3_sum_12 0 rfl rfl ?_
    refine V_iload X dX3_sum_13 3 rfl ?_
    obtain ⟨r2, e3, h⟩ := (Ok.bind h).ex
    refine C_Vi (As := [.int z1.2]) (M' := M) (k0 := k0) X (wd_row hk0) rfl (cwV 1 X.1.2.2.2.2 (gw_V wML_X3_27 wIM_X3_at wSE_X3_at wIN_X3 (gw_c wCD_X3_at)) rfl rfl rfl (by decide +kernel) ⟨Nat.le_of_ble_eq_true rfl, Nat.le_of_ble_eq_true rfl⟩) rfl rfl (Nat.le_of_ble_eq_true rfl) ⟨Nat.zero_le _, Nat.zero_le _⟩ (k_X3_at l D cy q k0 hk0 z1.2 M r2 e3) dX3_sum_15 ?_
    refine V_iadd X dX3_sum_18 ?_
    refine V_istore_n (L' := [(3, .int (z1.1 + r2)), (0, .ref (q k0)), (2, .int a2), (4, .int z1.2)]) X dX3_sum_19 rfl (by decide) rfl ?_
    refine V_iinc (v := (z1.2 + (nI 1))) (L' := [(4, .int (z1.2 + (nI 1))), (3, .int (z1.1 + r2)), (0, .ref (q k0)), (2, .int a2)]) (j := 3) X dX3_sum_20 rfl rfl (by decide) rfl ?_
    refine V_goto X 5 dX3_sum_23 (by decide) ?_
    exact V_sub [2, 3, 1, 0] rfl h
def rm_X3_wrongPairs : Room := { frames := 2, cells := 0, slots := 0, locals := 42 }
def f_X3_wrongPairs (F : Nat) (k0 : Nat) (a1 : Int32) (a2 : Int32) (M : Mm) : Option (Int32) :=
  lpf (fun z1 : Int32 × Int32 => if a2 ≤ z1.2 then (some (.inr z1.1)) else (lpf (fun z2 : Int32 × Int32 => if a2 ≤ z2.2 then (some (.inr (.inl (z2.1, (z1.2 + (nI 1)))))) else ((f_X3_at k0 z1.2 M).bind fun r3 => (f_X3_at k0 z2.2 M).bind fun r5 => if r3 ≤ r5 then (some (.inl (z2.1, (z2.2 + (nI 1))))) else (some (.inl ((z2.1 + (nI 1)), (z2.2 + (nI 1))))))) F (z1.1, (z1.2 + (nI 1))))) F ((nI 0), a1)
set_option maxRecDepth 100000 in
set_option maxHeartbeats 4000000 in
theorem k_X3_wrongPairs (l : Launch) (D : va_G) (cy : Nat → ClassId) (q : Nat → Nat) (F : Nat) (k0 : Nat) (hk0 : isRow k0) (a1 : Int32) (a2 : Int32) (M : Mm) (rv : Int32) (h0 : f_X3_wrongPairs F k0 a1 a2 M = some rv) : KI l yX3_wrongPairs (Cond.code yX3_wrongPairs cX3_wrongPairs 6 (Option.some FieldType.int) :: gw) rm_X3_wrongPairs D cy q [.ref (q k0), .int a1, .int a2] M rv M := by
  refine KI.mk (L0 := [(0, .ref (q k0)), (1, .int a1), (2, .int a2)]) (by decide +kernel) rfl (Nat.le_of_ble_eq_true rfl) rfl rfl rfl ?_
  intro p e s m below meth c X0 hr hlk
  have X := Fx.gw (own := RX3) X0
  clear X0
  have h : Ok (f_X3_wrongPairs F k0 a1 a2 M) (fun r => r = rv) := Ok.of h0 rfl
  clear h0
  delta f_X3_wrongPairs at h
  refine V_iconst (v := (nI 0)) X dX3_wrongPairs_0 (by decide) ?_
  refine V_istore_n (L' := [(3, .int (nI 0)), (0, .ref (q k0)), (1, .int a1), (2, .int a2)]) X dX3_wrongPairs_1 rfl (by decide) rfl ?_
  refine V_iload_n X dX3_wrongPairs_2 2 rfl rfl ?_
  refine V_istore (L' := [(4, .int a1), (3, .int (nI 0)), (0, .ref (q k0)), (1, .int a1), (2, .int a2)]) X dX3_wrongPairs_3 (by decide) rfl ?_
  refine V_sub (L' := [(0, .ref (q k0)), (2, .int a2), (3, .int (nI 0)), (4, .int a1)]) [2, 4, 1, 0] rfl ?_
  refine V_loop X h (fun z1 => M) (fun z1 => [(0, .ref (q k0)), (2, .int a2), (3, .int z1.1), (4, .int z1.2)]) rfl rfl (fun z1 h => ?_)
  refine V_iload X dX3_wrongPairs_5 3 rfl ?_
  refine V_iload_n X dX3_wrongPairs_7 1 rfl rfl ?_
  refine B_icmp_ge X 53 dX3_wrongPairs_8 (by decide) h (fun h => ?_) (fun h => ?_)
  · refine V_iload_n X dX3_wrongPairs_53 2 rfl rfl ?_
    have h : z1.1 = rv := h
    exact R_i X hr hlk h rfl dX3_wrongPairs_54
  · refine V_iload X dX3_wrongPairs_11 3 rfl ?_
    refine V_iconst (v := (nI 1)) X dX3_wrongPairs_13 (by decide) ?_
    refine V_iadd X dX3_wrongPairs_14 ?_
    refine V_istore (L' := [(5, .int (z1.2 + (nI 1))), (0, .ref (q k0)), (2, .int a2), (3, .int z1.1), (4, .int z1.2)]) X dX3_wrongPairs_15 (by decide) rfl ?_
    refine V_sub (L' := [(0, .ref (q k0)), (2, .int a2), (3, .int z1.1), (4, .int z1.2), (5, .int (z1.2 + (nI 1)))]) [1, 2, 3, 4, 0] rfl ?_
    refine V_loop X h (fun z2 => M) (fun z2 => [(0, .ref (q k0)), (2, .int a2), (3, .int z2.1), (4, .int z1.2), (5, .int z2.2)]) rfl rfl (fun z2 h => ?_)
    refine V_iload X dX3_wrongPairs_17 4 rfl ?_
    refine V_iload_n X dX3_wrongPairs_19 1 rfl rfl ?_
    refine B_icmp_ge X 47 dX3_wrongPairs_20 (by decide) h (fun h => ?_) (fun h => ?_)
    · refine V_iinc (v := (z1.2 + (nI 1))) (L' := [(4, .int (z1.2 + (nI 1))), (0, .ref (q k0)), (2, .int a2), (3, .int z2.1), (5, .int z2.2)]) (j := 3) X dX3_wrongPairs_47 rfl rfl (by decide) rfl ?_
      refine V_goto X 5 dX3_wrongPairs_50 (by decide) ?_
      exact V_sub [1, 2, 3, 0] rfl h
    · refine V_aload_n X dX3_wrongPairs_23 0 rfl rfl ?_
      refine V_iload X dX3_wrongPairs_24 3 rfl ?_
      obtain ⟨r3, e4, h⟩ := (Ok.bind h).ex
      refine C_Vi (As := [.int z1.2]) (M' := M) (k0 := k0) X (wd_row hk0) rfl (cwV 1 X.1.2.2.2.2 (gw_V wML_X3_27 wIM_X3_at wSE_X3_at wIN_X3 (gw_c wCD_X3_at)) rfl rfl rfl (by decide +kernel) ⟨Nat.le_of_ble_eq_true rfl, Nat.le_of_ble_eq_true rfl⟩) rfl rfl (Nat.le_of_ble_eq_true rfl) ⟨Nat.zero_le _, Nat.zero_le _⟩ (k_X3_at l D cy q k0 hk0 z1.2 M r3 e4) dX3_wrongPairs_26 ?_
      refine V_aload_n X dX3_wrongPairs_29 0 rfl rfl ?_
      refine V_iload X dX3_wrongPairs_30 4 rfl ?_
      obtain ⟨r5, e6, h⟩ := (Ok.bind h).ex
      refine C_Vi (As := [.int z2.2]) (M' := M) (k0 := k0) X (wd_row hk0) rfl (cwV 1 X.1.2.2.2.2 (gw_V wML_X3_27 wIM_X3_at wSE_X3_at wIN_X3 (gw_c wCD_X3_at)) rfl rfl rfl (by decide +kernel) ⟨Nat.le_of_ble_eq_true rfl, Nat.le_of_ble_eq_true rfl⟩) rfl rfl (Nat.le_of_ble_eq_true rfl) ⟨Nat.zero_le _, Nat.zero_le _⟩ (k_X3_at l D cy q k0 hk0 z2.2 M r5 e6) dX3_wrongPairs_32 ?_
      refine B_icmp_le X 41 dX3_wrongPairs_35 (by decide) h (fun h => ?_) (fun h => ?_)
      · refine V_iinc (v := (z2.2 + (nI 1))) (L' := [(5, .int (z2.2 + (nI 1))), (0, .ref (q k0)), (2, .int a2), (3, .int z2.1), (4, .int z1.2)]) (j := 4) X dX3_wrongPairs_41 rfl rfl (by decide) rfl ?_
        refine V_goto X 17 dX3_wrongPairs_44 (by decide) ?_
        exact V_sub [1, 2, 3, 4, 0] rfl h
      · refine V_iinc (v := (z2.1 + (nI 1))) (L' := [(3, .int (z2.1 + (nI 1))), (0, .ref (q k0)), (2, .int a2), (4, .int z1.2), (5, .int z2.2)]) (j := 2) X dX3_wrongPairs_38 rfl rfl (by decide) rfl ?_
        refine V_iinc (v := (z2.2 + (nI 1))) (L' := [(5, .int (z2.2 + (nI 1))), (3, .int (z2.1 + (nI 1))), (0, .ref (q k0)), (2, .int a2), (4, .int z1.2)]) (j := 4) X dX3_wrongPairs_41 rfl rfl (by decide) rfl ?_
        refine V_goto X 17 dX3_wrongPairs_44 (by decide) ?_
        exact V_sub [2, 3, 1, 4, 0] rfl h
def rm_X4_unlike : Room := { frames := 0, cells := 0, slots := 0, locals := 0 }
def f_X4_unlike (F : Nat) (k0 : Nat) (M : Mm) : Option (Int32) :=
  lpf (fun z1 : Int32 × Int32 => if (nI 16) ≤ z1.2 then (some (.inr z1.1)) else (if inb z1.2 16 = true then if (M (k0 + 1) (Int32.toNatClampNeg z1.2)) ≤ 0 then (some (.inl (z1.1, (z1.2 + (nI 1))))) else (some (.inl ((z1.1 + (nI 1)), (z1.2 + (nI 1))))) else none)) F ((nI 0), (nI 0))
set_option maxRecDepth 100000 in
set_option maxHeartbeats 4000000 in
theorem k_X4_unlike (l : Launch) (D : va_G) (cy : Nat → ClassId) (q : Nat → Nat) (F : Nat) (k0 : Nat) (hk0 : isTly k0) (M : Mm) (rv : Int32) (h0 : f_X4_unlike F k0 M = some rv) : KI l yX4_unlike (Cond.code yX4_unlike cX4_unlike 3 (Option.some FieldType.int) :: gw) rm_X4_unlike D cy q [.ref (q k0)] M rv M := by
  refine KI.mk (L0 := [(0, .ref (q k0))]) (by decide +kernel) rfl (Nat.le_of_ble_eq_true rfl) rfl rfl rfl ?_
  intro p e s m below meth c X0 hr hlk
  have X := Fx.gw (own := RX4) X0
  clear X0
  have h : Ok (f_X4_unlike F k0 M) (fun r => r = rv) := Ok.of h0 rfl
  clear h0
  delta f_X4_unlike at h
  refine V_iconst (v := (nI 0)) X dX4_unlike_0 (by decide) ?_
  refine V_istore_n (L' := [(1, .int (nI 0)), (0, .ref (q k0))]) X dX4_unlike_1 rfl (by decide) rfl ?_
  refine V_iconst (v := (nI 0)) X dX4_unlike_2 (by decide) ?_
  refine V_istore_n (L' := [(2, .int (nI 0)), (1, .int (nI 0)), (0, .ref (q k0))]) X dX4_unlike_3 rfl (by decide) rfl ?_
  refine V_sub (L' := [(0, .ref (q k0)), (1, .int (nI 0)), (2, .int (nI 0))]) [2, 1, 0] rfl ?_
  refine V_loop X h (fun z1 => M) (fun z1 => [(0, .ref (q k0)), (1, .int z1.1), (2, .int z1.2)]) rfl rfl (fun z1 h => ?_)
  refine V_iload_n X dX4_unlike_4 2 rfl rfl ?_
  refine V_bipush (v := (nI 16)) X dX4_unlike_5 (by decide) ?_
  refine B_icmp_ge X 28 dX4_unlike_7 (by decide) h (fun h => ?_) (fun h => ?_)
  · refine V_iload_n X dX4_unlike_28 1 rfl rfl ?_
    have h : z1.1 = rv := h
    exact R_i X hr hlk h rfl dX4_unlike_29
  · refine V_aload_n X dX4_unlike_10 0 rfl rfl ?_
    refine G_4_0 X hk0 inX4 wFL_X4_9 dX4_unlike_11 ?_
    refine V_iload_n X dX4_unlike_14 2 rfl rfl ?_
    refine A_a16_ld X (isTly_a hk0) h dX4_unlike_15 (fun hb2 h => ?_)
    refine B_if_le X 22 dX4_unlike_16 (by decide) h (fun h => ?_) (fun h => ?_)
    · refine V_iinc (v := (z1.2 + (nI 1))) (L' := [(2, .int (z1.2 + (nI 1))), (0, .ref (q k0)), (1, .int z1.1)]) (j := 2) X dX4_unlike_22 rfl rfl (by decide) rfl ?_
      refine V_goto X 4 dX4_unlike_25 (by decide) ?_
      exact V_sub [1, 2, 0] rfl h
    · refine V_iinc (v := (z1.1 + (nI 1))) (L' := [(1, .int (z1.1 + (nI 1))), (0, .ref (q k0)), (2, .int z1.2)]) (j := 1) X dX4_unlike_19 rfl rfl (by decide) rfl ?_
      refine V_iinc (v := (z1.2 + (nI 1))) (L' := [(2, .int (z1.2 + (nI 1))), (1, .int (z1.1 + (nI 1))), (0, .ref (q k0))]) (j := 2) X dX4_unlike_22 rfl rfl (by decide) rfl ?_
      refine V_goto X 4 dX4_unlike_25 (by decide) ?_
      exact V_sub [2, 1, 0] rfl h
def rm_X4_mostFrequent : Room := { frames := 2, cells := 0, slots := 0, locals := 41 }
def f_X4_mostFrequent (F : Nat) (k0 : Nat) (M : Mm) : Option (Int32) :=
  lpf (fun z1 : Int32 × Int32 => if (nI 16) ≤ z1.2 then (some (.inr z1.1)) else (if inb z1.2 16 = true then (f_X4_times k0 z1.1 M).bind fun r3 => if (M (k0 + 1) (Int32.toNatClampNeg z1.2)) ≤ r3 then (some (.inl (z1.1, (z1.2 + (nI 1))))) else (some (.inl (z1.2, (z1.2 + (nI 1))))) else none)) F ((-1 : Int32), (nI 0))
set_option maxRecDepth 100000 in
set_option maxHeartbeats 4000000 in
theorem k_X4_mostFrequent (l : Launch) (D : va_G) (cy : Nat → ClassId) (q : Nat → Nat) (F : Nat) (k0 : Nat) (hk0 : isTly k0) (M : Mm) (rv : Int32) (h0 : f_X4_mostFrequent F k0 M = some rv) : KI l yX4_mostFrequent (Cond.code yX4_mostFrequent cX4_mostFrequent 3 (Option.some FieldType.int) :: gw) rm_X4_mostFrequent D cy q [.ref (q k0)] M rv M := by
  refine KI.mk (L0 := [(0, .ref (q k0))]) (by decide +kernel) rfl (Nat.le_of_ble_eq_true rfl) rfl rfl rfl ?_
  intro p e s m below meth c X0 hr hlk
  have X := Fx.gw (own := RX4) X0
  clear X0
  have h : Ok (f_X4_mostFrequent F k0 M) (fun r => r = rv) := Ok.of h0 rfl
  clear h0
  delta f_X4_mostFrequent at h
  refine V_iconst (v := (-1 : Int32)) X dX4_mostFrequent_0 (by decide) ?_
  refine V_istore_n (L' := [(1, .int (-1 : Int32)), (0, .ref (q k0))]) X dX4_mostFrequent_1 rfl (by decide) rfl ?_
  refine V_iconst (v := (nI 0)) X dX4_mostFrequent_2 (by decide) ?_
  refine V_istore_n (L' := [(2, .int (nI 0)), (1, .int (-1 : Int32)), (0, .ref (q k0))]) X dX4_mostFrequent_3 rfl (by decide) rfl ?_
  refine V_sub (L' := [(0, .ref (q k0)), (1, .int (-1 : Int32)), (2, .int (nI 0))]) [2, 1, 0] rfl ?_
  refine V_loop X h (fun z1 => M) (fun z1 => [(0, .ref (q k0)), (1, .int z1.1), (2, .int z1.2)]) rfl rfl (fun z1 h => ?_)
  refine V_iload_n X dX4_mostFrequent_4 2 rfl rfl ?_
  refine V_bipush (v := (nI 16)) X dX4_mostFrequent_5 (by decide) ?_
  refine B_icmp_ge X 32 dX4_mostFrequent_7 (by decide) h (fun h => ?_) (fun h => ?_)
  · refine V_iload_n X dX4_mostFrequent_32 1 rfl rfl ?_
    have h : z1.1 = rv := h
    exact R_i X hr hlk h rfl dX4_mostFrequent_33
  · refine V_aload_n X dX4_mostFrequent_10 0 rfl rfl ?_
    refine G_4_0 X hk0 inX4 wFL_X4_9 dX4_mostFrequent_11 ?_
    refine V_iload_n X dX4_mostFrequent_14 2 rfl rfl ?_
    refine A_a16_ld X (isTly_a hk0) h dX4_mostFrequent_15 (fun hb2 h => ?_)
    refine V_aload_n X dX4_mostFrequent_16 0 rfl rfl ?_
    refine V_iload_n X dX4_mostFrequent_17 1 rfl rfl ?_
    obtain ⟨r3, e4, h⟩ := (Ok.bind h).ex
    refine C_Vi (As := [.int z1.1]) (M' := M) (k0 := k0) X (wd_tly hk0) rfl (cwV 1 X.1.2.2.2.2 (gw_V wML_X4_31 wIM_X4_times wSE_X4_times wIN_X4 (gw_c wCD_X4_times)) rfl rfl rfl (by decide +kernel) ⟨Nat.le_of_ble_eq_true rfl, Nat.le_of_ble_eq_true rfl⟩) rfl rfl (Nat.le_of_ble_eq_true rfl) ⟨Nat.zero_le _, Nat.zero_le _⟩ (k_X4_times l D cy q k0 hk0 z1.1 M r3 e4) dX4_mostFrequent_18 ?_
    refine B_icmp_le X 26 dX4_mostFrequent_21 (by decide) h (fun h => ?_) (fun h => ?_)
    · refine V_iinc (v := (z1.2 + (nI 1))) (L' := [(2, .int (z1.2 + (nI 1))), (0, .ref (q k0)), (1, .int z1.1)]) (j := 2) X dX4_mostFrequent_26 rfl rfl (by decide) rfl ?_
      refine V_goto X 4 dX4_mostFrequent_29 (by decide) ?_
      exact V_sub [1, 2, 0] rfl h
    · refine V_iload_n X dX4_mostFrequent_24 2 rfl rfl ?_
      refine V_istore_n (L' := [(1, .int z1.2), (0, .ref (q k0)), (2, .int z1.2)]) X dX4_mostFrequent_25 rfl (by decide) rfl ?_
      refine V_iinc (v := (z1.2 + (nI 1))) (L' := [(2, .int (z1.2 + (nI 1))), (1, .int z1.2), (0, .ref (q k0))]) (j := 2) X dX4_mostFrequent_26 rfl rfl (by decide) rfl ?_
      refine V_goto X 4 dX4_mostFrequent_29 (by decide) ?_
      exact V_sub [2, 1, 0] rfl h
def rm_X6_spanOf : Room := { frames := 3, cells := 0, slots := 0, locals := 67 }
def f_X6_spanOf (F : Nat) (a1 : Int32) (a2 : Int32) (a3 : Int32) (M : Mm) : Option (Int32 × Mm) :=
  (f_X3_hasSpan 1 a1 a2 M).bind fun r1 => if r1 = 0 then (some ((-1000001 : Int32), M)) else ((f_X6_isAtMost a3 (nI 5)).bind fun r3 => if r3 = 0 then (some ((-1000001 : Int32), M)) else (if a3 = (nI 3) then ((f_X3_sum F 1 a1 a2 M).bind fun r17 => some (r17, M)) else (if a3 = (nI 4) then ((f_X3_wrongPairs F 1 a1 a2 M).bind fun r15 => if r15 = 0 then (some ((nI 1), M)) else (some ((nI 0), M))) else (if a3 = (nI 5) then ((f_X3_wrongPairs F 1 a1 a2 M).bind fun r13 => some (r13, M)) else ((f_X4_fill F 33 1 a1 a2 M).bind fun r5 => if a3 = 0 then ((f_X4_unlike F 33 r5).bind fun r11 => some (r11, r5)) else ((f_X4_mostFrequent F 33 r5).bind fun r7 => if r7 = (-1 : Int32) then (some ((-1000004 : Int32), r5)) else (if a3 = (nI 1) then (some (r7, r5)) else ((f_X4_times 33 r7 r5).bind fun r9 => some (r9, r5)))))))))
set_option maxRecDepth 100000 in
set_option maxHeartbeats 4000000 in
theorem k_X6_spanOf (l : Launch) (D : va_G) (cy : Nat → ClassId) (q : Nat → Nat) (F : Nat) (a1 : Int32) (a2 : Int32) (a3 : Int32) (M : Mm) (rv : Int32) (M' : Mm) (h0 : f_X6_spanOf F a1 a2 a3 M = some (rv, M')) : KI l yX6_spanOf (Cond.code yX6_spanOf cX6_spanOf 5 (Option.some FieldType.int) :: gw) rm_X6_spanOf D cy q [.ref (q 0), .int a1, .int a2, .int a3] M rv M' := by
  refine KI.mk (L0 := [(0, .ref (q 0)), (1, .int a1), (2, .int a2), (3, .int a3)]) (by decide +kernel) rfl (Nat.le_of_ble_eq_true rfl) rfl rfl rfl ?_
  intro p e s m below meth c X0 hr hlk
  have X := Fx.gw (own := RX6) X0
  clear X0
  have h : Ok (f_X6_spanOf F a1 a2 a3 M) (fun r => r = (rv, M')) := Ok.of h0 rfl
  clear h0
  delta f_X6_spanOf at h
  refine V_aload_n X dX6_spanOf_0 0 rfl rfl ?_
  refine G_6_0 X inX6 wFL_X6_10 dX6_spanOf_1 ?_
  refine V_iload_n X dX6_spanOf_4 1 rfl rfl ?_
  refine V_iload_n X dX6_spanOf_5 2 rfl rfl ?_
  obtain ⟨r1, e2, h⟩ := (Ok.bind h).ex
  refine C_Vi (As := [.int a1, .int a2]) (M' := M) (k0 := 1) X (wd_row row_1) rfl (cwV 2 X.1.2.2.2.2 (gw_V wML_X6_93 wIM_X3_hasSpan wSE_X3_hasSpan wIN_X3 (gw_c wCD_X3_hasSpan)) rfl rfl rfl (by decide +kernel) ⟨Nat.le_of_ble_eq_true rfl, Nat.le_of_ble_eq_true rfl⟩) rfl rfl (Nat.le_of_ble_eq_true rfl) ⟨Nat.zero_le _, Nat.zero_le _⟩ (k_X3_hasSpan l D cy q 1 row_1 a1 a2 M r1 e2) dX6_spanOf_6 ?_
  refine B_if_eq X 20 dX6_spanOf_9 (by decide) h (fun h => ?_) (fun h => ?_)
  · refine V_ldc X wKI_X6_66 dX6_spanOf_20 ?_
    have h : ((-1000001 : Int32), M) = (rv, M') := h
    exact R_i X hr hlk (congrArg Prod.fst h) (congrArg Prod.snd h) dX6_spanOf_22
  · refine V_iload_n X dX6_spanOf_12 3 rfl rfl ?_
    refine V_iconst (v := (nI 5)) X dX6_spanOf_13 (by decide) ?_
    obtain ⟨r3, e4, h⟩ := (Ok.bind h).ex
    refine C_Si (As := [.int a3, .int (nI 5)]) (M' := M) X (va_cwS 2 X.1.2.2.2.2 (gw_S wML_X6_58 wST_X6_isAtMost wIN_X6 (gw_c wCD_X6_isAtMost)) rfl rfl rfl (by decide +kernel) ⟨Nat.le_of_ble_eq_true rfl, Nat.le_of_ble_eq_true rfl⟩) rfl rfl (Nat.le_of_ble_eq_true rfl) ⟨Nat.zero_le _, Nat.zero_le _⟩ (k_X6_isAtMost l D cy q a3 (nI 5) M r3 e4) dX6_spanOf_14 ?_
    refine B_if_ne X 23 dX6_spanOf_17 (by decide) h (fun h => ?_) (fun h => ?_)
    · refine V_iload_n X dX6_spanOf_23 3 rfl rfl ?_
      refine V_iconst (v := (nI 3)) X dX6_spanOf_24 (by decide) ?_
      refine B_icmp_ne X 38 dX6_spanOf_25 (by decide) h (fun h => ?_) (fun h => ?_)
      · refine V_iload_n X dX6_spanOf_38 3 rfl rfl ?_
        refine V_iconst (v := (nI 4)) X dX6_spanOf_39 (by decide) ?_
        refine B_icmp_ne X 61 dX6_spanOf_40 (by decide) h (fun h => ?_) (fun h => ?_)
        · refine V_iload_n X dX6_spanOf_61 3 rfl rfl ?_
          refine V_iconst (v := (nI 5)) X dX6_spanOf_62 (by decide) ?_
          refine B_icmp_ne X 76 dX6_spanOf_63 (by decide) h (fun h => ?_) (fun h => ?_)
          · refine V_aload_n X dX6_spanOf_76 0 rfl rfl ?_
            refine G_6_3 X inX6 wFL_X6_33 dX6_spanOf_77 ?_
            refine V_aload_n X dX6_spanOf_80 0 rfl rfl ?_
            refine G_6_0 X inX6 wFL_X6_10 dX6_spanOf_81 ?_
            refine V_iload_n X dX6_spanOf_84 1 rfl rfl ?_
            refine V_iload_n X dX6_spanOf_85 2 rfl rfl ?_
            obtain ⟨r5, e6, h⟩ := (Ok.bind h).ex
            refine C_Vv (As := [.ref (q 1), .int a1, .int a2]) (M' := r5) (k0 := 33) X (wd_tly tly_33) rfl (cwV 3 X.1.2.2.2.2 (gw_V wML_X6_100 wIM_X4_fill wSE_X4_fill wIN_X4 (gw_c wCD_X4_fill)) rfl rfl rfl (by decide +kernel) ⟨Nat.le_of_ble_eq_true rfl, Nat.le_of_ble_eq_true rfl⟩) rfl rfl (Nat.le_of_ble_eq_true rfl) ⟨Nat.zero_le _, Nat.zero_le _⟩ (k_X4_fill l D cy q F 33 tly_33 1 row_1 a1 a2 M r5 e6) dX6_spanOf_86 ?_
            refine V_iload_n X dX6_spanOf_89 3 rfl rfl ?_
            refine B_if_ne X 101 dX6_spanOf_90 (by decide) h (fun h => ?_) (fun h => ?_)
            · refine V_aload_n X dX6_spanOf_101 0 rfl rfl ?_
              refine G_6_3 X inX6 wFL_X6_33 dX6_spanOf_102 ?_
              obtain ⟨r7, e8, h⟩ := (Ok.bind h).ex
              refine C_Vi (As := []) (M' := r5) (k0 := 33) X (wd_tly tly_33) rfl (cwV 0 X.1.2.2.2.2 (gw_V wML_X6_169 wIM_X4_mostFrequent wSE_X4_mostFrequent wIN_X4 (gw_c wCD_X4_mostFrequent)) rfl rfl rfl (by decide +kernel) ⟨Nat.le_of_ble_eq_true rfl, Nat.le_of_ble_eq_true rfl⟩) rfl rfl (Nat.le_of_ble_eq_true rfl) ⟨Nat.zero_le _, Nat.zero_le _⟩ (k_X4_mostFrequent l D cy q F 33 tly_33 r5 r7 e8) dX6_spanOf_105 ?_
              refine V_istore (L' := [(4, .int r7), (0, .ref (q 0)), (1, .int a1), (2, .int a2), (3, .int a3)]) X dX6_spanOf_108 (by decide) rfl ?_
              refine V_iload X dX6_spanOf_110 0 rfl ?_
              refine V_iconst (v := (-1 : Int32)) X dX6_spanOf_112 (by decide) ?_
              refine B_icmp_ne X 119 dX6_spanOf_113 (by decide) h (fun h => ?_) (fun h => ?_)
              · refine V_iload_n X dX6_spanOf_119 4 rfl rfl ?_
                refine V_iconst (v := (nI 1)) X dX6_spanOf_120 (by decide) ?_
                refine B_icmp_ne X 129 dX6_spanOf_121 (by decide) h (fun h => ?_) (fun h => ?_)
                · refine V_aload_n X dX6_spanOf_129 1 rfl rfl ?_
                  refine G_6_3 X inX6 wFL_X6_33 dX6_spanOf_130 ?_
                  refine V_iload X dX6_spanOf_133 0 rfl ?_
                  obtain ⟨r9, e10, h⟩ := (Ok.bind h).ex
                  refine C_Vi (As := [.int r7]) (M' := r5) (k0 := 33) X (wd_tly tly_33) rfl (cwV 1 X.1.2.2.2.2 (gw_V wML_X6_145 wIM_X4_times wSE_X4_times wIN_X4 (gw_c wCD_X4_times)) rfl rfl rfl (by decide +kernel) ⟨Nat.le_of_ble_eq_true rfl, Nat.le_of_ble_eq_true rfl⟩) rfl rfl (Nat.le_of_ble_eq_true rfl) ⟨Nat.zero_le _, Nat.zero_le _⟩ (k_X4_times l D cy q 33 tly_33 r7 r5 r9 e10) dX6_spanOf_135 ?_
                  have h : (r9, r5) = (rv, M') := h
                  exact R_i X hr hlk (congrArg Prod.fst h) (congrArg Prod.snd h) dX6_spanOf_138
                · refine V_iload X dX6_spanOf_124 0 rfl ?_
                  refine V_goto X 138 dX6_spanOf_126 (by decide) ?_
                  have h : (r7, r5) = (rv, M') := h
                  exact R_i X hr hlk (congrArg Prod.fst h) (congrArg Prod.snd h) dX6_spanOf_138
              · refine V_ldc X wKI_X6_108 dX6_spanOf_116 ?_
                have h : ((-1000004 : Int32), r5) = (rv, M') := h
                exact R_i X hr hlk (congrArg Prod.fst h) (congrArg Prod.snd h) dX6_spanOf_118
            · refine V_aload_n X dX6_spanOf_93 0 rfl rfl ?_
              refine G_6_3 X inX6 wFL_X6_33 dX6_spanOf_94 ?_
              obtain ⟨r11, e12, h⟩ := (Ok.bind h).ex
              refine C_Vi (As := []) (M' := r5) (k0 := 33) X (wd_tly tly_33) rfl (cwV 0 X.1.2.2.2.2 (gw_V wML_X6_166 wIM_X4_unlike wSE_X4_unlike wIN_X4 (gw_c wCD_X4_unlike)) rfl rfl rfl (by decide +kernel) ⟨Nat.le_of_ble_eq_true rfl, Nat.le_of_ble_eq_true rfl⟩) rfl rfl (Nat.le_of_ble_eq_true rfl) ⟨Nat.zero_le _, Nat.zero_le _⟩ (k_X4_unlike l D cy q F 33 tly_33 r5 r11 e12) dX6_spanOf_97 ?_
              have h : (r11, r5) = (rv, M') := h
              exact R_i X hr hlk (congrArg Prod.fst h) (congrArg Prod.snd h) dX6_spanOf_100
          · refine V_aload_n X dX6_spanOf_66 0 rfl rfl ?_
            refine G_6_0 X inX6 wFL_X6_10 dX6_spanOf_67 ?_
            refine V_iload_n X dX6_spanOf_70 1 rfl rfl ?_
            refine V_iload_n X dX6_spanOf_71 2 rfl rfl ?_
            obtain ⟨r13, e14, h⟩ := (Ok.bind h).ex
            refine C_Vi (As := [.int a1, .int a2]) (M' := M) (k0 := 1) X (wd_row row_1) rfl (cwV 2 X.1.2.2.2.2 (gw_V wML_X6_163 wIM_X3_wrongPairs wSE_X3_wrongPairs wIN_X3 (gw_c wCD_X3_wrongPairs)) rfl rfl rfl (by decide +kernel) ⟨Nat.le_of_ble_eq_true rfl, Nat.le_of_ble_eq_true rfl⟩) rfl rfl (Nat.le_of_ble_eq_true rfl) ⟨Nat.zero_le _, Nat.zero_le _⟩ (k_X3_wrongPairs l D cy q F 1 row_1 a1 a2 M r13 e14) dX6_spanOf_72 ?_
            have h : (r13, M) = (rv, M') := h
            exact R_i X hr hlk (congrArg Prod.fst h) (congrArg Prod.snd h) dX6_spanOf_75
        · refine V_aload_n X dX6_spanOf_43 0 rfl rfl ?_
          refine G_6_0 X inX6 wFL_X6_10 dX6_spanOf_44 ?_
          refine V_iload_n X dX6_spanOf_47 1 rfl rfl ?_
          refine V_iload_n X dX6_spanOf_48 2 rfl rfl ?_
          obtain ⟨r15, e16, h⟩ := (Ok.bind h).ex
          refine C_Vi (As := [.int a1, .int a2]) (M' := M) (k0 := 1) X (wd_row row_1) rfl (cwV 2 X.1.2.2.2.2 (gw_V wML_X6_163 wIM_X3_wrongPairs wSE_X3_wrongPairs wIN_X3 (gw_c wCD_X3_wrongPairs)) rfl rfl rfl (by decide +kernel) ⟨Nat.le_of_ble_eq_true rfl, Nat.le_of_ble_eq_true rfl⟩) rfl rfl (Nat.le_of_ble_eq_true rfl) ⟨Nat.zero_le _, Nat.zero_le _⟩ (k_X3_wrongPairs l D cy q F 1 row_1 a1 a2 M r15 e16) dX6_spanOf_49 ?_
          refine B_if_ne X 59 dX6_spanOf_52 (by decide) h (fun h => ?_) (fun h => ?_)
          · refine V_iconst (v := (nI 0)) X dX6_spanOf_59 (by decide) ?_
            have h : ((nI 0), M) = (rv, M') := h
            exact R_i X hr hlk (congrArg Prod.fst h) (congrArg Prod.snd h) dX6_spanOf_60
          · refine V_iconst (v := (nI 1)) X dX6_spanOf_55 (by decide) ?_
            refine V_goto X 60 dX6_spanOf_56 (by decide) ?_
            have h : ((nI 1), M) = (rv, M') := h
            exact R_i X hr hlk (congrArg Prod.fst h) (congrArg Prod.snd h) dX6_spanOf_60
      · refine V_aload_n X dX6_spanOf_28 0 rfl rfl ?_
        refine G_6_0 X inX6 wFL_X6_10 dX6_spanOf_29 ?_
        refine V_iload_n X dX6_spanOf_32 1 rfl rfl ?_
        refine V_iload_n X dX6_spanOf_33 2 rfl rfl ?_
        obtain ⟨r17, e18, h⟩ := (Ok.bind h).ex
        refine C_Vi (As := [.int a1, .int a2]) (M' := M) (k0 := 1) X (wd_row row_1) rfl (cwV 2 X.1.2.2.2.2 (gw_V wML_X6_160 wIM_X3_sum wSE_X3_sum wIN_X3 (gw_c wCD_X3_sum)) rfl rfl rfl (by decide +kernel) ⟨Nat.le_of_ble_eq_true rfl, Nat.le_of_ble_eq_true rfl⟩) rfl rfl (Nat.le_of_ble_eq_true rfl) ⟨Nat.zero_le _, Nat.zero_le _⟩ (k_X3_sum l D cy q F 1 row_1 a1 a2 M r17 e18) dX6_spanOf_34 ?_
        have h : (r17, M) = (rv, M') := h
        exact R_i X hr hlk (congrArg Prod.fst h) (congrArg Prod.snd h) dX6_spanOf_37
    · refine V_ldc X wKI_X6_66 dX6_spanOf_20 ?_
      have h : ((-1000001 : Int32), M) = (rv, M') := h
      exact R_i X hr hlk (congrArg Prod.fst h) (congrArg Prod.snd h) dX6_spanOf_22
def rm_X6_product : Room := { frames := 2, cells := 0, slots := 0, locals := 42 }
def f_X6_product (F : Nat) (a1 : Int32) (a2 : Int32) (M : Mm) : Option (Int64) :=
  (f_X3_hasSpan 1 a1 a2 M).bind fun r1 => if r1 = 0 then (some (-1000001 : Int64)) else (lpf (fun z3 : Int64 × Int32 => if a2 ≤ z3.2 then (some (.inr z3.1)) else ((f_X3_at 1 z3.2 M).bind fun r4 => if (r4 + (nI 1)) ≤ 0 then (some (.inl ((z3.1 * (Int32.toInt64 (r4 + (nI 1)))), (z3.2 + (nI 1))))) else (if ¬ (Int32.toInt64 (r4 + (nI 1))) = 0 then if (lg_cmp z3.1 ((9223372036854775807 : Int64) / (Int32.toInt64 (r4 + (nI 1))))) ≤ 0 then (some (.inl ((z3.1 * (Int32.toInt64 (r4 + (nI 1)))), (z3.2 + (nI 1))))) else (some (.inr (-1000003 : Int64))) else none))) F ((1 : Int64), a1))
set_option maxRecDepth 100000 in
set_option maxHeartbeats 4000000 in
theorem k_X6_product (l : Launch) (D : va_G) (cy : Nat → ClassId) (q : Nat → Nat) (F : Nat) (a1 : Int32) (a2 : Int32) (M : Mm) (rv : Int64) (h0 : f_X6_product F a1 a2 M = some rv) : KL l yX6_product (Cond.code yX6_product cX6_product 7 (Option.some FieldType.long) :: gw) rm_X6_product D cy q [.ref (q 0), .int a1, .int a2] M rv M := by
  refine KL.mk (L0 := [(0, .ref (q 0)), (1, .int a1), (2, .int a2)]) (by decide +kernel) rfl (Nat.le_of_ble_eq_true rfl) rfl rfl rfl ?_
  intro p e s m below meth c X0 hr hlk
  have X := Fx.gw (own := RX6) X0
  clear X0
  have h : Ok (f_X6_product F a1 a2 M) (fun r => r = rv) := Ok.of h0 rfl
  clear h0
  delta f_X6_product at h
  refine V_aload_n X dX6_product_0 0 rfl rfl ?_
  refine G_6_0 X inX6 wFL_X6_10 dX6_product_1 ?_
  refine V_iload_n X dX6_product_4 1 rfl rfl ?_
  refine V_iload_n X dX6_product_5 2 rfl rfl ?_
  obtain ⟨r1, e2, h⟩ := (Ok.bind h).ex
  refine C_Vi (As := [.int a1, .int a2]) (M' := M) (k0 := 1) X (wd_row row_1) rfl (cwV 2 X.1.2.2.2.2 (gw_V wML_X6_93 wIM_X3_hasSpan wSE_X3_hasSpan wIN_X3 (gw_c wCD_X3_hasSpan)) rfl rfl rfl (by decide +kernel) ⟨Nat.le_of_ble_eq_true rfl, Nat.le_of_ble_eq_true rfl⟩) rfl rfl (Nat.le_of_ble_eq_true rfl) ⟨Nat.zero_le _, Nat.zero_le _⟩ (k_X3_hasSpan l D cy q 1 row_1 a1 a2 M r1 e2) dX6_product_6 ?_
  refine B_if_ne X 16 dX6_product_9 (by decide) h (fun h => ?_) (fun h => ?_)
  · refine V_lconst (v := 1) X dX6_product_16 (by decide) ?_
    refine V_lstore_n (L' := [(3, .long (1 : Int64)), (0, .ref (q 0)), (1, .int a1), (2, .int a2)]) X dX6_product_17 rfl (by decide) rfl ?_
    refine V_iload_n X dX6_product_18 2 rfl rfl ?_
    refine V_istore (L' := [(5, .int a1), (3, .long (1 : Int64)), (0, .ref (q 0)), (1, .int a1), (2, .int a2)]) X dX6_product_19 (by decide) rfl ?_
    refine V_sub (L' := [(0, .ref (q 0)), (2, .int a2), (3, .long (1 : Int64)), (5, .int a1)]) [2, 4, 1, 0] rfl ?_
    refine V_loop X h (fun z3 => M) (fun z3 => [(0, .ref (q 0)), (2, .int a2), (3, .long z3.1), (5, .int z3.2)]) rfl rfl (fun z3 h => ?_)
    refine V_iload X dX6_product_21 3 rfl ?_
    refine V_iload_n X dX6_product_23 1 rfl rfl ?_
    refine B_icmp_ge X 73 dX6_product_24 (by decide) h (fun h => ?_) (fun h => ?_)
    · refine V_lload_n X dX6_product_73 2 rfl rfl ?_
      have h : z3.1 = rv := h
      exact R_l X hr hlk h rfl dX6_product_74
    · refine V_aload_n X dX6_product_27 0 rfl rfl ?_
      refine G_6_0 X inX6 wFL_X6_10 dX6_product_28 ?_
      refine V_iload X dX6_product_31 3 rfl ?_
      obtain ⟨r4, e5, h⟩ := (Ok.bind h).ex
      refine C_Vi (As := [.int z3.2]) (M' := M) (k0 := 1) X (wd_row row_1) rfl (cwV 1 X.1.2.2.2.2 (gw_V wML_X6_79 wIM_X3_at wSE_X3_at wIN_X3 (gw_c wCD_X3_at)) rfl rfl rfl (by decide +kernel) ⟨Nat.le_of_ble_eq_true rfl, Nat.le_of_ble_eq_true rfl⟩) rfl rfl (Nat.le_of_ble_eq_true rfl) ⟨Nat.zero_le _, Nat.zero_le _⟩ (k_X3_at l D cy q 1 row_1 z3.2 M r4 e5) dX6_product_33 ?_
      refine V_iconst (v := (nI 1)) X dX6_product_36 (by decide) ?_
      refine V_iadd X dX6_product_37 ?_
      refine V_istore (L' := [(6, .int (r4 + (nI 1))), (0, .ref (q 0)), (2, .int a2), (3, .long z3.1), (5, .int z3.2)]) X dX6_product_38 (by decide) rfl ?_
      refine V_iload X dX6_product_40 0 rfl ?_
      refine B_if_le X 61 dX6_product_42 (by decide) h (fun h => ?_) (fun h => ?_)
      · refine V_lload_n X dX6_product_61 3 rfl rfl ?_
        refine V_iload X dX6_product_62 0 rfl ?_
        refine V_i2l X dX6_product_64 ?_
        refine V_lmul X dX6_product_65 ?_
        refine V_lstore_n (L' := [(3, .long (z3.1 * (Int32.toInt64 (r4 + (nI 1))))), (6, .int (r4 + (nI 1))), (0, .ref (q 0)), (2, .int a2), (5, .int z3.2)]) X dX6_product_66 rfl (by decide) rfl ?_
        refine V_iinc (v := (z3.2 + (nI 1))) (L' := [(5, .int (z3.2 + (nI 1))), (3, .long (z3.1 * (Int32.toInt64 (r4 + (nI 1))))), (6, .int (r4 + (nI 1))), (0, .ref (q 0)), (2, .int a2)]) (j := 4) X dX6_product_67 rfl rfl (by decide) rfl ?_
        refine V_goto X 21 dX6_product_70 (by decide) ?_
        exact V_sub [3, 4, 1, 0] rfl h
      · refine V_lload_n X dX6_product_45 3 rfl rfl ?_
        refine V_ldc2 X wKL_X6_172 dX6_product_46 ?_
        refine V_iload X dX6_product_49 0 rfl ?_
        refine V_i2l X dX6_product_51 ?_
        obtain ⟨hz6, h⟩ := h.test
        refine V_ldiv X dX6_product_52 hz6 ?_
        refine V_lcmp X dX6_product_53 ?_
        refine B_if_le X 61 dX6_product_54 (by decide) h (fun h => ?_) (fun h => ?_)
        · refine V_lload_n X dX6_product_61 3 rfl rfl ?_
          refine V_iload X dX6_product_62 0 rfl ?_
          refine V_i2l X dX6_product_64 ?_
          refine V_lmul X dX6_product_65 ?_
          refine V_lstore_n (L' := [(3, .long (z3.1 * (Int32.toInt64 (r4 + (nI 1))))), (6, .int (r4 + (nI 1))), (0, .ref (q 0)), (2, .int a2), (5, .int z3.2)]) X dX6_product_66 rfl (by decide) rfl ?_
          refine V_iinc (v := (z3.2 + (nI 1))) (L' := [(5, .int (z3.2 + (nI 1))), (3, .long (z3.1 * (Int32.toInt64 (r4 + (nI 1))))), (6, .int (r4 + (nI 1))), (0, .ref (q 0)), (2, .int a2)]) (j := 4) X dX6_product_67 rfl rfl (by decide) rfl ?_
          refine V_goto X 21 dX6_product_70 (by decide) ?_
          exact V_sub [3, 4, 1, 0] rfl h
        · refine V_ldc2 X wKL_X6_174 dX6_product_57 ?_
          have h : (-1000003 : Int64) = rv := h
          exact R_l X hr hlk h rfl dX6_product_60
  · refine V_ldc2 X wKL_X6_143 dX6_product_12 ?_
    have h : (-1000001 : Int64) = rv := h
    exact R_l X hr hlk h rfl dX6_product_15
def rm_X4_isLike : Room := { frames := 0, cells := 0, slots := 0, locals := 0 }
def f_X4_isLike (F : Nat) (k0 : Nat) (k1 : Nat) (M : Mm) : Option (Int32) :=
  lpf (fun z1 : Int32 => if (nI 16) ≤ z1 then (some (.inr (nI 1))) else (if inb z1 16 = true then if inb z1 16 = true then if (M (k0 + 1) (Int32.toNatClampNeg z1)) = (M (k1 + 1) (Int32.toNatClampNeg z1)) then (some (.inl (z1 + (nI 1)))) else (some (.inr (nI 0))) else none else none)) F (nI 0)
set_option maxRecDepth 100000 in
set_option maxHeartbeats 4000000 in
theorem k_X4_isLike (l : Launch) (D : va_G) (cy : Nat → ClassId) (q : Nat → Nat) (F : Nat) (k0 : Nat) (hk0 : isTly k0) (k1 : Nat) (hk1 : isTly k1) (M : Mm) (rv : Int32) (h0 : f_X4_isLike F k0 k1 M = some rv) : KI l yX4_isLike (Cond.code yX4_isLike cX4_isLike 3 (Option.some FieldType.boolean) :: gw) rm_X4_isLike D cy q [.ref (q k0), .ref (q k1)] M rv M := by
  refine KI.mk (L0 := [(0, .ref (q k0)), (1, .ref (q k1))]) (by decide +kernel) rfl (Nat.le_of_ble_eq_true rfl) rfl rfl rfl ?_
  intro p e s m below meth c X0 hr hlk
  have X := Fx.gw (own := RX4) X0
  clear X0
  have h : Ok (f_X4_isLike F k0 k1 M) (fun r => r = rv) := Ok.of h0 rfl
  clear h0
  delta f_X4_isLike at h
  refine V_iconst (v := (nI 0)) X dX4_isLike_0 (by decide) ?_
  refine V_istore_n (L' := [(2, .int (nI 0)), (0, .ref (q k0)), (1, .ref (q k1))]) X dX4_isLike_1 rfl (by decide) rfl ?_
  refine V_sub (L' := [(0, .ref (q k0)), (1, .ref (q k1)), (2, .int (nI 0))]) [1, 2, 0] rfl ?_
  refine V_loop X h (fun z1 => M) (fun z1 => [(0, .ref (q k0)), (1, .ref (q k1)), (2, .int z1)]) rfl rfl (fun z1 h => ?_)
  refine V_iload_n X dX4_isLike_2 2 rfl rfl ?_
  refine V_bipush (v := (nI 16)) X dX4_isLike_3 (by decide) ?_
  refine B_icmp_ge X 31 dX4_isLike_5 (by decide) h (fun h => ?_) (fun h => ?_)
  · refine V_iconst (v := (nI 1)) X dX4_isLike_31 (by decide) ?_
    have h : (nI 1) = rv := h
    exact R_z X hr hlk rfl h rfl dX4_isLike_32
  · refine V_aload_n X dX4_isLike_8 0 rfl rfl ?_
    refine G_4_0 X hk0 inX4 wFL_X4_9 dX4_isLike_9 ?_
    refine V_iload_n X dX4_isLike_12 2 rfl rfl ?_
    refine A_a16_ld X (isTly_a hk0) h dX4_isLike_13 (fun hb2 h => ?_)
    refine V_aload_n X dX4_isLike_14 1 rfl rfl ?_
    refine G_4_0 X hk1 inX4 wFL_X4_9 dX4_isLike_15 ?_
    refine V_iload_n X dX4_isLike_18 2 rfl rfl ?_
    refine A_a16_ld X (isTly_a hk1) h dX4_isLike_19 (fun hb3 h => ?_)
    refine B_icmp_eq X 25 dX4_isLike_20 (by decide) h (fun h => ?_) (fun h => ?_)
    · refine V_iinc (v := (z1 + (nI 1))) (L' := [(2, .int (z1 + (nI 1))), (0, .ref (q k0)), (1, .ref (q k1))]) (j := 2) X dX4_isLike_25 rfl rfl (by decide) rfl ?_
      refine V_goto X 2 dX4_isLike_28 (by decide) ?_
      exact V_sub [1, 2, 0] rfl h
    · refine V_iconst (v := (nI 0)) X dX4_isLike_23 (by decide) ?_
      have h : (nI 0) = rv := h
      exact R_z X hr hlk rfl h rfl dX4_isLike_24
def rm_X4_keepCommon : Room := { frames := 1, cells := 0, slots := 0, locals := 21 }
def f_X4_keepCommon (F : Nat) (k0 : Nat) (k1 : Nat) (M : Mm) : Option (Mm) :=
  lpf (fun z1 : Int32 × Mm => if (nI 16) ≤ z1.1 then (some (.inr z1.2)) else (if inb z1.1 16 = true then if inb z1.1 16 = true then if inb z1.1 16 = true then some (.inl ((z1.1 + (nI 1)), (up z1.2 (k0 + 1) (Int32.toNatClampNeg z1.1) (if (z1.2 (k1 + 1) (Int32.toNatClampNeg z1.1)) < (z1.2 (k0 + 1) (Int32.toNatClampNeg z1.1)) then (z1.2 (k1 + 1) (Int32.toNatClampNeg z1.1)) else (z1.2 (k0 + 1) (Int32.toNatClampNeg z1.1)))))) else none else none else none)) F ((nI 0), M)
set_option maxRecDepth 100000 in
set_option maxHeartbeats 4000000 in
theorem k_X4_keepCommon (l : Launch) (D : va_G) (cy : Nat → ClassId) (q : Nat → Nat) (F : Nat) (k0 : Nat) (hk0 : isTly k0) (k1 : Nat) (hk1 : isTly k1) (M : Mm) (M' : Mm) (h0 : f_X4_keepCommon F k0 k1 M = some M') : KV l yX4_keepCommon (Cond.code yX4_keepCommon cX4_keepCommon 3 none :: gw) rm_X4_keepCommon D cy q [.ref (q k0), .ref (q k1)] M M' := by
  refine KV.mk (L0 := [(0, .ref (q k0)), (1, .ref (q k1))]) (by decide +kernel) rfl (Nat.le_of_ble_eq_true rfl) rfl rfl rfl ?_
  intro p e s m below meth c X0 hr hlk
  have X := Fx.gw (own := RX4) X0
  clear X0
  have h : Ok (f_X4_keepCommon F k0 k1 M) (fun r => r = M') := Ok.of h0 rfl
  clear h0
  delta f_X4_keepCommon at h
  refine V_iconst (v := (nI 0)) X dX4_keepCommon_0 (by decide) ?_
  refine V_istore_n (L' := [(2, .int (nI 0)), (0, .ref (q k0)), (1, .ref (q k1))]) X dX4_keepCommon_1 rfl (by decide) rfl ?_
  refine V_sub (L' := [(0, .ref (q k0)), (1, .ref (q k1)), (2, .int (nI 0))]) [1, 2, 0] rfl ?_
  refine V_loop X h (fun z1 => z1.2) (fun z1 => [(0, .ref (q k0)), (1, .ref (q k1)), (2, .int z1.1)]) rfl rfl (fun z1 h => ?_)
  refine V_iload_n X dX4_keepCommon_2 2 rfl rfl ?_
  refine V_bipush (v := (nI 16)) X dX4_keepCommon_3 (by decide) ?_
  refine B_icmp_ge X 35 dX4_keepCommon_5 (by decide) h (fun h => ?_) (fun h => ?_)
  · have h : z1.2 = M' := h
    exact R_v X hr hlk h dX4_keepCommon_35
  · refine V_aload_n X dX4_keepCommon_8 0 rfl rfl ?_
    refine G_4_0 X hk0 inX4 wFL_X4_9 dX4_keepCommon_9 ?_
    refine V_iload_n X dX4_keepCommon_12 2 rfl rfl ?_
    refine V_aload_n X dX4_keepCommon_13 0 rfl rfl ?_
    refine G_4_0 X hk0 inX4 wFL_X4_9 dX4_keepCommon_14 ?_
    refine V_iload_n X dX4_keepCommon_17 2 rfl rfl ?_
    refine A_a16_ld X (isTly_a hk0) h dX4_keepCommon_18 (fun hb2 h => ?_)
    refine V_aload_n X dX4_keepCommon_19 1 rfl rfl ?_
    refine G_4_0 X hk1 inX4 wFL_X4_9 dX4_keepCommon_20 ?_
    refine V_iload_n X dX4_keepCommon_23 2 rfl rfl ?_
    refine A_a16_ld X (isTly_a hk1) h dX4_keepCommon_24 (fun hb3 h => ?_)
    refine C_min X wML_X4_33 wST_J9_min_7cf53 wIN_J9 wCD_J9_min_7cf53 (Nat.le_of_ble_eq_true rfl) (Nat.le_of_ble_eq_true rfl) ⟨Nat.zero_le _, Nat.zero_le _⟩ dX4_keepCommon_25 ?_
    refine A_a16_st X (isTly_a hk0) h dX4_keepCommon_28 (fun hb4 h => ?_)
    refine V_iinc (v := (z1.1 + (nI 1))) (L' := [(2, .int (z1.1 + (nI 1))), (0, .ref (q k0)), (1, .ref (q k1))]) (j := 2) X dX4_keepCommon_29 rfl rfl (by decide) rfl ?_
    refine V_goto X 2 dX4_keepCommon_32 (by decide) ?_
    exact V_sub [1, 2, 0] rfl h
def rm_X6_common : Room := { frames := 3, cells := 0, slots := 0, locals := 67 }
def f_X6_common (F : Nat) (a1 : Int32) (a2 : Int32) (a3 : Int32) (a4 : Int32) (a5 : Int32) (M : Mm) : Option (Int32 × Mm) :=
  (f_X3_hasSpan 1 a1 a2 M).bind fun r1 => if r1 = 0 then (some ((-1000001 : Int32), M)) else ((f_X3_hasSpan 1 a3 a4 M).bind fun r3 => if r3 = 0 then (some ((-1000001 : Int32), M)) else ((f_X6_isAtMost a5 (nI 3)).bind fun r5 => if r5 = 0 then (some ((-1000001 : Int32), M)) else ((f_X4_fill F 33 1 a1 a2 M).bind fun r7 => (f_X4_fill F 35 1 a3 a4 r7).bind fun r9 => if a5 = (nI 3) then ((f_X4_isLike F 33 35 r9).bind fun r21 => if r21 = 0 then (some ((nI 0), r9)) else (some ((nI 1), r9))) else ((f_X4_keepCommon F 33 35 r9).bind fun r11 => if a5 = 0 then ((f_X4_unlike F 33 r11).bind fun r19 => some (r19, r11)) else (if a5 = (nI 1) then ((f_X4_timesBelow F 33 (nI 16) r11).bind fun r17 => some (r17, r11)) else ((f_X4_leastFrom F 33 (nI 0) r11).bind fun r13 => (f_X6_symbolOrNotFound r13).bind fun r15 => some (r15, r11)))))))
set_option maxRecDepth 100000 in
set_option maxHeartbeats 4000000 in
theorem k_X6_common (l : Launch) (D : va_G) (cy : Nat → ClassId) (q : Nat → Nat) (F : Nat) (a1 : Int32) (a2 : Int32) (a3 : Int32) (a4 : Int32) (a5 : Int32) (M : Mm) (rv : Int32) (M' : Mm) (h0 : f_X6_common F a1 a2 a3 a4 a5 M = some (rv, M')) : KI l yX6_common (Cond.code yX6_common cX6_common 6 (Option.some FieldType.int) :: gw) rm_X6_common D cy q [.ref (q 0), .int a1, .int a2, .int a3, .int a4, .int a5] M rv M' := by
  refine KI.mk (L0 := [(0, .ref (q 0)), (1, .int a1), (2, .int a2), (3, .int a3), (4, .int a4), (5, .int a5)]) (by decide +kernel) rfl (Nat.le_of_ble_eq_true rfl) rfl rfl rfl ?_
  intro p e s m below meth c X0 hr hlk
  have X := Fx.gw (own := RX6) X0
  clear X0
  have h : Ok (f_X6_common F a1 a2 a3 a4 a5 M) (fun r => r = (rv, M')) := Ok.of h0 rfl
  clear h0
  delta f_X6_common at h
  refine V_aload_n X dX6_common_0 0 rfl rfl ?_
  refine G_6_0 X inX6 wFL_X6_10 dX6_common_1 ?_
  refine V_iload_n X dX6_common_4 1 rfl rfl ?_
  refine V_iload_n X dX6_common_5 2 rfl rfl ?_
  obtain ⟨r1, e2, h⟩ := (Ok.bind h).ex
  refine C_Vi (As := [.int a1, .int a2]) (M' := M) (k0 := 1) X (wd_row row_1) rfl (cwV 2 X.1.2.2.2.2 (gw_V wML_X6_93 wIM_X3_hasSpan wSE_X3_hasSpan wIN_X3 (gw_c wCD_X3_hasSpan)) rfl rfl rfl (by decide +kernel) ⟨Nat.le_of_ble_eq_true rfl, Nat.le_of_ble_eq_true rfl⟩) rfl rfl (Nat.le_of_ble_eq_true rfl) ⟨Nat.zero_le _, Nat.zero_le _⟩ (k_X3_hasSpan l D cy q 1 row_1 a1 a2 M r1 e2) dX6_common_6 ?_
  refine B_if_eq X 34 dX6_common_9 (by decide) h (fun h => ?_) (fun h => ?_)
  · refine V_ldc X wKI_X6_66 dX6_common_34 ?_
    have h : ((-1000001 : Int32), M) = (rv, M') := h
    exact R_i X hr hlk (congrArg Prod.fst h) (congrArg Prod.snd h) dX6_common_36
  · refine V_aload_n X dX6_common_12 0 rfl rfl ?_
    refine G_6_0 X inX6 wFL_X6_10 dX6_common_13 ?_
    refine V_iload_n X dX6_common_16 3 rfl rfl ?_
    refine V_iload X dX6_common_17 4 rfl ?_
    obtain ⟨r3, e4, h⟩ := (Ok.bind h).ex
    refine C_Vi (As := [.int a3, .int a4]) (M' := M) (k0 := 1) X (wd_row row_1) rfl (cwV 2 X.1.2.2.2.2 (gw_V wML_X6_93 wIM_X3_hasSpan wSE_X3_hasSpan wIN_X3 (gw_c wCD_X3_hasSpan)) rfl rfl rfl (by decide +kernel) ⟨Nat.le_of_ble_eq_true rfl, Nat.le_of_ble_eq_true rfl⟩) rfl rfl (Nat.le_of_ble_eq_true rfl) ⟨Nat.zero_le _, Nat.zero_le _⟩ (k_X3_hasSpan l D cy q 1 row_1 a3 a4 M r3 e4) dX6_common_19 ?_
    refine B_if_eq X 34 dX6_common_22 (by decide) h (fun h => ?_) (fun h => ?_)
    · refine V_ldc X wKI_X6_66 dX6_common_34 ?_
      have h : ((-1000001 : Int32), M) = (rv, M') := h
      exact R_i X hr hlk (congrArg Prod.fst h) (congrArg Prod.snd h) dX6_common_36
    · refine V_iload X dX6_common_25 5 rfl ?_
      refine V_iconst (v := (nI 3)) X dX6_common_27 (by decide) ?_
      obtain ⟨r5, e6, h⟩ := (Ok.bind h).ex
      refine C_Si (As := [.int a5, .int (nI 3)]) (M' := M) X (va_cwS 2 X.1.2.2.2.2 (gw_S wML_X6_58 wST_X6_isAtMost wIN_X6 (gw_c wCD_X6_isAtMost)) rfl rfl rfl (by decide +kernel) ⟨Nat.le_of_ble_eq_true rfl, Nat.le_of_ble_eq_true rfl⟩) rfl rfl (Nat.le_of_ble_eq_true rfl) ⟨Nat.zero_le _, Nat.zero_le _⟩ (k_X6_isAtMost l D cy q a5 (nI 3) M r5 e6) dX6_common_28 ?_
      refine B_if_ne X 37 dX6_common_31 (by decide) h (fun h => ?_) (fun h => ?_)
      · refine V_aload_n X dX6_common_37 0 rfl rfl ?_
        refine G_6_3 X inX6 wFL_X6_33 dX6_common_38 ?_
        refine V_aload_n X dX6_common_41 0 rfl rfl ?_
        refine G_6_0 X inX6 wFL_X6_10 dX6_common_42 ?_
        refine V_iload_n X dX6_common_45 1 rfl rfl ?_
        refine V_iload_n X dX6_common_46 2 rfl rfl ?_
        obtain ⟨r7, e8, h⟩ := (Ok.bind h).ex
        refine C_Vv (As := [.ref (q 1), .int a1, .int a2]) (M' := r7) (k0 := 33) X (wd_tly tly_33) rfl (cwV 3 X.1.2.2.2.2 (gw_V wML_X6_100 wIM_X4_fill wSE_X4_fill wIN_X4 (gw_c wCD_X4_fill)) rfl rfl rfl (by decide +kernel) ⟨Nat.le_of_ble_eq_true rfl, Nat.le_of_ble_eq_true rfl⟩) rfl rfl (Nat.le_of_ble_eq_true rfl) ⟨Nat.zero_le _, Nat.zero_le _⟩ (k_X4_fill l D cy q F 33 tly_33 1 row_1 a1 a2 M r7 e8) dX6_common_47 ?_
        refine V_aload_n X dX6_common_50 0 rfl rfl ?_
        refine G_6_4 X inX6 wFL_X6_37 dX6_common_51 ?_
        refine V_aload_n X dX6_common_54 0 rfl rfl ?_
        refine G_6_0 X inX6 wFL_X6_10 dX6_common_55 ?_
        refine V_iload_n X dX6_common_58 3 rfl rfl ?_
        refine V_iload X dX6_common_59 4 rfl ?_
        obtain ⟨r9, e10, h⟩ := (Ok.bind h).ex
        refine C_Vv (As := [.ref (q 1), .int a3, .int a4]) (M' := r9) (k0 := 35) X (wd_tly tly_35) rfl (cwV 3 X.1.2.2.2.2 (gw_V wML_X6_100 wIM_X4_fill wSE_X4_fill wIN_X4 (gw_c wCD_X4_fill)) rfl rfl rfl (by decide +kernel) ⟨Nat.le_of_ble_eq_true rfl, Nat.le_of_ble_eq_true rfl⟩) rfl rfl (Nat.le_of_ble_eq_true rfl) ⟨Nat.zero_le _, Nat.zero_le _⟩ (k_X4_fill l D cy q F 35 tly_35 1 row_1 a3 a4 r7 r9 e10) dX6_common_61 ?_
        refine V_iload X dX6_common_64 5 rfl ?_
        refine V_iconst (v := (nI 3)) X dX6_common_66 (by decide) ?_
        refine B_icmp_ne X 90 dX6_common_67 (by decide) h (fun h => ?_) (fun h => ?_)
        · refine V_aload_n X dX6_common_90 0 rfl rfl ?_
          refine G_6_3 X inX6 wFL_X6_33 dX6_common_91 ?_
          refine V_aload_n X dX6_common_94 0 rfl rfl ?_
          refine G_6_4 X inX6 wFL_X6_37 dX6_common_95 ?_
          obtain ⟨r11, e12, h⟩ := (Ok.bind h).ex
          refine C_Vv (As := [.ref (q 35)]) (M' := r11) (k0 := 33) X (wd_tly tly_33) rfl (cwV 1 X.1.2.2.2.2 (gw_V wML_X6_180 wIM_X4_keepCommon wSE_X4_keepCommon wIN_X4 (gw_c wCD_X4_keepCommon)) rfl rfl rfl (by decide +kernel) ⟨Nat.le_of_ble_eq_true rfl, Nat.le_of_ble_eq_true rfl⟩) rfl rfl (Nat.le_of_ble_eq_true rfl) ⟨Nat.zero_le _, Nat.zero_le _⟩ (k_X4_keepCommon l D cy q F 33 tly_33 35 tly_35 r9 r11 e12) dX6_common_98 ?_
          refine V_iload X dX6_common_101 5 rfl ?_
          refine B_if_ne X 114 dX6_common_103 (by decide) h (fun h => ?_) (fun h => ?_)
          · refine V_iload X dX6_common_114 5 rfl ?_
            refine V_iconst (v := (nI 1)) X dX6_common_116 (by decide) ?_
            refine B_icmp_ne X 132 dX6_common_117 (by decide) h (fun h => ?_) (fun h => ?_)
            · refine V_aload_n X dX6_common_132 0 rfl rfl ?_
              refine G_6_3 X inX6 wFL_X6_33 dX6_common_133 ?_
              refine V_iconst (v := (nI 0)) X dX6_common_136 (by decide) ?_
              obtain ⟨r13, e14, h⟩ := (Ok.bind h).ex
              refine C_Vi (As := [.int (nI 0)]) (M' := r11) (k0 := 33) X (wd_tly tly_33) rfl (cwV 1 X.1.2.2.2.2 (gw_V wML_X6_157 wIM_X4_leastFrom wSE_X4_leastFrom wIN_X4 (gw_c wCD_X4_leastFrom)) rfl rfl rfl (by decide +kernel) ⟨Nat.le_of_ble_eq_true rfl, Nat.le_of_ble_eq_true rfl⟩) rfl rfl (Nat.le_of_ble_eq_true rfl) ⟨Nat.zero_le _, Nat.zero_le _⟩ (k_X4_leastFrom l D cy q F 33 tly_33 (nI 0) r11 r13 e14) dX6_common_137 ?_
              obtain ⟨r15, e16, h⟩ := (Ok.bind h).ex
              refine C_Si (As := [.int r13]) (M' := r11) X (va_cwS 1 X.1.2.2.2.2 (gw_S wML_X6_151 wST_X6_symbolOrNotFound wIN_X6 (gw_c wCD_X6_symbolOrNotFound)) rfl rfl rfl (by decide +kernel) ⟨Nat.le_of_ble_eq_true rfl, Nat.le_of_ble_eq_true rfl⟩) rfl rfl (Nat.le_of_ble_eq_true rfl) ⟨Nat.zero_le _, Nat.zero_le _⟩ (k_X6_symbolOrNotFound l D cy q r13 r11 r15 e16) dX6_common_140 ?_
              have h : (r15, r11) = (rv, M') := h
              exact R_i X hr hlk (congrArg Prod.fst h) (congrArg Prod.snd h) dX6_common_143
            · refine V_aload_n X dX6_common_120 0 rfl rfl ?_
              refine G_6_3 X inX6 wFL_X6_33 dX6_common_121 ?_
              refine V_bipush (v := (nI 16)) X dX6_common_124 (by decide) ?_
              obtain ⟨r17, e18, h⟩ := (Ok.bind h).ex
              refine C_Vi (As := [.int (nI 16)]) (M' := r11) (k0 := 33) X (wd_tly tly_33) rfl (cwV 1 X.1.2.2.2.2 (gw_V wML_X6_154 wIM_X4_timesBelow wSE_X4_timesBelow wIN_X4 (gw_c wCD_X4_timesBelow)) rfl rfl rfl (by decide +kernel) ⟨Nat.le_of_ble_eq_true rfl, Nat.le_of_ble_eq_true rfl⟩) rfl rfl (Nat.le_of_ble_eq_true rfl) ⟨Nat.zero_le _, Nat.zero_le _⟩ (k_X4_timesBelow l D cy q F 33 tly_33 (nI 16) r11 r17 e18) dX6_common_126 ?_
              refine V_goto X 143 dX6_common_129 (by decide) ?_
              have h : (r17, r11) = (rv, M') := h
              exact R_i X hr hlk (congrArg Prod.fst h) (congrArg Prod.snd h) dX6_common_143
          · refine V_aload_n X dX6_common_106 0 rfl rfl ?_
            refine G_6_3 X inX6 wFL_X6_33 dX6_common_107 ?_
            obtain ⟨r19, e20, h⟩ := (Ok.bind h).ex
            refine C_Vi (As := []) (M' := r11) (k0 := 33) X (wd_tly tly_33) rfl (cwV 0 X.1.2.2.2.2 (gw_V wML_X6_166 wIM_X4_unlike wSE_X4_unlike wIN_X4 (gw_c wCD_X4_unlike)) rfl rfl rfl (by decide +kernel) ⟨Nat.le_of_ble_eq_true rfl, Nat.le_of_ble_eq_true rfl⟩) rfl rfl (Nat.le_of_ble_eq_true rfl) ⟨Nat.zero_le _, Nat.zero_le _⟩ (k_X4_unlike l D cy q F 33 tly_33 r11 r19 e20) dX6_common_110 ?_
            have h : (r19, r11) = (rv, M') := h
            exact R_i X hr hlk (congrArg Prod.fst h) (congrArg Prod.snd h) dX6_common_113
        · refine V_aload_n X dX6_common_70 0 rfl rfl ?_
          refine G_6_3 X inX6 wFL_X6_33 dX6_common_71 ?_
          refine V_aload_n X dX6_common_74 0 rfl rfl ?_
          refine G_6_4 X inX6 wFL_X6_37 dX6_common_75 ?_
          obtain ⟨r21, e22, h⟩ := (Ok.bind h).ex
          refine C_Vi (As := [.ref (q 35)]) (M' := r9) (k0 := 33) X (wd_tly tly_33) rfl (cwV 1 X.1.2.2.2.2 (gw_V wML_X6_176 wIM_X4_isLike wSE_X4_isLike wIN_X4 (gw_c wCD_X4_isLike)) rfl rfl rfl (by decide +kernel) ⟨Nat.le_of_ble_eq_true rfl, Nat.le_of_ble_eq_true rfl⟩) rfl rfl (Nat.le_of_ble_eq_true rfl) ⟨Nat.zero_le _, Nat.zero_le _⟩ (k_X4_isLike l D cy q F 33 tly_33 35 tly_35 r9 r21 e22) dX6_common_78 ?_
          refine B_if_eq X 88 dX6_common_81 (by decide) h (fun h => ?_) (fun h => ?_)
          · refine V_iconst (v := (nI 0)) X dX6_common_88 (by decide) ?_
            have h : ((nI 0), r9) = (rv, M') := h
            exact R_i X hr hlk (congrArg Prod.fst h) (congrArg Prod.snd h) dX6_common_89
          · refine V_iconst (v := (nI 1)) X dX6_common_84 (by decide) ?_
            refine V_goto X 89 dX6_common_85 (by decide) ?_
            have h : ((nI 1), r9) = (rv, M') := h
            exact R_i X hr hlk (congrArg Prod.fst h) (congrArg Prod.snd h) dX6_common_89
      · refine V_ldc X wKI_X6_66 dX6_common_34 ?_
        have h : ((-1000001 : Int32), M) = (rv, M') := h
        exact R_i X hr hlk (congrArg Prod.fst h) (congrArg Prod.snd h) dX6_common_36
def rm_X6_heaviest : Room := { frames := 3, cells := 0, slots := 0, locals := 66 }
def f_X6_heaviest (F : Nat) (a1 : Int32) (a2 : Int32) (M : Mm) : Option (Int32) :=
  if a1 < (nI 1) then (some (-1000001 : Int32)) else (if (nI 60) < a1 then (some (-1000001 : Int32)) else ((f_X6_isAtMost a2 (nI 1)).bind fun r1 => if r1 = 0 then (some (-1000001 : Int32)) else ((f_X3_size 1 M).bind fun r3 => if a1 ≤ r3 then ((f_X3_sum F 1 (nI 0) a1 M).bind fun r5 => lpf (fun z7 : Int32 × Int32 × Int32 => (f_X3_size 1 M).bind fun r8 => if r8 < (z7.2.2 + a1) then (if a2 = 0 then (some (.inr z7.1)) else (some (.inr z7.2.1))) else ((f_X3_sum F 1 z7.2.2 (z7.2.2 + a1) M).bind fun r10 => if r10 ≤ z7.2.1 then (some (.inl (z7.1, z7.2.1, (z7.2.2 + (nI 1))))) else (some (.inl (z7.2.2, r10, (z7.2.2 + (nI 1))))))) F ((nI 0), r5, (nI 1))) else (some (-1000004 : Int32)))))
set_option maxRecDepth 100000 in
set_option maxHeartbeats 4000000 in
theorem k_X6_heaviest (l : Launch) (D : va_G) (cy : Nat → ClassId) (q : Nat → Nat) (F : Nat) (a1 : Int32) (a2 : Int32) (M : Mm) (rv : Int32) (h0 : f_X6_heaviest F a1 a2 M = some rv) : KI l yX6_heaviest (Cond.code yX6_heaviest cX6_heaviest 7 (Option.some FieldType.int) :: gw) rm_X6_heaviest D cy q [.ref (q 0), .int a1, .int a2] M rv M := by
  refine KI.mk (L0 := [(0, .ref (q 0)), (1, .int a1), (2, .int a2)]) (by decide +kernel) rfl (Nat.le_of_ble_eq_true rfl) rfl rfl rfl ?_
  intro p e s m below meth c X0 hr hlk
  have X := Fx.gw (own := RX6) X0
  clear X0
  have h : Ok (f_X6_heaviest F a1 a2 M) (fun r => r = rv) := Ok.of h0 rfl
  clear h0
  delta f_X6_heaviest at h
  refine V_iload_n X dX6_heaviest_0 1 rfl rfl ?_
  refine V_iconst (v := (nI 1)) X dX6_heaviest_1 (by decide) ?_
  refine B_icmp_lt X 19 dX6_heaviest_2 (by decide) h (fun h => ?_) (fun h => ?_)
  · refine V_ldc X wKI_X6_66 dX6_heaviest_19 ?_
    have h : (-1000001 : Int32) = rv := h
    exact R_i X hr hlk h rfl dX6_heaviest_21
  · refine V_iload_n X dX6_heaviest_5 1 rfl rfl ?_
    refine V_bipush (v := (nI 60)) X dX6_heaviest_6 (by decide) ?_
    refine B_icmp_gt X 19 dX6_heaviest_8 (by decide) h (fun h => ?_) (fun h => ?_)
    · refine V_ldc X wKI_X6_66 dX6_heaviest_19 ?_
      have h : (-1000001 : Int32) = rv := h
      exact R_i X hr hlk h rfl dX6_heaviest_21
    · refine V_iload_n X dX6_heaviest_11 2 rfl rfl ?_
      refine V_iconst (v := (nI 1)) X dX6_heaviest_12 (by decide) ?_
      obtain ⟨r1, e2, h⟩ := (Ok.bind h).ex
      refine C_Si (As := [.int a2, .int (nI 1)]) (M' := M) X (va_cwS 2 X.1.2.2.2.2 (gw_S wML_X6_58 wST_X6_isAtMost wIN_X6 (gw_c wCD_X6_isAtMost)) rfl rfl rfl (by decide +kernel) ⟨Nat.le_of_ble_eq_true rfl, Nat.le_of_ble_eq_true rfl⟩) rfl rfl (Nat.le_of_ble_eq_true rfl) ⟨Nat.zero_le _, Nat.zero_le _⟩ (k_X6_isAtMost l D cy q a2 (nI 1) M r1 e2) dX6_heaviest_13 ?_
      refine B_if_ne X 22 dX6_heaviest_16 (by decide) h (fun h => ?_) (fun h => ?_)
      · refine V_iload_n X dX6_heaviest_22 1 rfl rfl ?_
        refine V_aload_n X dX6_heaviest_23 0 rfl rfl ?_
        refine G_6_0 X inX6 wFL_X6_10 dX6_heaviest_24 ?_
        obtain ⟨r3, e4, h⟩ := (Ok.bind h).ex
        refine C_Vi (As := []) (M' := M) (k0 := 1) X (wd_row row_1) rfl (cwV 0 X.1.2.2.2.2 (gw_V wML_X6_54 wIM_X3_size wSE_X3_size wIN_X3 (gw_c wCD_X3_size)) rfl rfl rfl (by decide +kernel) ⟨Nat.le_of_ble_eq_true rfl, Nat.le_of_ble_eq_true rfl⟩) rfl rfl (Nat.le_of_ble_eq_true rfl) ⟨Nat.zero_le _, Nat.zero_le _⟩ (k_X3_size l D cy q 1 row_1 M r3 e4) dX6_heaviest_27 ?_
        refine B_icmp_le X 36 dX6_heaviest_30 (by decide) h (fun h => ?_) (fun h => ?_)
        · refine V_iconst (v := (nI 0)) X dX6_heaviest_36 (by decide) ?_
          refine V_istore_n (L' := [(3, .int (nI 0)), (0, .ref (q 0)), (1, .int a1), (2, .int a2)]) X dX6_heaviest_37 rfl (by decide) rfl ?_
          refine V_aload_n X dX6_heaviest_38 1 rfl rfl ?_
          refine G_6_0 X inX6 wFL_X6_10 dX6_heaviest_39 ?_
          refine V_iconst (v := (nI 0)) X dX6_heaviest_42 (by decide) ?_
          refine V_iload_n X dX6_heaviest_43 2 rfl rfl ?_
          obtain ⟨r5, e6, h⟩ := (Ok.bind h).ex
          refine C_Vi (As := [.int (nI 0), .int a1]) (M' := M) (k0 := 1) X (wd_row row_1) rfl (cwV 2 X.1.2.2.2.2 (gw_V wML_X6_160 wIM_X3_sum wSE_X3_sum wIN_X3 (gw_c wCD_X3_sum)) rfl rfl rfl (by decide +kernel) ⟨Nat.le_of_ble_eq_true rfl, Nat.le_of_ble_eq_true rfl⟩) rfl rfl (Nat.le_of_ble_eq_true rfl) ⟨Nat.zero_le _, Nat.zero_le _⟩ (k_X3_sum l D cy q F 1 row_1 (nI 0) a1 M r5 e6) dX6_heaviest_44 ?_
          refine V_istore (L' := [(4, .int r5), (3, .int (nI 0)), (0, .ref (q 0)), (1, .int a1), (2, .int a2)]) X dX6_heaviest_47 (by decide) rfl ?_
          refine V_iconst (v := (nI 1)) X dX6_heaviest_49 (by decide) ?_
          refine V_istore (L' := [(5, .int (nI 1)), (4, .int r5), (3, .int (nI 0)), (0, .ref (q 0)), (1, .int a1), (2, .int a2)]) X dX6_heaviest_50 (by decide) rfl ?_
          refine V_sub (L' := [(0, .ref (q 0)), (1, .int a1), (2, .int a2), (3, .int (nI 0)), (4, .int r5), (5, .int (nI 1))]) [3, 4, 5, 2, 1, 0] rfl ?_
          refine V_loop X h (fun z7 => M) (fun z7 => [(0, .ref (q 0)), (1, .int a1), (2, .int a2), (3, .int z7.1), (4, .int z7.2.1), (5, .int z7.2.2)]) rfl rfl (fun z7 h => ?_)
          refine V_iload X dX6_heaviest_52 5 rfl ?_
          refine V_iload_n X dX6_heaviest_54 1 rfl rfl ?_
          refine V_iadd X dX6_heaviest_55 ?_
          refine V_aload_n X dX6_heaviest_56 0 rfl rfl ?_
          refine G_6_0 X inX6 wFL_X6_10 dX6_heaviest_57 ?_
          obtain ⟨r8, e9, h⟩ := (Ok.bind h).ex
          refine C_Vi (As := []) (M' := M) (k0 := 1) X (wd_row row_1) rfl (cwV 0 X.1.2.2.2.2 (gw_V wML_X6_54 wIM_X3_size wSE_X3_size wIN_X3 (gw_c wCD_X3_size)) rfl rfl rfl (by decide +kernel) ⟨Nat.le_of_ble_eq_true rfl, Nat.le_of_ble_eq_true rfl⟩) rfl rfl (Nat.le_of_ble_eq_true rfl) ⟨Nat.zero_le _, Nat.zero_le _⟩ (k_X3_size l D cy q 1 row_1 M r8 e9) dX6_heaviest_60 ?_
          refine B_icmp_gt X 101 dX6_heaviest_63 (by decide) h (fun h => ?_) (fun h => ?_)
          · refine V_iload_n X dX6_heaviest_101 2 rfl rfl ?_
            refine B_if_ne X 109 dX6_heaviest_102 (by decide) h (fun h => ?_) (fun h => ?_)
            · refine V_iload X dX6_heaviest_109 4 rfl ?_
              have h : z7.2.1 = rv := h
              exact R_i X hr hlk h rfl dX6_heaviest_111
            · refine V_iload_n X dX6_heaviest_105 3 rfl rfl ?_
              refine V_goto X 111 dX6_heaviest_106 (by decide) ?_
              have h : z7.1 = rv := h
              exact R_i X hr hlk h rfl dX6_heaviest_111
          · refine V_aload_n X dX6_heaviest_66 0 rfl rfl ?_
            refine G_6_0 X inX6 wFL_X6_10 dX6_heaviest_67 ?_
            refine V_iload X dX6_heaviest_70 5 rfl ?_
            refine V_iload X dX6_heaviest_72 5 rfl ?_
            refine V_iload_n X dX6_heaviest_74 1 rfl rfl ?_
            refine V_iadd X dX6_heaviest_75 ?_
            obtain ⟨r10, e11, h⟩ := (Ok.bind h).ex
            refine C_Vi (As := [.int z7.2.2, .int (z7.2.2 + a1)]) (M' := M) (k0 := 1) X (wd_row row_1) rfl (cwV 2 X.1.2.2.2.2 (gw_V wML_X6_160 wIM_X3_sum wSE_X3_sum wIN_X3 (gw_c wCD_X3_sum)) rfl rfl rfl (by decide +kernel) ⟨Nat.le_of_ble_eq_true rfl, Nat.le_of_ble_eq_true rfl⟩) rfl rfl (Nat.le_of_ble_eq_true rfl) ⟨Nat.zero_le _, Nat.zero_le _⟩ (k_X3_sum l D cy q F 1 row_1 z7.2.2 (z7.2.2 + a1) M r10 e11) dX6_heaviest_76 ?_
            refine V_istore (L' := [(6, .int r10), (0, .ref (q 0)), (1, .int a1), (2, .int a2), (3, .int z7.1), (4, .int z7.2.1), (5, .int z7.2.2)]) X dX6_heaviest_79 (by decide) rfl ?_
            refine V_iload X dX6_heaviest_81 0 rfl ?_
            refine V_iload X dX6_heaviest_83 5 rfl ?_
            refine B_icmp_le X 95 dX6_heaviest_85 (by decide) h (fun h => ?_) (fun h => ?_)
            · refine V_iinc (v := (z7.2.2 + (nI 1))) (L' := [(5, .int (z7.2.2 + (nI 1))), (6, .int r10), (0, .ref (q 0)), (1, .int a1), (2, .int a2), (3, .int z7.1), (4, .int z7.2.1)]) (j := 6) X dX6_heaviest_95 rfl rfl (by decide) rfl ?_
              refine V_goto X 52 dX6_heaviest_98 (by decide) ?_
              exact V_sub [2, 3, 4, 5, 6, 0] rfl h
            · refine V_iload X dX6_heaviest_88 6 rfl ?_
              refine V_istore_n (L' := [(3, .int z7.2.2), (6, .int r10), (0, .ref (q 0)), (1, .int a1), (2, .int a2), (4, .int z7.2.1), (5, .int z7.2.2)]) X dX6_heaviest_90 rfl (by decide) rfl ?_
              refine V_iload X dX6_heaviest_91 1 rfl ?_
              refine V_istore (L' := [(4, .int r10), (3, .int z7.2.2), (6, .int r10), (0, .ref (q 0)), (1, .int a1), (2, .int a2), (5, .int z7.2.2)]) X dX6_heaviest_93 (by decide) rfl ?_
              refine V_iinc (v := (z7.2.2 + (nI 1))) (L' := [(5, .int (z7.2.2 + (nI 1))), (4, .int r10), (3, .int z7.2.2), (6, .int r10), (0, .ref (q 0)), (1, .int a1), (2, .int a2)]) (j := 6) X dX6_heaviest_95 rfl rfl (by decide) rfl ?_
              refine V_goto X 52 dX6_heaviest_98 (by decide) ?_
              exact V_sub [4, 5, 6, 2, 1, 0] rfl h
        · refine V_ldc X wKI_X6_108 dX6_heaviest_33 ?_
          have h : (-1000004 : Int32) = rv := h
          exact R_i X hr hlk h rfl dX6_heaviest_35
      · refine V_ldc X wKI_X6_66 dX6_heaviest_19 ?_
        have h : (-1000001 : Int32) = rv := h
        exact R_i X hr hlk h rfl dX6_heaviest_21
def rm_J6_bitCount_0f7a4 : Room := { frames := 0, cells := 0, slots := 0, locals := 0 }
def f_J6_bitCount_0f7a4 (a0 : Int32) : Option (Int32) :=
  some ((((((((a0 - (((Int32.toUInt32 a0) >>> ((Int32.toUInt32 (nI 1)) &&& Int32.toUInt32 31)).toInt32 &&& (nI 1431655765))) &&& (nI 858993459)) + (((Int32.toUInt32 (a0 - (((Int32.toUInt32 a0) >>> ((Int32.toUInt32 (nI 1)) &&& Int32.toUInt32 31)).toInt32 &&& (nI 1431655765)))) >>> ((Int32.toUInt32 (nI 2)) &&& Int32.toUInt32 31)).toInt32 &&& (nI 858993459))) + ((Int32.toUInt32 (((a0 - (((Int32.toUInt32 a0) >>> ((Int32.toUInt32 (nI 1)) &&& Int32.toUInt32 31)).toInt32 &&& (nI 1431655765))) &&& (nI 858993459)) + (((Int32.toUInt32 (a0 - (((Int32.toUInt32 a0) >>> ((Int32.toUInt32 (nI 1)) &&& Int32.toUInt32 31)).toInt32 &&& (nI 1431655765)))) >>> ((Int32.toUInt32 (nI 2)) &&& Int32.toUInt32 31)).toInt32 &&& (nI 858993459)))) >>> ((Int32.toUInt32 (nI 4)) &&& Int32.toUInt32 31)).toInt32) &&& (nI 252645135)) + ((Int32.toUInt32 (((((a0 - (((Int32.toUInt32 a0) >>> ((Int32.toUInt32 (nI 1)) &&& Int32.toUInt32 31)).toInt32 &&& (nI 1431655765))) &&& (nI 858993459)) + (((Int32.toUInt32 (a0 - (((Int32.toUInt32 a0) >>> ((Int32.toUInt32 (nI 1)) &&& Int32.toUInt32 31)).toInt32 &&& (nI 1431655765)))) >>> ((Int32.toUInt32 (nI 2)) &&& Int32.toUInt32 31)).toInt32 &&& (nI 858993459))) + ((Int32.toUInt32 (((a0 - (((Int32.toUInt32 a0) >>> ((Int32.toUInt32 (nI 1)) &&& Int32.toUInt32 31)).toInt32 &&& (nI 1431655765))) &&& (nI 858993459)) + (((Int32.toUInt32 (a0 - (((Int32.toUInt32 a0) >>> ((Int32.toUInt32 (nI 1)) &&& Int32.toUInt32 31)).toInt32 &&& (nI 1431655765)))) >>> ((Int32.toUInt32 (nI 2)) &&& Int32.toUInt32 31)).toInt32 &&& (nI 858993459)))) >>> ((Int32.toUInt32 (nI 4)) &&& Int32.toUInt32 31)).toInt32) &&& (nI 252645135))) >>> ((Int32.toUInt32 (nI 8)) &&& Int32.toUInt32 31)).toInt32) + ((Int32.toUInt32 ((((((a0 - (((Int32.toUInt32 a0) >>> ((Int32.toUInt32 (nI 1)) &&& Int32.toUInt32 31)).toInt32 &&& (nI 1431655765))) &&& (nI 858993459)) + (((Int32.toUInt32 (a0 - (((Int32.toUInt32 a0) >>> ((Int32.toUInt32 (nI 1)) &&& Int32.toUInt32 31)).toInt32 &&& (nI 1431655765)))) >>> ((Int32.toUInt32 (nI 2)) &&& Int32.toUInt32 31)).toInt32 &&& (nI 858993459))) + ((Int32.toUInt32 (((a0 - (((Int32.toUInt32 a0) >>> ((Int32.toUInt32 (nI 1)) &&& Int32.toUInt32 31)).toInt32 &&& (nI 1431655765))) &&& (nI 858993459)) + (((Int32.toUInt32 (a0 - (((Int32.toUInt32 a0) >>> ((Int32.toUInt32 (nI 1)) &&& Int32.toUInt32 31)).toInt32 &&& (nI 1431655765)))) >>> ((Int32.toUInt32 (nI 2)) &&& Int32.toUInt32 31)).toInt32 &&& (nI 858993459)))) >>> ((Int32.toUInt32 (nI 4)) &&& Int32.toUInt32 31)).toInt32) &&& (nI 252645135)) + ((Int32.toUInt32 (((((a0 - (((Int32.toUInt32 a0) >>> ((Int32.toUInt32 (nI 1)) &&& Int32.toUInt32 31)).toInt32 &&& (nI 1431655765))) &&& (nI 858993459)) + (((Int32.toUInt32 (a0 - (((Int32.toUInt32 a0) >>> ((Int32.toUInt32 (nI 1)) &&& Int32.toUInt32 31)).toInt32 &&& (nI 1431655765)))) >>> ((Int32.toUInt32 (nI 2)) &&& Int32.toUInt32 31)).toInt32 &&& (nI 858993459))) + ((Int32.toUInt32 (((a0 - (((Int32.toUInt32 a0) >>> ((Int32.toUInt32 (nI 1)) &&& Int32.toUInt32 31)).toInt32 &&& (nI 1431655765))) &&& (nI 858993459)) + (((Int32.toUInt32 (a0 - (((Int32.toUInt32 a0) >>> ((Int32.toUInt32 (nI 1)) &&& Int32.toUInt32 31)).toInt32 &&& (nI 1431655765)))) >>> ((Int32.toUInt32 (nI 2)) &&& Int32.toUInt32 31)).toInt32 &&& (nI 858993459)))) >>> ((Int32.toUInt32 (nI 4)) &&& Int32.toUInt32 31)).toInt32) &&& (nI 252645135))) >>> ((Int32.toUInt32 (nI 8)) &&& Int32.toUInt32 31)).toInt32)) >>> ((Int32.toUInt32 (nI 16)) &&& Int32.toUInt32 31)).toInt32) &&& (nI 63))
set_option maxRecDepth 100000 in
set_option maxHeartbeats 4000000 in
theorem k_J6_bitCount_0f7a4 (l : Launch) (D : va_G) (cy : Nat → ClassId) (q : Nat → Nat) (a0 : Int32) (M : Mm) (rv : Int32) (h0 : f_J6_bitCount_0f7a4 a0 = some rv) : KI l yJ6_bitCount_0f7a4 (Cond.code yJ6_bitCount_0f7a4 cJ6_bitCount_0f7a4 1 (Option.some FieldType.int) :: gw) rm_J6_bitCount_0f7a4 D cy q [.int a0] M rv M := by
  refine KI.mk (L0 := [(0, .int a0)]) (by decide +kernel) rfl (Nat.le_of_ble_eq_true rfl) rfl rfl rfl ?_
  intro p e s m below meth c X0 hr hlk
  have X := Fx.gw (own := RJ6) X0
  clear X0
  have h : Ok (f_J6_bitCount_0f7a4 a0) (fun r => r = rv) := Ok.of h0 rfl
  clear h0
  delta f_J6_bitCount_0f7a4 at h
  refine V_iload_n X dJ6_bitCount_0f7a4_0 0 rfl rfl ?_
  refine V_iload_n X dJ6_bitCount_0f7a4_1 0 rfl rfl ?_
  refine V_iconst (v := (nI 1)) X dJ6_bitCount_0f7a4_2 (by decide) ?_
  refine V_iushr X dJ6_bitCount_0f7a4_3 ?_
  refine V_ldcw X wKI_J6_265 dJ6_bitCount_0f7a4_4 ?_
  refine V_iand X dJ6_bitCount_0f7a4_7 ?_
  refine V_isub X dJ6_bitCount_0f7a4_8 ?_
  refine V_istore_n (L' := [(0, .int (a0 - (((Int32.toUInt32 a0) >>> ((Int32.toUInt32 (nI 1)) &&& Int32.toUInt32 31)).toInt32 &&& (nI 1431655765))))]) X dJ6_bitCount_0f7a4_9 rfl (by decide) rfl ?_
  refine V_iload_n X dJ6_bitCount_0f7a4_10 0 rfl rfl ?_
  refine V_ldcw X wKI_J6_266 dJ6_bitCount_0f7a4_11 ?_
  refine V_iand X dJ6_bitCount_0f7a4_14 ?_
  refine V_iload_n X dJ6_bitCount_0f7a4_15 0 rfl rfl ?_
  refine V_iconst (v := (nI 2)) X dJ6_bitCount_0f7a4_16 (by decide) ?_
  refine V_iushr X dJ6_bitCount_0f7a4_17 ?_
  refine V_ldcw X wKI_J6_266 dJ6_bitCount_0f7a4_18 ?_
  refine V_iand X dJ6_bitCount_0f7a4_21 ?_
  refine V_iadd X dJ6_bitCount_0f7a4_22 ?_
  refine V_istore_n (L' := [(0, .int (((a0 - (((Int32.toUInt32 a0) >>> ((Int32.toUInt32 (nI 1)) &&& Int32.toUInt32 31)).toInt32 &&& (nI 1431655765))) &&& (nI 858993459)) + (((Int32.toUInt32 (a0 - (((Int32.toUInt32 a0) >>> ((Int32.toUInt32 (nI 1)) &&& Int32.toUInt32 31)).toInt32 &&& (nI 1431655765)))) >>> ((Int32.toUInt32 (nI 2)) &&& Int32.toUInt32 31)).toInt32 &&& (nI 858993459))))]) X dJ6_bitCount_0f7a4_23 rfl (by decide) rfl ?_
  refine V_iload_n X dJ6_bitCount_0f7a4_24 0 rfl rfl ?_
  refine V_iload_n X dJ6_bitCount_0f7a4_25 0 rfl rfl ?_
  refine V_iconst (v := (nI 4)) X dJ6_bitCount_0f7a4_26 (by decide) ?_
  refine V_iushr X dJ6_bitCount_0f7a4_27 ?_
  refine V_iadd X dJ6_bitCount_0f7a4_28 ?_
  refine V_ldcw X wKI_J6_267 dJ6_bitCount_0f7a4_29 ?_
  refine V_iand X dJ6_bitCount_0f7a4_32 ?_
  refine V_istore_n (L' := [(0, .int (((((a0 - (((Int32.toUInt32 a0) >>> ((Int32.toUInt32 (nI 1)) &&& Int32.toUInt32 31)).toInt32 &&& (nI 1431655765))) &&& (nI 858993459)) + (((Int32.toUInt32 (a0 - (((Int32.toUInt32 a0) >>> ((Int32.toUInt32 (nI 1)) &&& Int32.toUInt32 31)).toInt32 &&& (nI 1431655765)))) >>> ((Int32.toUInt32 (nI 2)) &&& Int32.toUInt32 31)).toInt32 &&& (nI 858993459))) + ((Int32.toUInt32 (((a0 - (((Int32.toUInt32 a0) >>> ((Int32.toUInt32 (nI 1)) &&& Int32.toUInt32 31)).toInt32 &&& (nI 1431655765))) &&& (nI 858993459)) + (((Int32.toUInt32 (a0 - (((Int32.toUInt32 a0) >>> ((Int32.toUInt32 (nI 1)) &&& Int32.toUInt32 31)).toInt32 &&& (nI 1431655765)))) >>> ((Int32.toUInt32 (nI 2)) &&& Int32.toUInt32 31)).toInt32 &&& (nI 858993459)))) >>> ((Int32.toUInt32 (nI 4)) &&& Int32.toUInt32 31)).toInt32) &&& (nI 252645135)))]) X dJ6_bitCount_0f7a4_33 rfl (by decide) rfl ?_
  refine V_iload_n X dJ6_bitCount_0f7a4_34 0 rfl rfl ?_
  refine V_iload_n X dJ6_bitCount_0f7a4_35 0 rfl rfl ?_
  refine V_bipush (v := (nI 8)) X dJ6_bitCount_0f7a4_36 (by decide) ?_
  refine V_iushr X dJ6_bitCount_0f7a4_38 ?_
  refine V_iadd X dJ6_bitCount_0f7a4_39 ?_
  refine V_istore_n (L' := [(0, .int ((((((a0 - (((Int32.toUInt32 a0) >>> ((Int32.toUInt32 (nI 1)) &&& Int32.toUInt32 31)).toInt32 &&& (nI 1431655765))) &&& (nI 858993459)) + (((Int32.toUInt32 (a0 - (((Int32.toUInt32 a0) >>> ((Int32.toUInt32 (nI 1)) &&& Int32.toUInt32 31)).toInt32 &&& (nI 1431655765)))) >>> ((Int32.toUInt32 (nI 2)) &&& Int32.toUInt32 31)).toInt32 &&& (nI 858993459))) + ((Int32.toUInt32 (((a0 - (((Int32.toUInt32 a0) >>> ((Int32.toUInt32 (nI 1)) &&& Int32.toUInt32 31)).toInt32 &&& (nI 1431655765))) &&& (nI 858993459)) + (((Int32.toUInt32 (a0 - (((Int32.toUInt32 a0) >>> ((Int32.toUInt32 (nI 1)) &&& Int32.toUInt32 31)).toInt32 &&& (nI 1431655765)))) >>> ((Int32.toUInt32 (nI 2)) &&& Int32.toUInt32 31)).toInt32 &&& (nI 858993459)))) >>> ((Int32.toUInt32 (nI 4)) &&& Int32.toUInt32 31)).toInt32) &&& (nI 252645135)) + ((Int32.toUInt32 (((((a0 - (((Int32.toUInt32 a0) >>> ((Int32.toUInt32 (nI 1)) &&& Int32.toUInt32 31)).toInt32 &&& (nI 1431655765))) &&& (nI 858993459)) + (((Int32.toUInt32 (a0 - (((Int32.toUInt32 a0) >>> ((Int32.toUInt32 (nI 1)) &&& Int32.toUInt32 31)).toInt32 &&& (nI 1431655765)))) >>> ((Int32.toUInt32 (nI 2)) &&& Int32.toUInt32 31)).toInt32 &&& (nI 858993459))) + ((Int32.toUInt32 (((a0 - (((Int32.toUInt32 a0) >>> ((Int32.toUInt32 (nI 1)) &&& Int32.toUInt32 31)).toInt32 &&& (nI 1431655765))) &&& (nI 858993459)) + (((Int32.toUInt32 (a0 - (((Int32.toUInt32 a0) >>> ((Int32.toUInt32 (nI 1)) &&& Int32.toUInt32 31)).toInt32 &&& (nI 1431655765)))) >>> ((Int32.toUInt32 (nI 2)) &&& Int32.toUInt32 31)).toInt32 &&& (nI 858993459)))) >>> ((Int32.toUInt32 (nI 4)) &&& Int32.toUInt32 31)).toInt32) &&& (nI 252645135))) >>> ((Int32.toUInt32 (nI 8)) &&& Int32.toUInt32 31)).toInt32))]) X dJ6_bitCount_0f7a4_40 rfl (by decide) rfl ?_
  refine V_iload_n X dJ6_bitCount_0f7a4_41 0 rfl rfl ?_
  refine V_iload_n X dJ6_bitCount_0f7a4_42 0 rfl rfl ?_
  refine V_bipush (v := (nI 16)) X dJ6_bitCount_0f7a4_43 (by decide) ?_
  refine V_iushr X dJ6_bitCount_0f7a4_45 ?_
  refine V_iadd X dJ6_bitCount_0f7a4_46 ?_
  refine V_istore_n (L' := [(0, .int (((((((a0 - (((Int32.toUInt32 a0) >>> ((Int32.toUInt32 (nI 1)) &&& Int32.toUInt32 31)).toInt32 &&& (nI 1431655765))) &&& (nI 858993459)) + (((Int32.toUInt32 (a0 - (((Int32.toUInt32 a0) >>> ((Int32.toUInt32 (nI 1)) &&& Int32.toUInt32 31)).toInt32 &&& (nI 1431655765)))) >>> ((Int32.toUInt32 (nI 2)) &&& Int32.toUInt32 31)).toInt32 &&& (nI 858993459))) + ((Int32.toUInt32 (((a0 - (((Int32.toUInt32 a0) >>> ((Int32.toUInt32 (nI 1)) &&& Int32.toUInt32 31)).toInt32 &&& (nI 1431655765))) &&& (nI 858993459)) + (((Int32.toUInt32 (a0 - (((Int32.toUInt32 a0) >>> ((Int32.toUInt32 (nI 1)) &&& Int32.toUInt32 31)).toInt32 &&& (nI 1431655765)))) >>> ((Int32.toUInt32 (nI 2)) &&& Int32.toUInt32 31)).toInt32 &&& (nI 858993459)))) >>> ((Int32.toUInt32 (nI 4)) &&& Int32.toUInt32 31)).toInt32) &&& (nI 252645135)) + ((Int32.toUInt32 (((((a0 - (((Int32.toUInt32 a0) >>> ((Int32.toUInt32 (nI 1)) &&& Int32.toUInt32 31)).toInt32 &&& (nI 1431655765))) &&& (nI 858993459)) + (((Int32.toUInt32 (a0 - (((Int32.toUInt32 a0) >>> ((Int32.toUInt32 (nI 1)) &&& Int32.toUInt32 31)).toInt32 &&& (nI 1431655765)))) >>> ((Int32.toUInt32 (nI 2)) &&& Int32.toUInt32 31)).toInt32 &&& (nI 858993459))) + ((Int32.toUInt32 (((a0 - (((Int32.toUInt32 a0) >>> ((Int32.toUInt32 (nI 1)) &&& Int32.toUInt32 31)).toInt32 &&& (nI 1431655765))) &&& (nI 858993459)) + (((Int32.toUInt32 (a0 - (((Int32.toUInt32 a0) >>> ((Int32.toUInt32 (nI 1)) &&& Int32.toUInt32 31)).toInt32 &&& (nI 1431655765)))) >>> ((Int32.toUInt32 (nI 2)) &&& Int32.toUInt32 31)).toInt32 &&& (nI 858993459)))) >>> ((Int32.toUInt32 (nI 4)) &&& Int32.toUInt32 31)).toInt32) &&& (nI 252645135))) >>> ((Int32.toUInt32 (nI 8)) &&& Int32.toUInt32 31)).toInt32) + ((Int32.toUInt32 ((((((a0 - (((Int32.toUInt32 a0) >>> ((Int32.toUInt32 (nI 1)) &&& Int32.toUInt32 31)).toInt32 &&& (nI 1431655765))) &&& (nI 858993459)) + (((Int32.toUInt32 (a0 - (((Int32.toUInt32 a0) >>> ((Int32.toUInt32 (nI 1)) &&& Int32.toUInt32 31)).toInt32 &&& (nI 1431655765)))) >>> ((Int32.toUInt32 (nI 2)) &&& Int32.toUInt32 31)).toInt32 &&& (nI 858993459))) + ((Int32.toUInt32 (((a0 - (((Int32.toUInt32 a0) >>> ((Int32.toUInt32 (nI 1)) &&& Int32.toUInt32 31)).toInt32 &&& (nI 1431655765))) &&& (nI 858993459)) + (((Int32.toUInt32 (a0 - (((Int32.toUInt32 a0) >>> ((Int32.toUInt32 (nI 1)) &&& Int32.toUInt32 31)).toInt32 &&& (nI 1431655765)))) >>> ((Int32.toUInt32 (nI 2)) &&& Int32.toUInt32 31)).toInt32 &&& (nI 858993459)))) >>> ((Int32.toUInt32 (nI 4)) &&& Int32.toUInt32 31)).toInt32) &&& (nI 252645135)) + ((Int32.toUInt32 (((((a0 - (((Int32.toUInt32 a0) >>> ((Int32.toUInt32 (nI 1)) &&& Int32.toUInt32 31)).toInt32 &&& (nI 1431655765))) &&& (nI 858993459)) + (((Int32.toUInt32 (a0 - (((Int32.toUInt32 a0) >>> ((Int32.toUInt32 (nI 1)) &&& Int32.toUInt32 31)).toInt32 &&& (nI 1431655765)))) >>> ((Int32.toUInt32 (nI 2)) &&& Int32.toUInt32 31)).toInt32 &&& (nI 858993459))) + ((Int32.toUInt32 (((a0 - (((Int32.toUInt32 a0) >>> ((Int32.toUInt32 (nI 1)) &&& Int32.toUInt32 31)).toInt32 &&& (nI 1431655765))) &&& (nI 858993459)) + (((Int32.toUInt32 (a0 - (((Int32.toUInt32 a0) >>> ((Int32.toUInt32 (nI 1)) &&& Int32.toUInt32 31)).toInt32 &&& (nI 1431655765)))) >>> ((Int32.toUInt32 (nI 2)) &&& Int32.toUInt32 31)).toInt32 &&& (nI 858993459)))) >>> ((Int32.toUInt32 (nI 4)) &&& Int32.toUInt32 31)).toInt32) &&& (nI 252645135))) >>> ((Int32.toUInt32 (nI 8)) &&& Int32.toUInt32 31)).toInt32)) >>> ((Int32.toUInt32 (nI 16)) &&& Int32.toUInt32 31)).toInt32))]) X dJ6_bitCount_0f7a4_47 rfl (by decide) rfl ?_
  refine V_iload_n X dJ6_bitCount_0f7a4_48 0 rfl rfl ?_
  refine V_bipush (v := (nI 63)) X dJ6_bitCount_0f7a4_49 (by decide) ?_
  refine V_iand X dJ6_bitCount_0f7a4_51 ?_
  have h : ((((((((a0 - (((Int32.toUInt32 a0) >>> ((Int32.toUInt32 (nI 1)) &&& Int32.toUInt32 31)).toInt32 &&& (nI 1431655765))) &&& (nI 858993459)) + (((Int32.toUInt32 (a0 - (((Int32.toUInt32 a0) >>> ((Int32.toUInt32 (nI 1)) &&& Int32.toUInt32 31)).toInt32 &&& (nI 1431655765)))) >>> ((Int32.toUInt32 (nI 2)) &&& Int32.toUInt32 31)).toInt32 &&& (nI 858993459))) + ((Int32.toUInt32 (((a0 - (((Int32.toUInt32 a0) >>> ((Int32.toUInt32 (nI 1)) &&& Int32.toUInt32 31)).toInt32 &&& (nI 1431655765))) &&& (nI 858993459)) + (((Int32.toUInt32 (a0 - (((Int32.toUInt32 a0) >>> ((Int32.toUInt32 (nI 1)) &&& Int32.toUInt32 31)).toInt32 &&& (nI 1431655765)))) >>> ((Int32.toUInt32 (nI 2)) &&& Int32.toUInt32 31)).toInt32 &&& (nI 858993459)))) >>> ((Int32.toUInt32 (nI 4)) &&& Int32.toUInt32 31)).toInt32) &&& (nI 252645135)) + ((Int32.toUInt32 (((((a0 - (((Int32.toUInt32 a0) >>> ((Int32.toUInt32 (nI 1)) &&& Int32.toUInt32 31)).toInt32 &&& (nI 1431655765))) &&& (nI 858993459)) + (((Int32.toUInt32 (a0 - (((Int32.toUInt32 a0) >>> ((Int32.toUInt32 (nI 1)) &&& Int32.toUInt32 31)).toInt32 &&& (nI 1431655765)))) >>> ((Int32.toUInt32 (nI 2)) &&& Int32.toUInt32 31)).toInt32 &&& (nI 858993459))) + ((Int32.toUInt32 (((a0 - (((Int32.toUInt32 a0) >>> ((Int32.toUInt32 (nI 1)) &&& Int32.toUInt32 31)).toInt32 &&& (nI 1431655765))) &&& (nI 858993459)) + (((Int32.toUInt32 (a0 - (((Int32.toUInt32 a0) >>> ((Int32.toUInt32 (nI 1)) &&& Int32.toUInt32 31)).toInt32 &&& (nI 1431655765)))) >>> ((Int32.toUInt32 (nI 2)) &&& Int32.toUInt32 31)).toInt32 &&& (nI 858993459)))) >>> ((Int32.toUInt32 (nI 4)) &&& Int32.toUInt32 31)).toInt32) &&& (nI 252645135))) >>> ((Int32.toUInt32 (nI 8)) &&& Int32.toUInt32 31)).toInt32) + ((Int32.toUInt32 ((((((a0 - (((Int32.toUInt32 a0) >>> ((Int32.toUInt32 (nI 1)) &&& Int32.toUInt32 31)).toInt32 &&& (nI 1431655765))) &&& (nI 858993459)) + (((Int32.toUInt32 (a0 - (((Int32.toUInt32 a0) >>> ((Int32.toUInt32 (nI 1)) &&& Int32.toUInt32 31)).toInt32 &&& (nI 1431655765)))) >>> ((Int32.toUInt32 (nI 2)) &&& Int32.toUInt32 31)).toInt32 &&& (nI 858993459))) + ((Int32.toUInt32 (((a0 - (((Int32.toUInt32 a0) >>> ((Int32.toUInt32 (nI 1)) &&& Int32.toUInt32 31)).toInt32 &&& (nI 1431655765))) &&& (nI 858993459)) + (((Int32.toUInt32 (a0 - (((Int32.toUInt32 a0) >>> ((Int32.toUInt32 (nI 1)) &&& Int32.toUInt32 31)).toInt32 &&& (nI 1431655765)))) >>> ((Int32.toUInt32 (nI 2)) &&& Int32.toUInt32 31)).toInt32 &&& (nI 858993459)))) >>> ((Int32.toUInt32 (nI 4)) &&& Int32.toUInt32 31)).toInt32) &&& (nI 252645135)) + ((Int32.toUInt32 (((((a0 - (((Int32.toUInt32 a0) >>> ((Int32.toUInt32 (nI 1)) &&& Int32.toUInt32 31)).toInt32 &&& (nI 1431655765))) &&& (nI 858993459)) + (((Int32.toUInt32 (a0 - (((Int32.toUInt32 a0) >>> ((Int32.toUInt32 (nI 1)) &&& Int32.toUInt32 31)).toInt32 &&& (nI 1431655765)))) >>> ((Int32.toUInt32 (nI 2)) &&& Int32.toUInt32 31)).toInt32 &&& (nI 858993459))) + ((Int32.toUInt32 (((a0 - (((Int32.toUInt32 a0) >>> ((Int32.toUInt32 (nI 1)) &&& Int32.toUInt32 31)).toInt32 &&& (nI 1431655765))) &&& (nI 858993459)) + (((Int32.toUInt32 (a0 - (((Int32.toUInt32 a0) >>> ((Int32.toUInt32 (nI 1)) &&& Int32.toUInt32 31)).toInt32 &&& (nI 1431655765)))) >>> ((Int32.toUInt32 (nI 2)) &&& Int32.toUInt32 31)).toInt32 &&& (nI 858993459)))) >>> ((Int32.toUInt32 (nI 4)) &&& Int32.toUInt32 31)).toInt32) &&& (nI 252645135))) >>> ((Int32.toUInt32 (nI 8)) &&& Int32.toUInt32 31)).toInt32)) >>> ((Int32.toUInt32 (nI 16)) &&& Int32.toUInt32 31)).toInt32) &&& (nI 63)) = rv := h
  exact R_i X hr hlk h rfl dJ6_bitCount_0f7a4_52
def rm_X3_ones : Room := { frames := 2, cells := 0, slots := 0, locals := 42 }
def f_X3_ones (F : Nat) (k0 : Nat) (M : Mm) : Option (Int32) :=
  lpf (fun z1 : Int32 × Int32 => if (M k0 1) ≤ z1.2 then (some (.inr z1.1)) else ((f_X3_at k0 z1.2 M).bind fun r2 => (f_J6_bitCount_0f7a4 r2).bind fun r4 => some (.inl ((z1.1 + r4), (z1.2 + (nI 1)))))) F ((nI 0), (nI 0))
set_option maxRecDepth 100000 in
set_option maxHeartbeats 4000000 in
theorem k_X3_ones (l : Launch) (D : va_G) (cy : Nat → ClassId) (q : Nat → Nat) (F : Nat) (k0 : Nat) (hk0 : isRow k0) (M : Mm) (rv : Int32) (h0 : f_X3_ones F k0 M = some rv) : KI l yX3_ones (Cond.code yX3_ones cX3_ones 3 (Option.some FieldType.int) :: gw) rm_X3_ones D cy q [.ref (q k0)] M rv M := by
  refine KI.mk (L0 := [(0, .ref (q k0))]) (by decide +kernel) rfl (Nat.le_of_ble_eq_true rfl) rfl rfl rfl ?_
  intro p e s m below meth c X0 hr hlk
  have X := Fx.gw (own := RX3) X0
  clear X0
  have h : Ok (f_X3_ones F k0 M) (fun r => r = rv) := Ok.of h0 rfl
  clear h0
  delta f_X3_ones at h
  refine V_iconst (v := (nI 0)) X dX3_ones_0 (by decide) ?_
  refine V_istore_n (L' := [(1, .int (nI 0)), (0, .ref (q k0))]) X dX3_ones_1 rfl (by decide) rfl ?_
  refine V_iconst (v := (nI 0)) X dX3_ones_2 (by decide) ?_
  refine V_istore_n (L' := [(2, .int (nI 0)), (1, .int (nI 0)), (0, .ref (q k0))]) X dX3_ones_3 rfl (by decide) rfl ?_
  refine V_sub (L' := [(0, .ref (q k0)), (1, .int (nI 0)), (2, .int (nI 0))]) [2, 1, 0] rfl ?_
  refine V_loop X h (fun z1 => M) (fun z1 => [(0, .ref (q k0)), (1, .int z1.1), (2, .int z1.2)]) rfl rfl (fun z1 h => ?_)
  refine V_iload_n X dX3_ones_4 2 rfl rfl ?_
  refine V_aload_n X dX3_ones_5 0 rfl rfl ?_
  refine G_3_1 X hk0 inX3 wFL_X3_15 dX3_ones_6 ?_
  refine B_icmp_ge X 29 dX3_ones_9 (by decide) h (fun h => ?_) (fun h => ?_)
  · refine V_iload_n X dX3_ones_29 1 rfl rfl ?_
    have h : z1.1 = rv := h
    exact R_i X hr hlk h rfl dX3_ones_30
  · refine V_iload_n X dX3_ones_12 1 rfl rfl ?_
    refine V_aload_n X dX3_ones_13 0 rfl rfl ?_
    refine V_iload_n X dX3_ones_14 2 rfl rfl ?_
    obtain ⟨r2, e3, h⟩ := (Ok.bind h).ex
    refine C_Vi (As := [.int z1.2]) (M' := M) (k0 := k0) X (wd_row hk0) rfl (cwV 1 X.1.2.2.2.2 (gw_V wML_X3_27 wIM_X3_at wSE_X3_at wIN_X3 (gw_c wCD_X3_at)) rfl rfl rfl (by decide +kernel) ⟨Nat.le_of_ble_eq_true rfl, Nat.le_of_ble_eq_true rfl⟩) rfl rfl (Nat.le_of_ble_eq_true rfl) ⟨Nat.zero_le _, Nat.zero_le _⟩ (k_X3_at l D cy q k0 hk0 z1.2 M r2 e3) dX3_ones_15 ?_
    obtain ⟨r4, e5, h⟩ := (Ok.bind h).ex
    refine C_Si (As := [.int r2]) (M' := M) X (va_cwS 1 X.1.2.2.2.2 (gw_S wML_X3_43 wST_J6_bitCount_0f7a4 wIN_J6 (gw_c wCD_J6_bitCount_0f7a4)) rfl rfl rfl (by decide +kernel) ⟨Nat.le_of_ble_eq_true rfl, Nat.le_of_ble_eq_true rfl⟩) rfl rfl (Nat.le_of_ble_eq_true rfl) ⟨Nat.zero_le _, Nat.zero_le _⟩ (k_J6_bitCount_0f7a4 l D cy q r2 M r4 e5) dX3_ones_18 ?_
    refine V_iadd X dX3_ones_21 ?_
    refine V_istore_n (L' := [(1, .int (z1.1 + r4)), (0, .ref (q k0)), (2, .int z1.2)]) X dX3_ones_22 rfl (by decide) rfl ?_
    refine V_iinc (v := (z1.2 + (nI 1))) (L' := [(2, .int (z1.2 + (nI 1))), (1, .int (z1.1 + r4)), (0, .ref (q k0))]) (j := 2) X dX3_ones_23 rfl rfl (by decide) rfl ?_
    refine V_goto X 4 dX3_ones_26 (by decide) ?_
    exact V_sub [2, 1, 0] rfl h
def rm_X0_size : Room := { frames := 0, cells := 0, slots := 0, locals := 0 }
def f_X0_size (M : Mm) : Option (Int32) :=
  some (M 13 1)
set_option maxRecDepth 100000 in
set_option maxHeartbeats 4000000 in
theorem k_X0_size (l : Launch) (D : va_G) (cy : Nat → ClassId) (q : Nat → Nat)  (M : Mm) (rv : Int32) (h0 : f_X0_size M = some rv) : KI l yX0_size (Cond.code yX0_size cX0_size 1 (Option.some FieldType.int) :: gw) rm_X0_size D cy q [.ref (q 13)] M rv M := by
  refine KI.mk (L0 := [(0, .ref (q 13))]) (by decide +kernel) rfl (Nat.le_of_ble_eq_true rfl) rfl rfl rfl ?_
  intro p e s m below meth c X0 hr hlk
  have X := Fx.gw (own := RX0) X0
  clear X0
  have h : Ok (f_X0_size M) (fun r => r = rv) := Ok.of h0 rfl
  clear h0
  delta f_X0_size at h
  refine V_aload_n X dX0_size_0 0 rfl rfl ?_
  refine G_0_1 X inX0 wFL_X0_18 dX0_size_1 ?_
  have h : (M 13 1) = rv := h
  exact R_i X hr hlk h rfl dX0_size_4
def rm_X5_length : Room := { frames := 0, cells := 0, slots := 0, locals := 0 }
def f_X5_length (M : Mm) : Option (Int32) :=
  some (M 37 1)
set_option maxRecDepth 100000 in
set_option maxHeartbeats 4000000 in
theorem k_X5_length (l : Launch) (D : va_G) (cy : Nat → ClassId) (q : Nat → Nat)  (M : Mm) (rv : Int32) (h0 : f_X5_length M = some rv) : KI l yX5_length (Cond.code yX5_length cX5_length 1 (Option.some FieldType.int) :: gw) rm_X5_length D cy q [.ref (q 37)] M rv M := by
  refine KI.mk (L0 := [(0, .ref (q 37))]) (by decide +kernel) rfl (Nat.le_of_ble_eq_true rfl) rfl rfl rfl ?_
  intro p e s m below meth c X0 hr hlk
  have X := Fx.gw (own := RX5) X0
  clear X0
  have h : Ok (f_X5_length M) (fun r => r = rv) := Ok.of h0 rfl
  clear h0
  delta f_X5_length at h
  refine V_aload_n X dX5_length_0 0 rfl rfl ?_
  refine G_5_1 X inX5 wFL_X5_15 dX5_length_1 ?_
  have h : (M 37 1) = rv := h
  exact R_i X hr hlk h rfl dX5_length_4
def rm_X6_count : Room := { frames := 3, cells := 0, slots := 0, locals := 67 }
def f_X6_count (F : Nat) (a1 : Int32) (M : Mm) : Option (Int32 × Mm) :=
  (if a1 = nI 0 then ((f_X3_size 1 M).bind fun r2 => some (r2, M)) else (if a1 = nI 1 then ((f_X3_size 1 M).bind fun r5 => (f_X4_fill F 33 1 (nI 0) r5 M).bind fun r7 => (f_X4_unlike F 33 r7).bind fun r9 => some (r9, r7)) else (if a1 = nI 2 then ((f_X3_ones F 1 M).bind fun r12 => some (r12, M)) else (if a1 = nI 3 then ((f_X6_blocks M).bind fun r15 => some (r15, M)) else (if a1 = nI 4 then ((f_X0_size M).bind fun r18 => some (r18, M)) else (if a1 = nI 5 then ((f_X5_length M).bind fun r21 => some (r21, M)) else (some ((-1000001 : Int32), M))))))))
set_option maxRecDepth 100000 in
set_option maxHeartbeats 4000000 in
theorem k_X6_count (l : Launch) (D : va_G) (cy : Nat → ClassId) (q : Nat → Nat) (F : Nat) (a1 : Int32) (M : Mm) (rv : Int32) (M' : Mm) (h0 : f_X6_count F a1 M = some (rv, M')) : KI l yX6_count (Cond.code yX6_count cX6_count 2 (Option.some FieldType.int) :: gw) rm_X6_count D cy q [.ref (q 0), .int a1] M rv M' := by
  refine KI.mk (L0 := [(0, .ref (q 0)), (1, .int a1)]) (by decide +kernel) rfl (Nat.le_of_ble_eq_true rfl) rfl rfl rfl ?_
  intro p e s m below meth c X0 hr hlk
  have X := Fx.gw (own := RX6) X0
  clear X0
  have h : Ok (f_X6_count F a1 M) (fun r => r = (rv, M')) := Ok.of h0 rfl
  clear h0
  delta f_X6_count at h
  refine V_iload_n X dX6_count_0 1 rfl rfl ?_
  by_cases g1 : a1 = nI 0
  · have h := h.pos g1
    refine V_tabIn X 40 dX6_count_1 (by rw [g1] <;> decide) (by rw [g1] <;> decide) (by rw [g1] <;> rfl) (by decide) ?_
    refine V_aload_n X dX6_count_40 0 rfl rfl ?_
    refine G_6_0 X inX6 wFL_X6_10 dX6_count_41 ?_
    obtain ⟨r2, e3, h⟩ := (Ok.bind h).ex
    refine C_Vi (As := []) (M' := M) (k0 := 1) X (wd_row row_1) rfl (cwV 0 X.1.2.2.2.2 (gw_V wML_X6_54 wIM_X3_size wSE_X3_size wIN_X3 (gw_c wCD_X3_size)) rfl rfl rfl (by decide +kernel) ⟨Nat.le_of_ble_eq_true rfl, Nat.le_of_ble_eq_true rfl⟩) rfl rfl (Nat.le_of_ble_eq_true rfl) ⟨Nat.zero_le _, Nat.zero_le _⟩ (k_X3_size l D cy q 1 row_1 M r2 e3) dX6_count_44 ?_
    have h : (r2, M) = (rv, M') := h
    exact R_i X hr hlk (congrArg Prod.fst h) (congrArg Prod.snd h) dX6_count_47
  have h := h.neg g1
  by_cases g4 : a1 = nI 1
  · have h := h.pos g4
    refine V_tabIn X 48 dX6_count_1 (by rw [g4] <;> decide) (by rw [g4] <;> decide) (by rw [g4] <;> rfl) (by decide) ?_
    refine V_aload_n X dX6_count_48 0 rfl rfl ?_
    refine G_6_3 X inX6 wFL_X6_33 dX6_count_49 ?_
    refine V_aload_n X dX6_count_52 0 rfl rfl ?_
    refine G_6_0 X inX6 wFL_X6_10 dX6_count_53 ?_
    refine V_iconst (v := (nI 0)) X dX6_count_56 (by decide) ?_
    refine V_aload_n X dX6_count_57 0 rfl rfl ?_
    refine G_6_0 X inX6 wFL_X6_10 dX6_count_58 ?_
    obtain ⟨r5, e6, h⟩ := (Ok.bind h).ex
    refine C_Vi (As := []) (M' := M) (k0 := 1) X (wd_row row_1) rfl (cwV 0 X.1.2.2.2.2 (gw_V wML_X6_54 wIM_X3_size wSE_X3_size wIN_X3 (gw_c wCD_X3_size)) rfl rfl rfl (by decide +kernel) ⟨Nat.le_of_ble_eq_true rfl, Nat.le_of_ble_eq_true rfl⟩) rfl rfl (Nat.le_of_ble_eq_true rfl) ⟨Nat.zero_le _, Nat.zero_le _⟩ (k_X3_size l D cy q 1 row_1 M r5 e6) dX6_count_61 ?_
    obtain ⟨r7, e8, h⟩ := (Ok.bind h).ex
    refine C_Vv (As := [.ref (q 1), .int (nI 0), .int r5]) (M' := r7) (k0 := 33) X (wd_tly tly_33) rfl (cwV 3 X.1.2.2.2.2 (gw_V wML_X6_100 wIM_X4_fill wSE_X4_fill wIN_X4 (gw_c wCD_X4_fill)) rfl rfl rfl (by decide +kernel) ⟨Nat.le_of_ble_eq_true rfl, Nat.le_of_ble_eq_true rfl⟩) rfl rfl (Nat.le_of_ble_eq_true rfl) ⟨Nat.zero_le _, Nat.zero_le _⟩ (k_X4_fill l D cy q F 33 tly_33 1 row_1 (nI 0) r5 M r7 e8) dX6_count_64 ?_
    refine V_aload_n X dX6_count_67 0 rfl rfl ?_
    refine G_6_3 X inX6 wFL_X6_33 dX6_count_68 ?_
    obtain ⟨r9, e10, h⟩ := (Ok.bind h).ex
    refine C_Vi (As := []) (M' := r7) (k0 := 33) X (wd_tly tly_33) rfl (cwV 0 X.1.2.2.2.2 (gw_V wML_X6_166 wIM_X4_unlike wSE_X4_unlike wIN_X4 (gw_c wCD_X4_unlike)) rfl rfl rfl (by decide +kernel) ⟨Nat.le_of_ble_eq_true rfl, Nat.le_of_ble_eq_true rfl⟩) rfl rfl (Nat.le_of_ble_eq_true rfl) ⟨Nat.zero_le _, Nat.zero_le _⟩ (k_X4_unlike l D cy q F 33 tly_33 r7 r9 e10) dX6_count_71 ?_
    have h : (r9, r7) = (rv, M') := h
    exact R_i X hr hlk (congrArg Prod.fst h) (congrArg Prod.snd h) dX6_count_74
  have h := h.neg g4
  by_cases g11 : a1 = nI 2
  · have h := h.pos g11
    refine V_tabIn X 75 dX6_count_1 (by rw [g11] <;> decide) (by rw [g11] <;> decide) (by rw [g11] <;> rfl) (by decide) ?_
    refine V_aload_n X dX6_count_75 0 rfl rfl ?_
    refine G_6_0 X inX6 wFL_X6_10 dX6_count_76 ?_
    obtain ⟨r12, e13, h⟩ := (Ok.bind h).ex
    refine C_Vi (As := []) (M' := M) (k0 := 1) X (wd_row row_1) rfl (cwV 0 X.1.2.2.2.2 (gw_V wML_X6_184 wIM_X3_ones wSE_X3_ones wIN_X3 (gw_c wCD_X3_ones)) rfl rfl rfl (by decide +kernel) ⟨Nat.le_of_ble_eq_true rfl, Nat.le_of_ble_eq_true rfl⟩) rfl rfl (Nat.le_of_ble_eq_true rfl) ⟨Nat.zero_le _, Nat.zero_le _⟩ (k_X3_ones l D cy q F 1 row_1 M r12 e13) dX6_count_79 ?_
    have h : (r12, M) = (rv, M') := h
    exact R_i X hr hlk (congrArg Prod.fst h) (congrArg Prod.snd h) dX6_count_82
  have h := h.neg g11
  by_cases g14 : a1 = nI 3
  · have h := h.pos g14
    refine V_tabIn X 83 dX6_count_1 (by rw [g14] <;> decide) (by rw [g14] <;> decide) (by rw [g14] <;> rfl) (by decide) ?_
    refine V_aload_n X dX6_count_83 0 rfl rfl ?_
    obtain ⟨r15, e16, h⟩ := (Ok.bind h).ex
    refine C_Vi (As := []) (M' := M) (k0 := 0) X rfl rfl (cwV 0 X.1.2.2.2.2 (gw_V wML_X6_127 wIM_X6_blocks wSE_X6_blocks wIN_X6 (gw_c wCD_X6_blocks)) rfl rfl rfl (by decide +kernel) ⟨Nat.le_of_ble_eq_true rfl, Nat.le_of_ble_eq_true rfl⟩) rfl rfl (Nat.le_of_ble_eq_true rfl) ⟨Nat.zero_le _, Nat.zero_le _⟩ (k_X6_blocks l D cy q M r15 e16) dX6_count_84 ?_
    have h : (r15, M) = (rv, M') := h
    exact R_i X hr hlk (congrArg Prod.fst h) (congrArg Prod.snd h) dX6_count_87
  have h := h.neg g14
  by_cases g17 : a1 = nI 4
  · have h := h.pos g17
    refine V_tabIn X 88 dX6_count_1 (by rw [g17] <;> decide) (by rw [g17] <;> decide) (by rw [g17] <;> rfl) (by decide) ?_
    refine V_aload_n X dX6_count_88 0 rfl rfl ?_
    refine G_6_1 X inX6 wFL_X6_19 dX6_count_89 ?_
    obtain ⟨r18, e19, h⟩ := (Ok.bind h).ex
    refine C_Vi (As := []) (M' := M) (k0 := 13) X rfl rfl (cwV 0 X.1.2.2.2.2 (gw_V wML_X6_186 wIM_X0_size wSE_X0_size wIN_X0 (gw_c wCD_X0_size)) rfl rfl rfl (by decide +kernel) ⟨Nat.le_of_ble_eq_true rfl, Nat.le_of_ble_eq_true rfl⟩) rfl rfl (Nat.le_of_ble_eq_true rfl) ⟨Nat.zero_le _, Nat.zero_le _⟩ (k_X0_size l D cy q M r18 e19) dX6_count_92 ?_
    have h : (r18, M) = (rv, M') := h
    exact R_i X hr hlk (congrArg Prod.fst h) (congrArg Prod.snd h) dX6_count_95
  have h := h.neg g17
  by_cases g20 : a1 = nI 5
  · have h := h.pos g20
    refine V_tabIn X 96 dX6_count_1 (by rw [g20] <;> decide) (by rw [g20] <;> decide) (by rw [g20] <;> rfl) (by decide) ?_
    refine V_aload_n X dX6_count_96 0 rfl rfl ?_
    refine G_6_6 X inX6 wFL_X6_51 dX6_count_97 ?_
    obtain ⟨r21, e22, h⟩ := (Ok.bind h).ex
    refine C_Vi (As := []) (M' := M) (k0 := 37) X rfl rfl (cwV 0 X.1.2.2.2.2 (gw_V wML_X6_187 wIM_X5_length wSE_X5_length wIN_X5 (gw_c wCD_X5_length)) rfl rfl rfl (by decide +kernel) ⟨Nat.le_of_ble_eq_true rfl, Nat.le_of_ble_eq_true rfl⟩) rfl rfl (Nat.le_of_ble_eq_true rfl) ⟨Nat.zero_le _, Nat.zero_le _⟩ (k_X5_length l D cy q M r21 e22) dX6_count_100 ?_
    have h : (r21, M) = (rv, M') := h
    exact R_i X hr hlk (congrArg Prod.fst h) (congrArg Prod.snd h) dX6_count_103
  have h := h.neg g20
  have n23 := lv_neT (a := 0) g1 rfl
  have n24 := lv_neT (a := 1) g4 rfl
  have n25 := lv_neT (a := 2) g11 rfl
  have n26 := lv_neT (a := 3) g14 rfl
  have n27 := lv_neT (a := 4) g17 rfl
  have n28 := lv_neT (a := 5) g20 rfl
  refine V_tabOut X 104 dX6_count_1 (by omega) (by decide) ?_
  refine V_ldc X wKI_X6_66 dX6_count_104 ?_
  have h : ((-1000001 : Int32), M) = (rv, M') := h
  exact R_i X hr hlk (congrArg Prod.fst h) (congrArg Prod.snd h) dX6_count_106
def rm_X0_restore : Room := { frames := 1, cells := 0, slots := 0, locals := 22 }
def f_X0_restore (F : Nat) (k0 : Nat) (M : Mm) : Option (Mm) :=
  if (M 13 1) ≤ 0 then (some M) else (if inb ((up M 13 1 ((M 13 1) - (nI 1))) 13 1) 4 = true then (f_X3_copyFrom F k0 (3 + 2 * (Int32.toNatClampNeg ((up M 13 1 ((M 13 1) - (nI 1))) 13 1))) (up M 13 1 ((M 13 1) - (nI 1)))).bind fun r2 => some r2 else none)
set_option maxRecDepth 100000 in
set_option maxHeartbeats 4000000 in
theorem k_X0_restore (l : Launch) (D : va_G) (cy : Nat → ClassId) (q : Nat → Nat) (F : Nat) (k0 : Nat) (hk0 : isRow k0) (M : Mm) (M' : Mm) (h0 : f_X0_restore F k0 M = some M') : KV l yX0_restore (Cond.code yX0_restore cX0_restore 2 none :: gw) rm_X0_restore D cy q [.ref (q 13), .ref (q k0)] M M' := by
  refine KV.mk (L0 := [(0, .ref (q 13)), (1, .ref (q k0))]) (by decide +kernel) rfl (Nat.le_of_ble_eq_true rfl) rfl rfl rfl ?_
  intro p e s m below meth c X0 hr hlk
  have X := Fx.gw (own := RX0) X0
  clear X0
  have h : Ok (f_X0_restore F k0 M) (fun r => r = M') := Ok.of h0 rfl
  clear h0
  delta f_X0_restore at h
  refine V_aload_n X dX0_restore_0 0 rfl rfl ?_
  refine G_0_1 X inX0 wFL_X0_18 dX0_restore_1 ?_
  refine B_if_le X 30 dX0_restore_4 (by decide) h (fun h => ?_) (fun h => ?_)
  · have h : M = M' := h
    exact R_v X hr hlk h dX0_restore_30
  · refine V_aload_n X dX0_restore_7 0 rfl rfl ?_
    refine V_dup X dX0_restore_8 rfl ?_
    refine G_0_1 X inX0 wFL_X0_18 dX0_restore_9 ?_
    refine V_iconst (v := (nI 1)) X dX0_restore_12 (by decide) ?_
    refine V_isub X dX0_restore_13 ?_
    refine P_0_1 X inX0 wFL_X0_18 dX0_restore_14 ?_
    refine V_aload_n X dX0_restore_17 1 rfl rfl ?_
    refine V_aload_n X dX0_restore_18 0 rfl rfl ?_
    refine G_0_0 X inX0 wFL_X0_11 dX0_restore_19 ?_
    refine V_aload_n X dX0_restore_22 0 rfl rfl ?_
    refine G_0_1 X inX0 wFL_X0_18 dX0_restore_23 ?_
    refine A_r14_ld X h dX0_restore_26 (fun hb1 h => ?_)
    obtain ⟨r2, e3, h⟩ := (Ok.bind h).ex
    refine C_Vv (As := [.ref (q (3 + 2 * (Int32.toNatClampNeg ((up M 13 1 ((M 13 1) - (nI 1))) 13 1))))]) (M' := r2) (k0 := k0) X (wd_row hk0) rfl (cwV 1 X.1.2.2.2.2 (gw_V wML_X0_25 wIM_X3_copyFrom wSE_X3_copyFrom wIN_X3 (gw_c wCD_X3_copyFrom)) rfl rfl rfl (by decide +kernel) ⟨Nat.le_of_ble_eq_true rfl, Nat.le_of_ble_eq_true rfl⟩) rfl rfl (Nat.le_of_ble_eq_true rfl) ⟨Nat.zero_le _, Nat.zero_le _⟩ (k_X3_copyFrom l D cy q F k0 hk0 (3 + 2 * (Int32.toNatClampNeg ((up M 13 1 ((M 13 1) - (nI 1))) 13 1))) (isRow_h hb1) (up M 13 1 ((M 13 1) - (nI 1))) r2 e3) dX0_restore_27 ?_
    have h : r2 = M' := h
    exact R_v X hr hlk h dX0_restore_30
