set_option maxRecDepth 100000 in
set_option maxHeartbeats 4000000 in
/-- a row without symbols -/
theorem c_Row (l : Launch) (D : va_G) (cy : Nat → ClassId) (h0 : Nat) : KN l yX3_init (Cond.code yX3_init cX3_init 1 none :: gw) ({ frames := 1, cells := 1, slots := 60, locals := 12 }) D cy [.ref h0] [(h0, .inr (3, [.null, .int 0]))] (Nat) (fun a => [(h0, .inr (3, [.ref a, .int 0])), (a, .inl (cy 0, 60, .inl (fun _ => 0)))]) 1 60 := by
  refine KN.mk (L0 := [(0, .ref h0)]) (by decide +kernel) rfl (Nat.le_of_ble_eq_true rfl) rfl ?_
  intro p e s m below meth c X0 hr hlk hnm
  have X : Fy p s m _ c cX3_init 1 RX3 D cy _ s.heap := X0
  clear X0
  refine U_aload_n X dX3_init_0 0 rfl rfl ?_
  refine U_obj X wML_X3_3 dX3_init_1 (Nat.le_of_ble_eq_true rfl) (Nat.le_of_ble_eq_true rfl) ?_
  refine U_aload_n X dX3_init_4 0 rfl rfl ?_
  refine U_bipush X (v := nI 60) dX3_init_5 (by decide) ?_
  refine U_newi X (N := 60) (by decide) (by decide) (Nat.le_of_ble_eq_true rfl) ⟨Nat.le_of_ble_eq_true rfl, Nat.le_of_ble_eq_true rfl⟩ dX3_init_7 (fun a => ?_)
  refine U_eqw (ws' := [(h0, .inr (3, [.null, .int 0])), (a, .inl (cy 0, 60, .inl (fun _ => 0)))]) rfl ?_
  refine U_putF X inX3 tyX3 tyX3_ok nmX3 0 rfl rfl 0 (by decide) wFL_X3_9 rfl hnm rfl (tyX3_ok 0 (by decide)) rfl rfl (Nat.le_of_ble_eq_true rfl) dX3_init_9 ?_
  refine U_eqw (ws' := [(h0, .inr (3, [.ref a, .int 0])), (a, .inl (cy 0, 60, .inl (fun _ => 0)))]) rfl ?_
  refine U_aload_n X dX3_init_12 0 rfl rfl ?_
  refine U_iconst X (v := nI 0) dX3_init_13 (by decide) ?_
  refine U_put X inX3 tyX3 tyX3_ok nmX3 0 rfl rfl 1 (by decide) wFL_X3_15 rfl (tyX3_ok 1 (by decide)) rfl rfl (Nat.le_of_ble_eq_true rfl) dX3_init_14 ?_
  refine U_eqw (ws' := [(h0, .inr (3, [.ref a, .int 0])), (a, .inl (cy 0, 60, .inl (fun _ => 0)))]) rfl ?_
  exact U_ret X hr hlk a rfl dX3_init_17
set_option maxRecDepth 100000 in
set_option maxHeartbeats 4000000 in
/-- a tally -/
theorem c_Tally (l : Launch) (D : va_G) (cy : Nat → ClassId) (h0 : Nat) : KN l yX4_init (Cond.code yX4_init cX4_init 1 none :: gw) ({ frames := 1, cells := 1, slots := 16, locals := 12 }) D cy [.ref h0] [(h0, .inr (4, [.null]))] (Nat) (fun a => [(h0, .inr (4, [.ref a])), (a, .inl (cy 0, 16, .inl (fun _ => 0)))]) 1 16 := by
  refine KN.mk (L0 := [(0, .ref h0)]) (by decide +kernel) rfl (Nat.le_of_ble_eq_true rfl) rfl ?_
  intro p e s m below meth c X0 hr hlk hnm
  have X : Fy p s m _ c cX4_init 1 RX4 D cy _ s.heap := X0
  clear X0
  refine U_aload_n X dX4_init_0 0 rfl rfl ?_
  refine U_obj X wML_X4_3 dX4_init_1 (Nat.le_of_ble_eq_true rfl) (Nat.le_of_ble_eq_true rfl) ?_
  refine U_aload_n X dX4_init_4 0 rfl rfl ?_
  refine U_bipush X (v := nI 16) dX4_init_5 (by decide) ?_
  refine U_newi X (N := 16) (by decide) (by decide) (Nat.le_of_ble_eq_true rfl) ⟨Nat.le_of_ble_eq_true rfl, Nat.le_of_ble_eq_true rfl⟩ dX4_init_7 (fun a => ?_)
  refine U_eqw (ws' := [(h0, .inr (4, [.null])), (a, .inl (cy 0, 16, .inl (fun _ => 0)))]) rfl ?_
  refine U_putF X inX4 tyX4 tyX4_ok nmX4 0 rfl rfl 0 (by decide) wFL_X4_9 rfl hnm rfl (tyX4_ok 0 (by decide)) rfl rfl (Nat.le_of_ble_eq_true rfl) dX4_init_9 ?_
  refine U_eqw (ws' := [(h0, .inr (4, [.ref a])), (a, .inl (cy 0, 16, .inl (fun _ => 0)))]) rfl ?_
  exact U_ret X hr hlk a rfl dX4_init_12
set_option maxRecDepth 100000 in
set_option maxHeartbeats 4000000 in
/-- an empty text -/
theorem c_Text (l : Launch) (D : va_G) (cy : Nat → ClassId) (h0 : Nat) : KN l yX5_init (Cond.code yX5_init cX5_init 1 none :: gw) ({ frames := 1, cells := 1, slots := 60, locals := 12 }) D cy [.ref h0] [(h0, .inr (5, [.null, .int 0]))] (Nat) (fun a => [(h0, .inr (5, [.ref a, .int 0])), (a, .inl (cy 1, 60, .inl (fun _ => 0)))]) 1 60 := by
  refine KN.mk (L0 := [(0, .ref h0)]) (by decide +kernel) rfl (Nat.le_of_ble_eq_true rfl) rfl ?_
  intro p e s m below meth c X0 hr hlk hnm
  have X : Fy p s m _ c cX5_init 1 RX5 D cy _ s.heap := X0
  clear X0
  refine U_aload_n X dX5_init_0 0 rfl rfl ?_
  refine U_obj X wML_X5_3 dX5_init_1 (Nat.le_of_ble_eq_true rfl) (Nat.le_of_ble_eq_true rfl) ?_
  refine U_aload_n X dX5_init_4 0 rfl rfl ?_
  refine U_bipush X (v := nI 60) dX5_init_5 (by decide) ?_
  refine U_newc X (N := 60) (by decide) (by decide) (Nat.le_of_ble_eq_true rfl) ⟨Nat.le_of_ble_eq_true rfl, Nat.le_of_ble_eq_true rfl⟩ dX5_init_7 (fun a => ?_)
  refine U_eqw (ws' := [(h0, .inr (5, [.null, .int 0])), (a, .inl (cy 1, 60, .inl (fun _ => 0)))]) rfl ?_
  refine U_putF X inX5 tyX5 tyX5_ok nmX5 0 rfl rfl 0 (by decide) wFL_X5_9 rfl hnm rfl (tyX5_ok 0 (by decide)) rfl rfl (Nat.le_of_ble_eq_true rfl) dX5_init_9 ?_
  refine U_eqw (ws' := [(h0, .inr (5, [.ref a, .int 0])), (a, .inl (cy 1, 60, .inl (fun _ => 0)))]) rfl ?_
  refine U_aload_n X dX5_init_12 0 rfl rfl ?_
  refine U_iconst X (v := nI 0) dX5_init_13 (by decide) ?_
  refine U_put X inX5 tyX5 tyX5_ok nmX5 0 rfl rfl 1 (by decide) wFL_X5_15 rfl (tyX5_ok 1 (by decide)) rfl rfl (Nat.le_of_ble_eq_true rfl) dX5_init_14 ?_
  refine U_eqw (ws' := [(h0, .inr (5, [.ref a, .int 0])), (a, .inl (cy 1, 60, .inl (fun _ => 0)))]) rfl ?_
  exact U_ret X hr hlk a rfl dX5_init_17
set_option maxRecDepth 100000 in
set_option maxHeartbeats 4000000 in
/-- a player with its text -/
theorem c_Player (l : Launch) (D : va_G) (cy : Nat → ClassId) (h0 : Nat) : KN l yX2_init (Cond.code yX2_init cX2_init 1 none :: gw) ({ frames := 2, cells := 4, slots := 124, locals := 32 }) D cy [.ref h0] [(h0, .inr (2, [.null, .null, .int 0, .int 0, .int 0, .int 0, .int 0, .int 0, .int 0, .int 0]))] (Nat × Nat × Nat × Nat) (fun u => [(h0, .inr (2, [.ref u.1, .ref u.2.2.1, .int 0, .int 0, .int 0, .int 0, .int 0, .int 0, .int 0, .int 0])), (u.1, .inr (5, [.ref u.2.1, .int 0])), (u.2.1, .inl (cy 1, 60, .inl (fun _ => 0))), (u.2.2.1, .inr (3, [.ref u.2.2.2, .int 0])), (u.2.2.2, .inl (cy 0, 60, .inl (fun _ => 0)))]) 4 124 := by
  refine KN.mk (L0 := [(0, .ref h0)]) (by decide +kernel) rfl (Nat.le_of_ble_eq_true rfl) rfl ?_
  intro p e s m below meth c X0 hr hlk hnm
  have X : Fy p s m _ c cX2_init 1 RX2 D cy _ s.heap := X0
  clear X0
  refine U_aload_n X dX2_init_0 0 rfl rfl ?_
  refine U_obj X wML_X2_3 dX2_init_1 (Nat.le_of_ble_eq_true rfl) (Nat.le_of_ble_eq_true rfl) ?_
  refine U_aload_n X dX2_init_4 0 rfl rfl ?_
  refine U_new (ci := 5) (fs := [.null, .int 0]) X inX5 tyX5 tyX5_ok wCL_X2_9 wIS_X5 wIN_X5 rfl (fun j hj => by rcases (show j = 0 ∨ j = 1 by omega) with rfl | rfl <;> rfl) ⟨Nat.le_of_ble_eq_true rfl, Nat.le_of_ble_eq_true rfl⟩ dX2_init_5 (fun x => ?_)
  refine U_eqw (ws' := [(h0, .inr (2, [.null, .null, .int 0, .int 0, .int 0, .int 0, .int 0, .int 0, .int 0, .int 0])), (x, .inr (5, [.null, .int 0]))]) rfl ?_
  refine U_dup X dX2_init_8 rfl ?_
  refine U_call (wr := [(h0, .inr (2, [.null, .null, .int 0, .int 0, .int 0, .int 0, .int 0, .int 0, .int 0, .int 0]))]) (As := []) X [1] [0] rfl rfl rfl (by decide) (by decide) (by decide) (cwI 0 X.1.2.2.2.2 (gw_code wCD_X5_init) rfl rfl rfl (X.1.2.2.2.2 _ wIN_X5) (X.1.2.2.2.2 _ wML_X2_11) (X.1.2.2.2.2 _ wIM_X5_init) rfl (by decide +kernel) ⟨Nat.le_of_ble_eq_true rfl, Nat.le_of_ble_eq_true rfl⟩) (c_Text l D cy x) rfl rfl (Nat.le_of_ble_eq_true rfl) ⟨Nat.le_of_ble_eq_true rfl, Nat.le_of_ble_eq_true rfl⟩ dX2_init_9 (fun y => ?_)
  refine U_eqw (ws' := [(h0, .inr (2, [.null, .null, .int 0, .int 0, .int 0, .int 0, .int 0, .int 0, .int 0, .int 0])), (x, .inr (5, [.ref y, .int 0])), (y, .inl (cy 1, 60, .inl (fun _ => 0)))]) rfl ?_
  refine U_putF X inX2 tyX2 tyX2_ok nmX2 0 rfl rfl 0 (by decide) wFL_X2_12 rfl hnm rfl (tyX2_ok 0 (by decide)) rfl rfl (Nat.le_of_ble_eq_true rfl) dX2_init_12 ?_
  refine U_eqw (ws' := [(h0, .inr (2, [.ref x, .null, .int 0, .int 0, .int 0, .int 0, .int 0, .int 0, .int 0, .int 0])), (x, .inr (5, [.ref y, .int 0])), (y, .inl (cy 1, 60, .inl (fun _ => 0)))]) rfl ?_
  refine U_aload_n X dX2_init_15 0 rfl rfl ?_
  refine U_new (ci := 3) (fs := [.null, .int 0]) X inX3 tyX3 tyX3_ok wCL_X2_18 wIS_X3 wIN_X3 rfl (fun j hj => by rcases (show j = 0 ∨ j = 1 by omega) with rfl | rfl <;> rfl) ⟨Nat.le_of_ble_eq_true rfl, Nat.le_of_ble_eq_true rfl⟩ dX2_init_16 (fun a => ?_)
  refine U_eqw (ws' := [(h0, .inr (2, [.ref x, .null, .int 0, .int 0, .int 0, .int 0, .int 0, .int 0, .int 0, .int 0])), (x, .inr (5, [.ref y, .int 0])), (y, .inl (cy 1, 60, .inl (fun _ => 0))), (a, .inr (3, [.null, .int 0]))]) rfl ?_
  refine U_dup X dX2_init_19 rfl ?_
  refine U_call (wr := [(h0, .inr (2, [.ref x, .null, .int 0, .int 0, .int 0, .int 0, .int 0, .int 0, .int 0, .int 0])), (x, .inr (5, [.ref y, .int 0])), (y, .inl (cy 1, 60, .inl (fun _ => 0)))]) (As := []) X [3] [0, 1, 2] rfl rfl rfl (by decide) (by decide) (by decide) (cwI 0 X.1.2.2.2.2 (gw_code wCD_X3_init) rfl rfl rfl (X.1.2.2.2.2 _ wIN_X3) (X.1.2.2.2.2 _ wML_X2_20) (X.1.2.2.2.2 _ wIM_X3_init) rfl (by decide +kernel) ⟨Nat.le_of_ble_eq_true rfl, Nat.le_of_ble_eq_true rfl⟩) (c_Row l D cy a) rfl rfl (Nat.le_of_ble_eq_true rfl) ⟨Nat.le_of_ble_eq_true rfl, Nat.le_of_ble_eq_true rfl⟩ dX2_init_20 (fun b => ?_)
  refine U_eqw (ws' := [(h0, .inr (2, [.ref x, .null, .int 0, .int 0, .int 0, .int 0, .int 0, .int 0, .int 0, .int 0])), (x, .inr (5, [.ref y, .int 0])), (y, .inl (cy 1, 60, .inl (fun _ => 0))), (a, .inr (3, [.ref b, .int 0])), (b, .inl (cy 0, 60, .inl (fun _ => 0)))]) rfl ?_
  refine U_putF X inX2 tyX2 tyX2_ok nmX2 0 rfl rfl 1 (by decide) wFL_X2_21 rfl hnm rfl (tyX2_ok 1 (by decide)) rfl rfl (Nat.le_of_ble_eq_true rfl) dX2_init_23 ?_
  refine U_eqw (ws' := [(h0, .inr (2, [.ref x, .ref a, .int 0, .int 0, .int 0, .int 0, .int 0, .int 0, .int 0, .int 0])), (x, .inr (5, [.ref y, .int 0])), (y, .inl (cy 1, 60, .inl (fun _ => 0))), (a, .inr (3, [.ref b, .int 0])), (b, .inl (cy 0, 60, .inl (fun _ => 0)))]) rfl ?_
  exact U_ret X hr hlk (x, y, a, b) rfl dX2_init_26
set_option maxRecDepth 100000 in
set_option maxHeartbeats 4000000 in
/-- a history without states -/
theorem c_History (l : Launch) (D : va_G) (cy : Nat → ClassId) (h0 : Nat) : KN l yX0_init (Cond.code yX0_init cX0_init 2 none :: gw) ({ frames := 2, cells := 9, slots := 252, locals := 32 }) D cy [.ref h0] [(h0, .inr (0, [.null, .int 0]))] (Nat × (Nat → Nat)) (fun u => [(h0, .inr (0, [.ref u.1, .int 0])), (u.1, .inl (cy 2, 4, .inr (.inr (.inr (.inr (va_up (va_up (va_up (va_up (fun _ => none) 0 (some (u.2 0))) 1 (some (u.2 2))) 2 (some (u.2 4))) 3 (some (u.2 6)))))))), ((u.2 0), .inr (3, [.ref (u.2 1), .int 0])), ((u.2 1), .inl (cy 0, 60, .inl (fun _ => 0))), ((u.2 2), .inr (3, [.ref (u.2 3), .int 0])), ((u.2 3), .inl (cy 0, 60, .inl (fun _ => 0))), ((u.2 4), .inr (3, [.ref (u.2 5), .int 0])), ((u.2 5), .inl (cy 0, 60, .inl (fun _ => 0))), ((u.2 6), .inr (3, [.ref (u.2 7), .int 0])), ((u.2 7), .inl (cy 0, 60, .inl (fun _ => 0)))]) 9 252 := by
  refine KN.mk (L0 := [(0, .ref h0)]) (by decide +kernel) rfl (Nat.le_of_ble_eq_true rfl) rfl ?_
  intro p e s m below meth c X0 hr hlk hnm
  have X : Fy p s m _ c cX0_init 2 RX0 D cy _ s.heap := X0
  clear X0
  refine U_aload_n X dX0_init_0 0 rfl rfl ?_
  refine U_obj X wML_X0_3 dX0_init_1 (Nat.le_of_ble_eq_true rfl) (Nat.le_of_ble_eq_true rfl) ?_
  refine U_aload_n X dX0_init_4 0 rfl rfl ?_
  refine U_iconst X (v := nI 4) dX0_init_5 (by decide) ?_
  refine U_newq X wCL_X0_9 (N := 4) (by decide) (by decide) (Nat.le_of_ble_eq_true rfl) ⟨Nat.le_of_ble_eq_true rfl, Nat.le_of_ble_eq_true rfl⟩ dX0_init_6 (fun a => ?_)
  refine U_eqw (ws' := [(h0, .inr (0, [.null, .int 0])), (a, .inl (cy 2, 4, .inr (.inr (.inr (.inr (fun _ => none))))))]) rfl ?_
  refine U_putF X inX0 tyX0 tyX0_ok nmX0 0 rfl rfl 0 (by decide) wFL_X0_11 rfl hnm rfl (tyX0_ok 0 (by decide)) rfl rfl (Nat.le_of_ble_eq_true rfl) dX0_init_9 ?_
  refine U_eqw (ws' := [(h0, .inr (0, [.ref a, .int 0])), (a, .inl (cy 2, 4, .inr (.inr (.inr (.inr (fun _ => none))))))]) rfl ?_
  refine U_iconst X (v := nI 0) dX0_init_12 (by decide) ?_
  refine U_istore_n X (i := 1) (L' := [(1, .int (nI 0)), (0, .ref h0)]) dX0_init_13 rfl (by decide) rfl ?_
  refine U_iload_n X dX0_init_14 0 rfl rfl ?_
  refine U_iconst X (v := nI 4) dX0_init_15 (by decide) ?_
  refine U_ge X 38 dX0_init_16 (by decide) (fun hc => absurd hc (by decide)) (fun _ => ?_)
  refine U_aload_n X dX0_init_19 1 rfl rfl ?_
  refine U_get X inX0 0 rfl rfl 0 (by decide) wFL_X0_11 rfl dX0_init_20 ?_
  refine U_iload_n X dX0_init_23 0 rfl rfl ?_
  refine U_new (ci := 3) (fs := [.null, .int 0]) X inX3 tyX3 tyX3_ok wCL_X0_9 wIS_X3 wIN_X3 rfl (fun j hj => by rcases (show j = 0 ∨ j = 1 by omega) with rfl | rfl <;> rfl) ⟨Nat.le_of_ble_eq_true rfl, Nat.le_of_ble_eq_true rfl⟩ dX0_init_24 (fun r0 => ?_)
  refine U_eqw (ws' := [(h0, .inr (0, [.ref a, .int 0])), (a, .inl (cy 2, 4, .inr (.inr (.inr (.inr (fun _ => none)))))), (r0, .inr (3, [.null, .int 0]))]) rfl ?_
  refine U_dup X dX0_init_27 rfl ?_
  refine U_call (wr := [(h0, .inr (0, [.ref a, .int 0])), (a, .inl (cy 2, 4, .inr (.inr (.inr (.inr (fun _ => none))))))]) (As := []) X [2] [0, 1] rfl rfl rfl (by decide) (by decide) (by decide) (cwI 0 X.1.2.2.2.2 (gw_code wCD_X3_init) rfl rfl rfl (X.1.2.2.2.2 _ wIN_X3) (X.1.2.2.2.2 _ wML_X0_17) (X.1.2.2.2.2 _ wIM_X3_init) rfl (by decide +kernel) ⟨Nat.le_of_ble_eq_true rfl, Nat.le_of_ble_eq_true rfl⟩) (c_Row l D cy r0) rfl rfl (Nat.le_of_ble_eq_true rfl) ⟨Nat.le_of_ble_eq_true rfl, Nat.le_of_ble_eq_true rfl⟩ dX0_init_28 (fun b0 => ?_)
  refine U_eqw (ws' := [(h0, .inr (0, [.ref a, .int 0])), (a, .inl (cy 2, 4, .inr (.inr (.inr (.inr (fun _ => none)))))), (r0, .inr (3, [.ref b0, .int 0])), (b0, .inl (cy 0, 60, .inl (fun _ => 0)))]) rfl ?_
  refine U_astq X 1 2 rfl rfl (vp_in_nI (by decide) (by decide)) dX0_init_31 ?_
  refine U_eqw (ws' := [(h0, .inr (0, [.ref a, .int 0])), (a, .inl (cy 2, 4, .inr (.inr (.inr (.inr (va_up (fun _ => none) 0 (some r0))))))), (r0, .inr (3, [.ref b0, .int 0])), (b0, .inl (cy 0, 60, .inl (fun _ => 0)))]) rfl ?_
  refine U_iinc X (j := 0) (v := nI 1) (L' := [(1, .int (nI 1)), (0, .ref h0)]) dX0_init_32 rfl (by decide) (by decide) rfl ?_
  refine U_goto X 14 dX0_init_35 (by decide) ?_
  refine U_iload_n X dX0_init_14 0 rfl rfl ?_
  refine U_iconst X (v := nI 4) dX0_init_15 (by decide) ?_
  refine U_ge X 38 dX0_init_16 (by decide) (fun hc => absurd hc (by decide)) (fun _ => ?_)
  refine U_aload_n X dX0_init_19 1 rfl rfl ?_
  refine U_get X inX0 0 rfl rfl 0 (by decide) wFL_X0_11 rfl dX0_init_20 ?_
  refine U_iload_n X dX0_init_23 0 rfl rfl ?_
  refine U_new (ci := 3) (fs := [.null, .int 0]) X inX3 tyX3 tyX3_ok wCL_X0_9 wIS_X3 wIN_X3 rfl (fun j hj => by rcases (show j = 0 ∨ j = 1 by omega) with rfl | rfl <;> rfl) ⟨Nat.le_of_ble_eq_true rfl, Nat.le_of_ble_eq_true rfl⟩ dX0_init_24 (fun r1 => ?_)
  refine U_eqw (ws' := [(h0, .inr (0, [.ref a, .int 0])), (a, .inl (cy 2, 4, .inr (.inr (.inr (.inr (va_up (fun _ => none) 0 (some r0))))))), (r0, .inr (3, [.ref b0, .int 0])), (b0, .inl (cy 0, 60, .inl (fun _ => 0))), (r1, .inr (3, [.null, .int 0]))]) rfl ?_
  refine U_dup X dX0_init_27 rfl ?_
  refine U_call (wr := [(h0, .inr (0, [.ref a, .int 0])), (a, .inl (cy 2, 4, .inr (.inr (.inr (.inr (va_up (fun _ => none) 0 (some r0))))))), (r0, .inr (3, [.ref b0, .int 0])), (b0, .inl (cy 0, 60, .inl (fun _ => 0)))]) (As := []) X [4] [0, 1, 2, 3] rfl rfl rfl (by decide) (by decide) (by decide) (cwI 0 X.1.2.2.2.2 (gw_code wCD_X3_init) rfl rfl rfl (X.1.2.2.2.2 _ wIN_X3) (X.1.2.2.2.2 _ wML_X0_17) (X.1.2.2.2.2 _ wIM_X3_init) rfl (by decide +kernel) ⟨Nat.le_of_ble_eq_true rfl, Nat.le_of_ble_eq_true rfl⟩) (c_Row l D cy r1) rfl rfl (Nat.le_of_ble_eq_true rfl) ⟨Nat.le_of_ble_eq_true rfl, Nat.le_of_ble_eq_true rfl⟩ dX0_init_28 (fun b1 => ?_)
  refine U_eqw (ws' := [(h0, .inr (0, [.ref a, .int 0])), (a, .inl (cy 2, 4, .inr (.inr (.inr (.inr (va_up (fun _ => none) 0 (some r0))))))), (r0, .inr (3, [.ref b0, .int 0])), (b0, .inl (cy 0, 60, .inl (fun _ => 0))), (r1, .inr (3, [.ref b1, .int 0])), (b1, .inl (cy 0, 60, .inl (fun _ => 0)))]) rfl ?_
  refine U_astq X 1 4 rfl rfl (vp_in_nI (by decide) (by decide)) dX0_init_31 ?_
  refine U_eqw (ws' := [(h0, .inr (0, [.ref a, .int 0])), (a, .inl (cy 2, 4, .inr (.inr (.inr (.inr (va_up (va_up (fun _ => none) 0 (some r0)) 1 (some r1))))))), (r0, .inr (3, [.ref b0, .int 0])), (b0, .inl (cy 0, 60, .inl (fun _ => 0))), (r1, .inr (3, [.ref b1, .int 0])), (b1, .inl (cy 0, 60, .inl (fun _ => 0)))]) rfl ?_
  refine U_iinc X (j := 0) (v := nI 2) (L' := [(1, .int (nI 2)), (0, .ref h0)]) dX0_init_32 rfl (by decide) (by decide) rfl ?_
  refine U_goto X 14 dX0_init_35 (by decide) ?_
  refine U_iload_n X dX0_init_14 0 rfl rfl ?_
  refine U_iconst X (v := nI 4) dX0_init_15 (by decide) ?_
  refine U_ge X 38 dX0_init_16 (by decide) (fun hc => absurd hc (by decide)) (fun _ => ?_)
  refine U_aload_n X dX0_init_19 1 rfl rfl ?_
  refine U_get X inX0 0 rfl rfl 0 (by decide) wFL_X0_11 rfl dX0_init_20 ?_
  refine U_iload_n X dX0_init_23 0 rfl rfl ?_
  refine U_new (ci := 3) (fs := [.null, .int 0]) X inX3 tyX3 tyX3_ok wCL_X0_9 wIS_X3 wIN_X3 rfl (fun j hj => by rcases (show j = 0 ∨ j = 1 by omega) with rfl | rfl <;> rfl) ⟨Nat.le_of_ble_eq_true rfl, Nat.le_of_ble_eq_true rfl⟩ dX0_init_24 (fun r2 => ?_)
  refine U_eqw (ws' := [(h0, .inr (0, [.ref a, .int 0])), (a, .inl (cy 2, 4, .inr (.inr (.inr (.inr (va_up (va_up (fun _ => none) 0 (some r0)) 1 (some r1))))))), (r0, .inr (3, [.ref b0, .int 0])), (b0, .inl (cy 0, 60, .inl (fun _ => 0))), (r1, .inr (3, [.ref b1, .int 0])), (b1, .inl (cy 0, 60, .inl (fun _ => 0))), (r2, .inr (3, [.null, .int 0]))]) rfl ?_
  refine U_dup X dX0_init_27 rfl ?_
  refine U_call (wr := [(h0, .inr (0, [.ref a, .int 0])), (a, .inl (cy 2, 4, .inr (.inr (.inr (.inr (va_up (va_up (fun _ => none) 0 (some r0)) 1 (some r1))))))), (r0, .inr (3, [.ref b0, .int 0])), (b0, .inl (cy 0, 60, .inl (fun _ => 0))), (r1, .inr (3, [.ref b1, .int 0])), (b1, .inl (cy 0, 60, .inl (fun _ => 0)))]) (As := []) X [6] [0, 1, 2, 3, 4, 5] rfl rfl rfl (by decide) (by decide) (by decide) (cwI 0 X.1.2.2.2.2 (gw_code wCD_X3_init) rfl rfl rfl (X.1.2.2.2.2 _ wIN_X3) (X.1.2.2.2.2 _ wML_X0_17) (X.1.2.2.2.2 _ wIM_X3_init) rfl (by decide +kernel) ⟨Nat.le_of_ble_eq_true rfl, Nat.le_of_ble_eq_true rfl⟩) (c_Row l D cy r2) rfl rfl (Nat.le_of_ble_eq_true rfl) ⟨Nat.le_of_ble_eq_true rfl, Nat.le_of_ble_eq_true rfl⟩ dX0_init_28 (fun b2 => ?_)
  refine U_eqw (ws' := [(h0, .inr (0, [.ref a, .int 0])), (a, .inl (cy 2, 4, .inr (.inr (.inr (.inr (va_up (va_up (fun _ => none) 0 (some r0)) 1 (some r1))))))), (r0, .inr (3, [.ref b0, .int 0])), (b0, .inl (cy 0, 60, .inl (fun _ => 0))), (r1, .inr (3, [.ref b1, .int 0])), (b1, .inl (cy 0, 60, .inl (fun _ => 0))), (r2, .inr (3, [.ref b2, .int 0])), (b2, .inl (cy 0, 60, .inl (fun _ => 0)))]) rfl ?_
  refine U_astq X 1 6 rfl rfl (vp_in_nI (by decide) (by decide)) dX0_init_31 ?_
  refine U_eqw (ws' := [(h0, .inr (0, [.ref a, .int 0])), (a, .inl (cy 2, 4, .inr (.inr (.inr (.inr (va_up (va_up (va_up (fun _ => none) 0 (some r0)) 1 (some r1)) 2 (some r2))))))), (r0, .inr (3, [.ref b0, .int 0])), (b0, .inl (cy 0, 60, .inl (fun _ => 0))), (r1, .inr (3, [.ref b1, .int 0])), (b1, .inl (cy 0, 60, .inl (fun _ => 0))), (r2, .inr (3, [.ref b2, .int 0])), (b2, .inl (cy 0, 60, .inl (fun _ => 0)))]) rfl ?_
  refine U_iinc X (j := 0) (v := nI 3) (L' := [(1, .int (nI 3)), (0, .ref h0)]) dX0_init_32 rfl (by decide) (by decide) rfl ?_
  refine U_goto X 14 dX0_init_35 (by decide) ?_
  refine U_iload_n X dX0_init_14 0 rfl rfl ?_
  refine U_iconst X (v := nI 4) dX0_init_15 (by decide) ?_
  refine U_ge X 38 dX0_init_16 (by decide) (fun hc => absurd hc (by decide)) (fun _ => ?_)
  refine U_aload_n X dX0_init_19 1 rfl rfl ?_
  refine U_get X inX0 0 rfl rfl 0 (by decide) wFL_X0_11 rfl dX0_init_20 ?_
  refine U_iload_n X dX0_init_23 0 rfl rfl ?_
  refine U_new (ci := 3) (fs := [.null, .int 0]) X inX3 tyX3 tyX3_ok wCL_X0_9 wIS_X3 wIN_X3 rfl (fun j hj => by rcases (show j = 0 ∨ j = 1 by omega) with rfl | rfl <;> rfl) ⟨Nat.le_of_ble_eq_true rfl, Nat.le_of_ble_eq_true rfl⟩ dX0_init_24 (fun r3 => ?_)
  refine U_eqw (ws' := [(h0, .inr (0, [.ref a, .int 0])), (a, .inl (cy 2, 4, .inr (.inr (.inr (.inr (va_up (va_up (va_up (fun _ => none) 0 (some r0)) 1 (some r1)) 2 (some r2))))))), (r0, .inr (3, [.ref b0, .int 0])), (b0, .inl (cy 0, 60, .inl (fun _ => 0))), (r1, .inr (3, [.ref b1, .int 0])), (b1, .inl (cy 0, 60, .inl (fun _ => 0))), (r2, .inr (3, [.ref b2, .int 0])), (b2, .inl (cy 0, 60, .inl (fun _ => 0))), (r3, .inr (3, [.null, .int 0]))]) rfl ?_
  refine U_dup X dX0_init_27 rfl ?_
  refine U_call (wr := [(h0, .inr (0, [.ref a, .int 0])), (a, .inl (cy 2, 4, .inr (.inr (.inr (.inr (va_up (va_up (va_up (fun _ => none) 0 (some r0)) 1 (some r1)) 2 (some r2))))))), (r0, .inr (3, [.ref b0, .int 0])), (b0, .inl (cy 0, 60, .inl (fun _ => 0))), (r1, .inr (3, [.ref b1, .int 0])), (b1, .inl (cy 0, 60, .inl (fun _ => 0))), (r2, .inr (3, [.ref b2, .int 0])), (b2, .inl (cy 0, 60, .inl (fun _ => 0)))]) (As := []) X [8] [0, 1, 2, 3, 4, 5, 6, 7] rfl rfl rfl (by decide) (by decide) (by decide) (cwI 0 X.1.2.2.2.2 (gw_code wCD_X3_init) rfl rfl rfl (X.1.2.2.2.2 _ wIN_X3) (X.1.2.2.2.2 _ wML_X0_17) (X.1.2.2.2.2 _ wIM_X3_init) rfl (by decide +kernel) ⟨Nat.le_of_ble_eq_true rfl, Nat.le_of_ble_eq_true rfl⟩) (c_Row l D cy r3) rfl rfl (Nat.le_of_ble_eq_true rfl) ⟨Nat.le_of_ble_eq_true rfl, Nat.le_of_ble_eq_true rfl⟩ dX0_init_28 (fun b3 => ?_)
  refine U_eqw (ws' := [(h0, .inr (0, [.ref a, .int 0])), (a, .inl (cy 2, 4, .inr (.inr (.inr (.inr (va_up (va_up (va_up (fun _ => none) 0 (some r0)) 1 (some r1)) 2 (some r2))))))), (r0, .inr (3, [.ref b0, .int 0])), (b0, .inl (cy 0, 60, .inl (fun _ => 0))), (r1, .inr (3, [.ref b1, .int 0])), (b1, .inl (cy 0, 60, .inl (fun _ => 0))), (r2, .inr (3, [.ref b2, .int 0])), (b2, .inl (cy 0, 60, .inl (fun _ => 0))), (r3, .inr (3, [.ref b3, .int 0])), (b3, .inl (cy 0, 60, .inl (fun _ => 0)))]) rfl ?_
  refine U_astq X 1 8 rfl rfl (vp_in_nI (by decide) (by decide)) dX0_init_31 ?_
  refine U_eqw (ws' := [(h0, .inr (0, [.ref a, .int 0])), (a, .inl (cy 2, 4, .inr (.inr (.inr (.inr (va_up (va_up (va_up (va_up (fun _ => none) 0 (some r0)) 1 (some r1)) 2 (some r2)) 3 (some r3))))))), (r0, .inr (3, [.ref b0, .int 0])), (b0, .inl (cy 0, 60, .inl (fun _ => 0))), (r1, .inr (3, [.ref b1, .int 0])), (b1, .inl (cy 0, 60, .inl (fun _ => 0))), (r2, .inr (3, [.ref b2, .int 0])), (b2, .inl (cy 0, 60, .inl (fun _ => 0))), (r3, .inr (3, [.ref b3, .int 0])), (b3, .inl (cy 0, 60, .inl (fun _ => 0)))]) rfl ?_
  refine U_iinc X (j := 0) (v := nI 4) (L' := [(1, .int (nI 4)), (0, .ref h0)]) dX0_init_32 rfl (by decide) (by decide) rfl ?_
  refine U_goto X 14 dX0_init_35 (by decide) ?_
  refine U_iload_n X dX0_init_14 0 rfl rfl ?_
  refine U_iconst X (v := nI 4) dX0_init_15 (by decide) ?_
  refine U_ge X 38 dX0_init_16 (by decide) (fun _ => ?_) (fun hc => absurd (by decide) hc)
  refine U_aload_n X dX0_init_38 1 rfl rfl ?_
  refine U_iconst X (v := nI 0) dX0_init_39 (by decide) ?_
  refine U_put X inX0 tyX0 tyX0_ok nmX0 0 rfl rfl 1 (by decide) wFL_X0_18 rfl (tyX0_ok 1 (by decide)) rfl rfl (Nat.le_of_ble_eq_true rfl) dX0_init_40 ?_
  refine U_eqw (ws' := [(h0, .inr (0, [.ref a, .int 0])), (a, .inl (cy 2, 4, .inr (.inr (.inr (.inr (va_up (va_up (va_up (va_up (fun _ => none) 0 (some r0)) 1 (some r1)) 2 (some r2)) 3 (some r3))))))), (r0, .inr (3, [.ref b0, .int 0])), (b0, .inl (cy 0, 60, .inl (fun _ => 0))), (r1, .inr (3, [.ref b1, .int 0])), (b1, .inl (cy 0, 60, .inl (fun _ => 0))), (r2, .inr (3, [.ref b2, .int 0])), (b2, .inl (cy 0, 60, .inl (fun _ => 0))), (r3, .inr (3, [.ref b3, .int 0])), (b3, .inl (cy 0, 60, .inl (fun _ => 0)))]) rfl ?_
  exact U_ret X hr hlk (a, fun i => [r0, b0, r1, b1, r2, b2, r3, b3].getD i 0) rfl dX0_init_43
set_option maxRecDepth 100000 in
set_option maxHeartbeats 4000000 in
/-- the reference, new -/
theorem c_Model (l : Launch) (D : va_G) (cy : Nat → ClassId) (h0 : Nat) : KN l yX7_init (Cond.code yX7_init cX7_init 1 none :: gw) ({ frames := 1, cells := 9, slots := 1119, locals := 12 }) D cy [.ref h0] [(h0, .inr (7, [.null, .null, .null, .null, .int 0, .null, .int 0, .int 0, .int 0, .int 0, .int 0, .null, .null, .null, .null]))] (Nat → Nat) (fun u => [(h0, .inr (7, [.ref (u 0), .ref (u 1), .ref (u 2), .ref (u 3), .int 0, .ref (u 4), .int 0, .int 0, .int 0, .int 0, .int 0, .ref (u 5), .ref (u 6), .ref (u 7), .ref (u 8)])), ((u 0), .inl (cy 0, 61, .inl (fun _ => 0))), ((u 1), .inl (cy 0, 244, .inl (fun _ => 0))), ((u 2), .inl (cy 0, 61, .inl (fun _ => 0))), ((u 3), .inl (cy 0, 61, .inl (fun _ => 0))), ((u 4), .inl (cy 1, 60, .inl (fun _ => 0))), ((u 5), .inl (cy 0, 300, .inl (fun _ => 0))), ((u 6), .inl (cy 0, 300, .inl (fun _ => 0))), ((u 7), .inl (cy 0, 16, .inl (fun _ => 0))), ((u 8), .inl (cy 0, 16, .inl (fun _ => 0)))]) 9 1119 := by
  refine KN.mk (L0 := [(0, .ref h0)]) (by decide +kernel) rfl (Nat.le_of_ble_eq_true rfl) rfl ?_
  intro p e s m below meth c X0 hr hlk hnm
  have X : Fy p s m _ c cX7_init 1 RX7 D cy _ s.heap := X0
  clear X0
  refine U_aload_n X dX7_init_0 0 rfl rfl ?_
  refine U_obj X wML_X7_1 dX7_init_1 (Nat.le_of_ble_eq_true rfl) (Nat.le_of_ble_eq_true rfl) ?_
  refine U_aload_n X dX7_init_4 0 rfl rfl ?_
  refine U_bipush X (v := nI 61) dX7_init_5 (by decide) ?_
  refine U_newi X (N := 61) (by decide) (by decide) (Nat.le_of_ble_eq_true rfl) ⟨Nat.le_of_ble_eq_true rfl, Nat.le_of_ble_eq_true rfl⟩ dX7_init_7 (fun a0 => ?_)
  refine U_eqw (ws' := [(h0, .inr (7, [.null, .null, .null, .null, .int 0, .null, .int 0, .int 0, .int 0, .int 0, .int 0, .null, .null, .null, .null])), (a0, .inl (cy 0, 61, .inl (fun _ => 0)))]) rfl ?_
  refine U_putF X inX7 tyX7 tyX7_ok nmX7 0 rfl rfl 0 (by decide) wFL_X7_7 rfl hnm rfl (tyX7_ok 0 (by decide)) rfl rfl (Nat.le_of_ble_eq_true rfl) dX7_init_9 ?_
  refine U_eqw (ws' := [(h0, .inr (7, [.ref a0, .null, .null, .null, .int 0, .null, .int 0, .int 0, .int 0, .int 0, .int 0, .null, .null, .null, .null])), (a0, .inl (cy 0, 61, .inl (fun _ => 0)))]) rfl ?_
  refine U_aload_n X dX7_init_12 0 rfl rfl ?_
  refine U_sipush X (v := nI 244) dX7_init_13 (by decide) ?_
  refine U_newi X (N := 244) (by decide) (by decide) (Nat.le_of_ble_eq_true rfl) ⟨Nat.le_of_ble_eq_true rfl, Nat.le_of_ble_eq_true rfl⟩ dX7_init_16 (fun a1 => ?_)
  refine U_eqw (ws' := [(h0, .inr (7, [.ref a0, .null, .null, .null, .int 0, .null, .int 0, .int 0, .int 0, .int 0, .int 0, .null, .null, .null, .null])), (a0, .inl (cy 0, 61, .inl (fun _ => 0))), (a1, .inl (cy 0, 244, .inl (fun _ => 0)))]) rfl ?_
  refine U_putF X inX7 tyX7 tyX7_ok nmX7 0 rfl rfl 1 (by decide) wFL_X7_13 rfl hnm rfl (tyX7_ok 1 (by decide)) rfl rfl (Nat.le_of_ble_eq_true rfl) dX7_init_18 ?_
  refine U_eqw (ws' := [(h0, .inr (7, [.ref a0, .ref a1, .null, .null, .int 0, .null, .int 0, .int 0, .int 0, .int 0, .int 0, .null, .null, .null, .null])), (a0, .inl (cy 0, 61, .inl (fun _ => 0))), (a1, .inl (cy 0, 244, .inl (fun _ => 0)))]) rfl ?_
  refine U_aload_n X dX7_init_21 0 rfl rfl ?_
  refine U_bipush X (v := nI 61) dX7_init_22 (by decide) ?_
  refine U_newi X (N := 61) (by decide) (by decide) (Nat.le_of_ble_eq_true rfl) ⟨Nat.le_of_ble_eq_true rfl, Nat.le_of_ble_eq_true rfl⟩ dX7_init_24 (fun a2 => ?_)
  refine U_eqw (ws' := [(h0, .inr (7, [.ref a0, .ref a1, .null, .null, .int 0, .null, .int 0, .int 0, .int 0, .int 0, .int 0, .null, .null, .null, .null])), (a0, .inl (cy 0, 61, .inl (fun _ => 0))), (a1, .inl (cy 0, 244, .inl (fun _ => 0))), (a2, .inl (cy 0, 61, .inl (fun _ => 0)))]) rfl ?_
  refine U_putF X inX7 tyX7 tyX7_ok nmX7 0 rfl rfl 2 (by decide) wFL_X7_16 rfl hnm rfl (tyX7_ok 2 (by decide)) rfl rfl (Nat.le_of_ble_eq_true rfl) dX7_init_26 ?_
  refine U_eqw (ws' := [(h0, .inr (7, [.ref a0, .ref a1, .ref a2, .null, .int 0, .null, .int 0, .int 0, .int 0, .int 0, .int 0, .null, .null, .null, .null])), (a0, .inl (cy 0, 61, .inl (fun _ => 0))), (a1, .inl (cy 0, 244, .inl (fun _ => 0))), (a2, .inl (cy 0, 61, .inl (fun _ => 0)))]) rfl ?_
  refine U_aload_n X dX7_init_29 0 rfl rfl ?_
  refine U_bipush X (v := nI 61) dX7_init_30 (by decide) ?_
  refine U_newi X (N := 61) (by decide) (by decide) (Nat.le_of_ble_eq_true rfl) ⟨Nat.le_of_ble_eq_true rfl, Nat.le_of_ble_eq_true rfl⟩ dX7_init_32 (fun a3 => ?_)
  refine U_eqw (ws' := [(h0, .inr (7, [.ref a0, .ref a1, .ref a2, .null, .int 0, .null, .int 0, .int 0, .int 0, .int 0, .int 0, .null, .null, .null, .null])), (a0, .inl (cy 0, 61, .inl (fun _ => 0))), (a1, .inl (cy 0, 244, .inl (fun _ => 0))), (a2, .inl (cy 0, 61, .inl (fun _ => 0))), (a3, .inl (cy 0, 61, .inl (fun _ => 0)))]) rfl ?_
  refine U_putF X inX7 tyX7 tyX7_ok nmX7 0 rfl rfl 3 (by decide) wFL_X7_19 rfl hnm rfl (tyX7_ok 3 (by decide)) rfl rfl (Nat.le_of_ble_eq_true rfl) dX7_init_34 ?_
  refine U_eqw (ws' := [(h0, .inr (7, [.ref a0, .ref a1, .ref a2, .ref a3, .int 0, .null, .int 0, .int 0, .int 0, .int 0, .int 0, .null, .null, .null, .null])), (a0, .inl (cy 0, 61, .inl (fun _ => 0))), (a1, .inl (cy 0, 244, .inl (fun _ => 0))), (a2, .inl (cy 0, 61, .inl (fun _ => 0))), (a3, .inl (cy 0, 61, .inl (fun _ => 0)))]) rfl ?_
  refine U_aload_n X dX7_init_37 0 rfl rfl ?_
  refine U_bipush X (v := nI 60) dX7_init_38 (by decide) ?_
  refine U_newc X (N := 60) (by decide) (by decide) (Nat.le_of_ble_eq_true rfl) ⟨Nat.le_of_ble_eq_true rfl, Nat.le_of_ble_eq_true rfl⟩ dX7_init_40 (fun a4 => ?_)
  refine U_eqw (ws' := [(h0, .inr (7, [.ref a0, .ref a1, .ref a2, .ref a3, .int 0, .null, .int 0, .int 0, .int 0, .int 0, .int 0, .null, .null, .null, .null])), (a0, .inl (cy 0, 61, .inl (fun _ => 0))), (a1, .inl (cy 0, 244, .inl (fun _ => 0))), (a2, .inl (cy 0, 61, .inl (fun _ => 0))), (a3, .inl (cy 0, 61, .inl (fun _ => 0))), (a4, .inl (cy 1, 60, .inl (fun _ => 0)))]) rfl ?_
  refine U_putF X inX7 tyX7 tyX7_ok nmX7 0 rfl rfl 5 (by decide) wFL_X7_22 rfl hnm rfl (tyX7_ok 5 (by decide)) rfl rfl (Nat.le_of_ble_eq_true rfl) dX7_init_42 ?_
  refine U_eqw (ws' := [(h0, .inr (7, [.ref a0, .ref a1, .ref a2, .ref a3, .int 0, .ref a4, .int 0, .int 0, .int 0, .int 0, .int 0, .null, .null, .null, .null])), (a0, .inl (cy 0, 61, .inl (fun _ => 0))), (a1, .inl (cy 0, 244, .inl (fun _ => 0))), (a2, .inl (cy 0, 61, .inl (fun _ => 0))), (a3, .inl (cy 0, 61, .inl (fun _ => 0))), (a4, .inl (cy 1, 60, .inl (fun _ => 0)))]) rfl ?_
  refine U_aload_n X dX7_init_45 0 rfl rfl ?_
  refine U_sipush X (v := nI 300) dX7_init_46 (by decide) ?_
  refine U_newi X (N := 300) (by decide) (by decide) (Nat.le_of_ble_eq_true rfl) ⟨Nat.le_of_ble_eq_true rfl, Nat.le_of_ble_eq_true rfl⟩ dX7_init_49 (fun a5 => ?_)
  refine U_eqw (ws' := [(h0, .inr (7, [.ref a0, .ref a1, .ref a2, .ref a3, .int 0, .ref a4, .int 0, .int 0, .int 0, .int 0, .int 0, .null, .null, .null, .null])), (a0, .inl (cy 0, 61, .inl (fun _ => 0))), (a1, .inl (cy 0, 244, .inl (fun _ => 0))), (a2, .inl (cy 0, 61, .inl (fun _ => 0))), (a3, .inl (cy 0, 61, .inl (fun _ => 0))), (a4, .inl (cy 1, 60, .inl (fun _ => 0))), (a5, .inl (cy 0, 300, .inl (fun _ => 0)))]) rfl ?_
  refine U_putF X inX7 tyX7 tyX7_ok nmX7 0 rfl rfl 11 (by decide) wFL_X7_26 rfl hnm rfl (tyX7_ok 11 (by decide)) rfl rfl (Nat.le_of_ble_eq_true rfl) dX7_init_51 ?_
  refine U_eqw (ws' := [(h0, .inr (7, [.ref a0, .ref a1, .ref a2, .ref a3, .int 0, .ref a4, .int 0, .int 0, .int 0, .int 0, .int 0, .ref a5, .null, .null, .null])), (a0, .inl (cy 0, 61, .inl (fun _ => 0))), (a1, .inl (cy 0, 244, .inl (fun _ => 0))), (a2, .inl (cy 0, 61, .inl (fun _ => 0))), (a3, .inl (cy 0, 61, .inl (fun _ => 0))), (a4, .inl (cy 1, 60, .inl (fun _ => 0))), (a5, .inl (cy 0, 300, .inl (fun _ => 0)))]) rfl ?_
  refine U_aload_n X dX7_init_54 0 rfl rfl ?_
  refine U_sipush X (v := nI 300) dX7_init_55 (by decide) ?_
  refine U_newi X (N := 300) (by decide) (by decide) (Nat.le_of_ble_eq_true rfl) ⟨Nat.le_of_ble_eq_true rfl, Nat.le_of_ble_eq_true rfl⟩ dX7_init_58 (fun a6 => ?_)
  refine U_eqw (ws' := [(h0, .inr (7, [.ref a0, .ref a1, .ref a2, .ref a3, .int 0, .ref a4, .int 0, .int 0, .int 0, .int 0, .int 0, .ref a5, .null, .null, .null])), (a0, .inl (cy 0, 61, .inl (fun _ => 0))), (a1, .inl (cy 0, 244, .inl (fun _ => 0))), (a2, .inl (cy 0, 61, .inl (fun _ => 0))), (a3, .inl (cy 0, 61, .inl (fun _ => 0))), (a4, .inl (cy 1, 60, .inl (fun _ => 0))), (a5, .inl (cy 0, 300, .inl (fun _ => 0))), (a6, .inl (cy 0, 300, .inl (fun _ => 0)))]) rfl ?_
  refine U_putF X inX7 tyX7 tyX7_ok nmX7 0 rfl rfl 12 (by decide) wFL_X7_29 rfl hnm rfl (tyX7_ok 12 (by decide)) rfl rfl (Nat.le_of_ble_eq_true rfl) dX7_init_60 ?_
  refine U_eqw (ws' := [(h0, .inr (7, [.ref a0, .ref a1, .ref a2, .ref a3, .int 0, .ref a4, .int 0, .int 0, .int 0, .int 0, .int 0, .ref a5, .ref a6, .null, .null])), (a0, .inl (cy 0, 61, .inl (fun _ => 0))), (a1, .inl (cy 0, 244, .inl (fun _ => 0))), (a2, .inl (cy 0, 61, .inl (fun _ => 0))), (a3, .inl (cy 0, 61, .inl (fun _ => 0))), (a4, .inl (cy 1, 60, .inl (fun _ => 0))), (a5, .inl (cy 0, 300, .inl (fun _ => 0))), (a6, .inl (cy 0, 300, .inl (fun _ => 0)))]) rfl ?_
  refine U_aload_n X dX7_init_63 0 rfl rfl ?_
  refine U_bipush X (v := nI 16) dX7_init_64 (by decide) ?_
  refine U_newi X (N := 16) (by decide) (by decide) (Nat.le_of_ble_eq_true rfl) ⟨Nat.le_of_ble_eq_true rfl, Nat.le_of_ble_eq_true rfl⟩ dX7_init_66 (fun a7 => ?_)
  refine U_eqw (ws' := [(h0, .inr (7, [.ref a0, .ref a1, .ref a2, .ref a3, .int 0, .ref a4, .int 0, .int 0, .int 0, .int 0, .int 0, .ref a5, .ref a6, .null, .null])), (a0, .inl (cy 0, 61, .inl (fun _ => 0))), (a1, .inl (cy 0, 244, .inl (fun _ => 0))), (a2, .inl (cy 0, 61, .inl (fun _ => 0))), (a3, .inl (cy 0, 61, .inl (fun _ => 0))), (a4, .inl (cy 1, 60, .inl (fun _ => 0))), (a5, .inl (cy 0, 300, .inl (fun _ => 0))), (a6, .inl (cy 0, 300, .inl (fun _ => 0))), (a7, .inl (cy 0, 16, .inl (fun _ => 0)))]) rfl ?_
  refine U_putF X inX7 tyX7 tyX7_ok nmX7 0 rfl rfl 13 (by decide) wFL_X7_32 rfl hnm rfl (tyX7_ok 13 (by decide)) rfl rfl (Nat.le_of_ble_eq_true rfl) dX7_init_68 ?_
  refine U_eqw (ws' := [(h0, .inr (7, [.ref a0, .ref a1, .ref a2, .ref a3, .int 0, .ref a4, .int 0, .int 0, .int 0, .int 0, .int 0, .ref a5, .ref a6, .ref a7, .null])), (a0, .inl (cy 0, 61, .inl (fun _ => 0))), (a1, .inl (cy 0, 244, .inl (fun _ => 0))), (a2, .inl (cy 0, 61, .inl (fun _ => 0))), (a3, .inl (cy 0, 61, .inl (fun _ => 0))), (a4, .inl (cy 1, 60, .inl (fun _ => 0))), (a5, .inl (cy 0, 300, .inl (fun _ => 0))), (a6, .inl (cy 0, 300, .inl (fun _ => 0))), (a7, .inl (cy 0, 16, .inl (fun _ => 0)))]) rfl ?_
  refine U_aload_n X dX7_init_71 0 rfl rfl ?_
  refine U_bipush X (v := nI 16) dX7_init_72 (by decide) ?_
  refine U_newi X (N := 16) (by decide) (by decide) (Nat.le_of_ble_eq_true rfl) ⟨Nat.le_of_ble_eq_true rfl, Nat.le_of_ble_eq_true rfl⟩ dX7_init_74 (fun a8 => ?_)
  refine U_eqw (ws' := [(h0, .inr (7, [.ref a0, .ref a1, .ref a2, .ref a3, .int 0, .ref a4, .int 0, .int 0, .int 0, .int 0, .int 0, .ref a5, .ref a6, .ref a7, .null])), (a0, .inl (cy 0, 61, .inl (fun _ => 0))), (a1, .inl (cy 0, 244, .inl (fun _ => 0))), (a2, .inl (cy 0, 61, .inl (fun _ => 0))), (a3, .inl (cy 0, 61, .inl (fun _ => 0))), (a4, .inl (cy 1, 60, .inl (fun _ => 0))), (a5, .inl (cy 0, 300, .inl (fun _ => 0))), (a6, .inl (cy 0, 300, .inl (fun _ => 0))), (a7, .inl (cy 0, 16, .inl (fun _ => 0))), (a8, .inl (cy 0, 16, .inl (fun _ => 0)))]) rfl ?_
  refine U_putF X inX7 tyX7 tyX7_ok nmX7 0 rfl rfl 14 (by decide) wFL_X7_35 rfl hnm rfl (tyX7_ok 14 (by decide)) rfl rfl (Nat.le_of_ble_eq_true rfl) dX7_init_76 ?_
  refine U_eqw (ws' := [(h0, .inr (7, [.ref a0, .ref a1, .ref a2, .ref a3, .int 0, .ref a4, .int 0, .int 0, .int 0, .int 0, .int 0, .ref a5, .ref a6, .ref a7, .ref a8])), (a0, .inl (cy 0, 61, .inl (fun _ => 0))), (a1, .inl (cy 0, 244, .inl (fun _ => 0))), (a2, .inl (cy 0, 61, .inl (fun _ => 0))), (a3, .inl (cy 0, 61, .inl (fun _ => 0))), (a4, .inl (cy 1, 60, .inl (fun _ => 0))), (a5, .inl (cy 0, 300, .inl (fun _ => 0))), (a6, .inl (cy 0, 300, .inl (fun _ => 0))), (a7, .inl (cy 0, 16, .inl (fun _ => 0))), (a8, .inl (cy 0, 16, .inl (fun _ => 0)))]) rfl ?_
  exact U_ret X hr hlk (fun i => [a0, a1, a2, a3, a4, a5, a6, a7, a8].getD i 0) rfl dX7_init_79
