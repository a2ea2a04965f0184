/-- both sides, new: one state -/
theorem St0 : St (fun _ _ => (0 : Int32)) := by
  refine ⟨(0, fun _ => 0), 0, fun _ => (0, fun _ => 0), (0, fun _ => 0), ⟨⟨rfl, fun i hi => absurd hi (Nat.not_lt_zero i)⟩, ⟨rfl, by omega, fun j hj => absurd hj (Nat.not_lt_zero j)⟩, ⟨rfl, fun i hi => absurd hi (Nat.not_lt_zero i)⟩⟩, ⟨⟨rfl, fun i hi => absurd hi (Nat.not_lt_zero i)⟩, ⟨rfl, by omega, fun j hj => absurd hj (Nat.not_lt_zero j)⟩, rfl, fun i hi => absurd hi (Nat.not_lt_zero i)⟩, ⟨by dsimp only; omega, fun i hi => absurd hi (Nat.not_lt_zero i)⟩, ⟨by dsimp only; omega, fun i hi => absurd hi (Nat.not_lt_zero i)⟩⟩
theorem q_inj {A : Nat → Prop} {cy : Nat → ClassId} {q : Nat → Nat} {M : Mm} (hD : va_D A (wd cy q M)) : qInj q ∧ ∀ k, k < 50 → A (q k) := by
  refine ⟨fun i j hi hj e => ?_, fun k hk => ?_⟩
  · obtain ⟨x, x1, x2⟩ := wd_ex cy q M hi
    obtain ⟨y, y1, y2⟩ := wd_ex cy q M hj
    exact hD.1 i j x y x1 y1 (by rw [x2, y2, e])
  · obtain ⟨x, x1, x2⟩ := wd_ex cy q M hk
    rw [← x2]
    exact hD.2 k x x1
theorem ups4 {q : Nat → Nat} {k : Nat} : va_up (va_up (va_up (va_up (fun _ => none) 0 (some (q k))) 1 (some (q (k + 2)))) 2 (some (q (k + 4)))) 3 (some (q (k + 6))) = fun i => if i < 4 then some (q (k + 2 * i)) else none := by
  funext i
  unfold va_up
  match i with
  | 0 => rfl
  | 1 => rfl
  | 2 => rfl
  | 3 => rfl
  | i + 4 =>
    rw [if_neg (by omega), if_neg (by omega), if_neg (by omega), if_neg (by omega), if_neg (by omega)]
theorem rows_q {q r : Nat → Nat} {k N : Nat} (h : ∀ i, i < N → r i = q (k + i)) : (fun i => if i < N then some (r i) else none) = fun i => if i < N then some (q (k + i)) else none := by
  funext i
  by_cases hi : i < N
  · rw [if_pos hi, if_pos hi, h i hi]
  · rw [if_neg hi, if_neg hi]
set_option maxRecDepth 100000 in
set_option maxHeartbeats 8000000 in
/-- YOUR PART: from the entry, for every script of at most 3072 ints, the law comes to its end with true -/
theorem whole_start {p : Program} {e : Env} {s : State} {m : MethodId} {below : List Frame} {meth : Method} {c : Code} (l : Launch) (hflags : l.flags = flags0) {b L : Nat} {xs : Nat → Int32} (hL : L ≤ 3072) (C0 : lw_At p s m meth c b L xs) : W p l e room_1 s m #[Value.ref b] below meth c s.heap [] 0 0 (lw_Z below #[Value.ref b] s) (entryFrame m ([Value.ref b] : List Value).toArray 4) := by
  obtain ⟨hx, hb, hr, hml, hown, hts, hX, hbl, hlocks, hgv⟩ := id C0
  have hg : ∀ w ∈ gw, w.before #[Value.ref b] s = true := fun w hw => hts w (gw_in w hw)
  obtain ⟨c0, i0, k0⟩ := u_known (C := RX0) (T := TX0) (N := 2) (n := 2) hg inX0 (hg _ wIS_X0)
  obtain ⟨c1, i1, k1⟩ := u_known (C := RX1) (T := TX1) (N := 4) (n := 4) hg inX1 (hg _ wIS_X1)
  obtain ⟨c2, i2, k2⟩ := u_known (C := RX2) (T := TX2) (N := 10) (n := 10) hg inX2 (hg _ wIS_X2)
  obtain ⟨c3, i3, k3⟩ := u_known (C := RX3) (T := TX3) (N := 2) (n := 2) hg inX3 (hg _ wIS_X3)
  obtain ⟨c4, i4, k4⟩ := u_known (C := RX4) (T := TX4) (N := 1) (n := 1) hg inX4 (hg _ wIS_X4)
  obtain ⟨c5, i5, k5⟩ := u_known (C := RX5) (T := TX5) (N := 2) (n := 2) hg inX5 (hg _ wIS_X5)
  obtain ⟨c6, i6, k6⟩ := u_known (C := RX6) (T := TX6) (N := 7) (n := 7) hg inX6 (hg _ wIS_X6)
  obtain ⟨c7, i7, k7⟩ := u_known (C := RX7) (T := TX7) (N := 15) (n := 15) hg inX7 (hg _ wIS_X7)
  obtain ⟨D, hKc⟩ : ∃ D : va_G, ∀ (k : Nat) (q : vw_C), vwCl[k]? = some q → u_Kn s q.1 q.2.1 q.2.2 (D.1 k) (D.2 k) := by
    refine ⟨(fun k => [c0, c1, c2, c3, c4, c5, c6, c7].getD k c0, fun k => [i0, i1, i2, i3, i4, i5, i6, i7].getD k i0), ?_⟩
    intro k q hq
    match k, hq with
    | 0, hq => cases hq; exact k0
    | 1, hq => cases hq; exact k1
    | 2, hq => cases hq; exact k2
    | 3, hq => cases hq; exact k3
    | 4, hq => cases hq; exact k4
    | 5, hq => cases hq; exact k5
    | 6, hq => cases hq; exact k6
    | 7, hq => cases hq; exact k7
    | k + 8, hq => simp [vwCl] at hq
  have hO1 : (Cond.arrayOver (.object RX3)).before #[Value.ref b] s = true := hts _ (List.mem_append_right _ (t_1 (List.mem_of_getElem? (i := 41) rfl)))
  have hO2 : (Cond.arrayOver (.array .int)).before #[Value.ref b] s = true := hts _ (List.mem_append_right _ (t_1 (List.mem_of_getElem? (i := 57) rfl)))
  obtain ⟨d0, kA0, cp0, f0, g0, h0⟩ := Cond.arrayClass_spec (hg _ wAC_int)
  obtain ⟨d1, kA1, cp1, f1, g1, h1⟩ := Cond.arrayClass_spec (hg _ wAC_char)
  obtain ⟨cp2, d2, kA2, e2, -, g2, h2, f2⟩ := Cond.arrayOver_spec hO1
  obtain ⟨cp3, d3, kA3, e3, -, g3, h3, f3⟩ := arrayOverA_spec hO2
  obtain ⟨cy, hcy⟩ : ∃ cy : Nat → ClassId, va_K D vwCl (tysW cy) s := by
    refine ⟨fun k => [d0, d1, d2, d3].getD k d0, hKc, ?_⟩
    intro k q hq
    match k, hq with
    | 0, hq => cases hq; exact ⟨fun n z => ⟨fun k h => (by cases h), kA0, g0, cp0, h0⟩, f0⟩
    | 1, hq => cases hq; exact ⟨fun n z => ⟨fun k h => (by cases h), kA1, g1, cp1, h1⟩, f1⟩
    | 2, hq => cases hq; exact ⟨fun n z => ⟨fun k h => (by cases h), kA2, g2, cp2, h2⟩, kA2, cp2, g2, h2, e2, f2⟩
    | 3, hq => cases hq; exact ⟨fun n z => ⟨fun k h => (by cases h), kA3, g3, cp3, h3⟩, f3⟩
    | k + 4, hq => simp [tysW] at hq
  have hKd : Kd D cy s := ⟨hcy, va_AO.of hO1, over_moved (Vm.Alike.refl s.vm) hO2⟩
  have hNw : Nw s := ⟨va_Nw.of rfl (hts _ wMN_X3_23), va_Nw.of rfl (hts _ wMN_X4_21), va_Nw.of rfl (hts _ wMN_X1_50), va_Nw.of rfl (hts _ wMN_X1_43), va_Nw.of rfl (hts _ wMN_X2_97)⟩
  have hA : ∀ x : Nat, s.heap.size ≤ x → (fun x : Nat => s.heap.size ≤ x) x := fun _ h => h
  have X : Fy p s m #[Value.ref b] c code 4 RL D cy (fun x : Nat => s.heap.size ≤ x) s.heap := ⟨⟨hx, hb, hml, hown, hg⟩, hKd, hA⟩
  have hl := lv_entry ([.ref b]) (n := 4) (Nat.le_of_ble_eq_true rfl)
  rw [lg_entry_eq]
  have K : UJ p l e room_1 s m #[Value.ref b] below meth c (lw_Z below #[Value.ref b] s) D (fun x : Nat => s.heap.size ≤ x) s.heap 4 0 0 [] 0 [(0, .ref b)] [] := by
    refine U_new (ci := 6) (fs := [.null, .null, .null, .null, .null, .null, .null]) X inX6 tyX6 tyX6_ok wCL_L_7 wIS_X6 wIN_X6 rfl (fun j hj => by rcases (show j = 0 ∨ j = 1 ∨ j = 2 ∨ j = 3 ∨ j = 4 ∨ j = 5 ∨ j = 6 by omega) with rfl | rfl | rfl | rfl | rfl | rfl | rfl <;> rfl) ⟨Nat.le_of_ble_eq_true rfl, Nat.le_of_ble_eq_true rfl⟩ dL_law_0 (fun a0 => ?_)
    refine U_eqw (ws' := [(a0, .inr (6, [.null, .null, .null, .null, .null, .null, .null]))]) rfl ?_
    refine U_dup X dL_law_3 rfl ?_
    refine U_call (wr := []) (As := []) X [0] [] rfl rfl rfl (by decide) (by decide) (by decide) (cwI 0 X.1.2.2.2.2 (gw_code wCD_X6_init) rfl rfl rfl (X.1.2.2.2.2 _ wIN_X6) (X.1.2.2.2.2 _ wML_L_9) (X.1.2.2.2.2 _ wIM_X6_init) rfl (by decide +kernel) ⟨Nat.le_of_ble_eq_true rfl, Nat.le_of_ble_eq_true rfl⟩) (c_BitLevels l D cy a0) rfl rfl (Nat.le_of_ble_eq_true rfl) ⟨Nat.le_of_ble_eq_true rfl, Nat.le_of_ble_eq_true rfl⟩ dL_law_4 (fun u => ?_)
    obtain ⟨u1, ⟨hs, hr2⟩, ⟨lo, l1, l2, l3⟩, ⟨p1, p2, p3, p4⟩⟩ := u
    refine U_eqw (ws' := [(a0, .inr (6, [.ref (u1 0), .ref (u1 2), .ref (u1 3), .ref (u1 4), .ref (u1 6), .ref (u1 8), .ref p1])), ((u1 0), .inr (3, [.ref (u1 1), .int 0])), ((u1 1), .inl (cy 0, 60, .inl (fun _ => 0))), ((u1 2), .inr (0, [.ref hs, .int 0])), (hs, .inl (cy 2, 4, .inr (.inr (.inr (.inr (va_up (va_up (va_up (va_up (fun _ => none) 0 (some (hr2 0))) 1 (some (hr2 2))) 2 (some (hr2 4))) 3 (some (hr2 6)))))))), ((hr2 0), .inr (3, [.ref (hr2 1), .int 0])), ((hr2 1), .inl (cy 0, 60, .inl (fun _ => 0))), ((hr2 2), .inr (3, [.ref (hr2 3), .int 0])), ((hr2 3), .inl (cy 0, 60, .inl (fun _ => 0))), ((hr2 4), .inr (3, [.ref (hr2 5), .int 0])), ((hr2 5), .inl (cy 0, 60, .inl (fun _ => 0))), ((hr2 6), .inr (3, [.ref (hr2 7), .int 0])), ((hr2 7), .inl (cy 0, 60, .inl (fun _ => 0))), ((u1 3), .inr (1, [.ref (lo 0), .ref (lo 1), .ref (lo 2), .int 0])), ((lo 0), .inl (cy 3, 5, .inr (.inr (.inr (.inr (fun i => if i < 5 then some (l1 i) else none)))))), ((l1 0), .inl (cy 0, 60, .inl (fun _ => 0))), ((l1 1), .inl (cy 0, 60, .inl (fun _ => 0))), ((l1 2), .inl (cy 0, 60, .inl (fun _ => 0))), ((l1 3), .inl (cy 0, 60, .inl (fun _ => 0))), ((l1 4), .inl (cy 0, 60, .inl (fun _ => 0))), ((lo 1), .inl (cy 3, 5, .inr (.inr (.inr (.inr (fun i => if i < 5 then some (l2 i) else none)))))), ((l2 0), .inl (cy 0, 60, .inl (fun _ => 0))), ((l2 1), .inl (cy 0, 60, .inl (fun _ => 0))), ((l2 2), .inl (cy 0, 60, .inl (fun _ => 0))), ((l2 3), .inl (cy 0, 60, .inl (fun _ => 0))), ((l2 4), .inl (cy 0, 60, .inl (fun _ => 0))), ((lo 2), .inl (cy 3, 4, .inr (.inr (.inr (.inr (fun i => if i < 4 then some (l3 i) else none)))))), ((l3 0), .inl (cy 0, 60, .inl (fun _ => 0))), ((l3 1), .inl (cy 0, 60, .inl (fun _ => 0))), ((l3 2), .inl (cy 0, 60, .inl (fun _ => 0))), ((l3 3), .inl (cy 0, 60, .inl (fun _ => 0))), ((u1 4), .inr (4, [.ref (u1 5)])), ((u1 5), .inl (cy 0, 16, .inl (fun _ => 0))), ((u1 6), .inr (4, [.ref (u1 7)])), ((u1 7), .inl (cy 0, 16, .inl (fun _ => 0))), ((u1 8), .inr (2, [.ref p1, .ref p3, .int 0, .int 0, .int 0, .int 0, .int 0, .int 0, .int 0, .int 0])), (p1, .inr (5, [.ref p2, .int 0])), (p2, .inl (cy 1, 60, .inl (fun _ => 0))), (p3, .inr (3, [.ref p4, .int 0])), (p4, .inl (cy 0, 60, .inl (fun _ => 0)))]) rfl ?_
    refine U_astore_n X (i := 1) (L' := [(1, .ref a0), (0, .ref b)]) dL_law_7 rfl (by decide) rfl ?_
    refine U_new (ci := 7) (fs := [.null, .null, .null, .null, .int 0, .null, .int 0, .int 0, .int 0, .int 0, .int 0, .null, .null, .null, .null]) X inX7 tyX7 tyX7_ok wCL_L_10 wIS_X7 wIN_X7 rfl (fun j hj => by rcases (show j = 0 ∨ j = 1 ∨ j = 2 ∨ j = 3 ∨ j = 4 ∨ j = 5 ∨ j = 6 ∨ j = 7 ∨ j = 8 ∨ j = 9 ∨ j = 10 ∨ j = 11 ∨ j = 12 ∨ j = 13 ∨ j = 14 by omega) with rfl | rfl | rfl | rfl | rfl | rfl | rfl | rfl | rfl | rfl | rfl | rfl | rfl | rfl | rfl <;> rfl) ⟨Nat.le_of_ble_eq_true rfl, Nat.le_of_ble_eq_true rfl⟩ dL_law_8 (fun am => ?_)
    refine U_eqw (ws' := [(a0, .inr (6, [.ref (u1 0), .ref (u1 2), .ref (u1 3), .ref (u1 4), .ref (u1 6), .ref (u1 8), .ref p1])), ((u1 0), .inr (3, [.ref (u1 1), .int 0])), ((u1 1), .inl (cy 0, 60, .inl (fun _ => 0))), ((u1 2), .inr (0, [.ref hs, .int 0])), (hs, .inl (cy 2, 4, .inr (.inr (.inr (.inr (va_up (va_up (va_up (va_up (fun _ => none) 0 (some (hr2 0))) 1 (some (hr2 2))) 2 (some (hr2 4))) 3 (some (hr2 6)))))))), ((hr2 0), .inr (3, [.ref (hr2 1), .int 0])), ((hr2 1), .inl (cy 0, 60, .inl (fun _ => 0))), ((hr2 2), .inr (3, [.ref (hr2 3), .int 0])), ((hr2 3), .inl (cy 0, 60, .inl (fun _ => 0))), ((hr2 4), .inr (3, [.ref (hr2 5), .int 0])), ((hr2 5), .inl (cy 0, 60, .inl (fun _ => 0))), ((hr2 6), .inr (3, [.ref (hr2 7), .int 0])), ((hr2 7), .inl (cy 0, 60, .inl (fun _ => 0))), ((u1 3), .inr (1, [.ref (lo 0), .ref (lo 1), .ref (lo 2), .int 0])), ((lo 0), .inl (cy 3, 5, .inr (.inr (.inr (.inr (fun i => if i < 5 then some (l1 i) else none)))))), ((l1 0), .inl (cy 0, 60, .inl (fun _ => 0))), ((l1 1), .inl (cy 0, 60, .inl (fun _ => 0))), ((l1 2), .inl (cy 0, 60, .inl (fun _ => 0))), ((l1 3), .inl (cy 0, 60, .inl (fun _ => 0))), ((l1 4), .inl (cy 0, 60, .inl (fun _ => 0))), ((lo 1), .inl (cy 3, 5, .inr (.inr (.inr (.inr (fun i => if i < 5 then some (l2 i) else none)))))), ((l2 0), .inl (cy 0, 60, .inl (fun _ => 0))), ((l2 1), .inl (cy 0, 60, .inl (fun _ => 0))), ((l2 2), .inl (cy 0, 60, .inl (fun _ => 0))), ((l2 3), .inl (cy 0, 60, .inl (fun _ => 0))), ((l2 4), .inl (cy 0, 60, .inl (fun _ => 0))), ((lo 2), .inl (cy 3, 4, .inr (.inr (.inr (.inr (fun i => if i < 4 then some (l3 i) else none)))))), ((l3 0), .inl (cy 0, 60, .inl (fun _ => 0))), ((l3 1), .inl (cy 0, 60, .inl (fun _ => 0))), ((l3 2), .inl (cy 0, 60, .inl (fun _ => 0))), ((l3 3), .inl (cy 0, 60, .inl (fun _ => 0))), ((u1 4), .inr (4, [.ref (u1 5)])), ((u1 5), .inl (cy 0, 16, .inl (fun _ => 0))), ((u1 6), .inr (4, [.ref (u1 7)])), ((u1 7), .inl (cy 0, 16, .inl (fun _ => 0))), ((u1 8), .inr (2, [.ref p1, .ref p3, .int 0, .int 0, .int 0, .int 0, .int 0, .int 0, .int 0, .int 0])), (p1, .inr (5, [.ref p2, .int 0])), (p2, .inl (cy 1, 60, .inl (fun _ => 0))), (p3, .inr (3, [.ref p4, .int 0])), (p4, .inl (cy 0, 60, .inl (fun _ => 0))), (am, .inr (7, [.null, .null, .null, .null, .int 0, .null, .int 0, .int 0, .int 0, .int 0, .int 0, .null, .null, .null, .null]))]) rfl ?_
    refine U_dup X dL_law_11 rfl ?_
    refine U_call (wr := [(a0, .inr (6, [.ref (u1 0), .ref (u1 2), .ref (u1 3), .ref (u1 4), .ref (u1 6), .ref (u1 8), .ref p1])), ((u1 0), .inr (3, [.ref (u1 1), .int 0])), ((u1 1), .inl (cy 0, 60, .inl (fun _ => 0))), ((u1 2), .inr (0, [.ref hs, .int 0])), (hs, .inl (cy 2, 4, .inr (.inr (.inr (.inr (va_up (va_up (va_up (va_up (fun _ => none) 0 (some (hr2 0))) 1 (some (hr2 2))) 2 (some (hr2 4))) 3 (some (hr2 6)))))))), ((hr2 0), .inr (3, [.ref (hr2 1), .int 0])), ((hr2 1), .inl (cy 0, 60, .inl (fun _ => 0))), ((hr2 2), .inr (3, [.ref (hr2 3), .int 0])), ((hr2 3), .inl (cy 0, 60, .inl (fun _ => 0))), ((hr2 4), .inr (3, [.ref (hr2 5), .int 0])), ((hr2 5), .inl (cy 0, 60, .inl (fun _ => 0))), ((hr2 6), .inr (3, [.ref (hr2 7), .int 0])), ((hr2 7), .inl (cy 0, 60, .inl (fun _ => 0))), ((u1 3), .inr (1, [.ref (lo 0), .ref (lo 1), .ref (lo 2), .int 0])), ((lo 0), .inl (cy 3, 5, .inr (.inr (.inr (.inr (fun i => if i < 5 then some (l1 i) else none)))))), ((l1 0), .inl (cy 0, 60, .inl (fun _ => 0))), ((l1 1), .inl (cy 0, 60, .inl (fun _ => 0))), ((l1 2), .inl (cy 0, 60, .inl (fun _ => 0))), ((l1 3), .inl (cy 0, 60, .inl (fun _ => 0))), ((l1 4), .inl (cy 0, 60, .inl (fun _ => 0))), ((lo 1), .inl (cy 3, 5, .inr (.inr (.inr (.inr (fun i => if i < 5 then some (l2 i) else none)))))), ((l2 0), .inl (cy 0, 60, .inl (fun _ => 0))), ((l2 1), .inl (cy 0, 60, .inl (fun _ => 0))), ((l2 2), .inl (cy 0, 60, .inl (fun _ => 0))), ((l2 3), .inl (cy 0, 60, .inl (fun _ => 0))), ((l2 4), .inl (cy 0, 60, .inl (fun _ => 0))), ((lo 2), .inl (cy 3, 4, .inr (.inr (.inr (.inr (fun i => if i < 4 then some (l3 i) else none)))))), ((l3 0), .inl (cy 0, 60, .inl (fun _ => 0))), ((l3 1), .inl (cy 0, 60, .inl (fun _ => 0))), ((l3 2), .inl (cy 0, 60, .inl (fun _ => 0))), ((l3 3), .inl (cy 0, 60, .inl (fun _ => 0))), ((u1 4), .inr (4, [.ref (u1 5)])), ((u1 5), .inl (cy 0, 16, .inl (fun _ => 0))), ((u1 6), .inr (4, [.ref (u1 7)])), ((u1 7), .inl (cy 0, 16, .inl (fun _ => 0))), ((u1 8), .inr (2, [.ref p1, .ref p3, .int 0, .int 0, .int 0, .int 0, .int 0, .int 0, .int 0, .int 0])), (p1, .inr (5, [.ref p2, .int 0])), (p2, .inl (cy 1, 60, .inl (fun _ => 0))), (p3, .inr (3, [.ref p4, .int 0])), (p4, .inl (cy 0, 60, .inl (fun _ => 0)))]) (As := []) X [40] [0, 1, 2, 3, 4, 5, 6, 7, 8, 9, 10, 11, 12, 13, 14, 15, 16, 17, 18, 19, 20, 21, 22, 23, 24, 25, 26, 27, 28, 29, 30, 31, 32, 33, 34, 35, 36, 37, 38, 39] rfl rfl rfl (by decide) (by decide) (by decide) (cwI 0 X.1.2.2.2.2 (gw_code wCD_X7_init) rfl rfl rfl (X.1.2.2.2.2 _ wIN_X7) (X.1.2.2.2.2 _ wML_L_12) (X.1.2.2.2.2 _ wIM_X7_init) rfl (by decide +kernel) ⟨Nat.le_of_ble_eq_true rfl, Nat.le_of_ble_eq_true rfl⟩) (c_Model l D cy am) rfl rfl (Nat.le_of_ble_eq_true rfl) ⟨Nat.le_of_ble_eq_true rfl, Nat.le_of_ble_eq_true rfl⟩ dL_law_12 (fun v => ?_)
    refine U_eqw (ws' := [(a0, .inr (6, [.ref (u1 0), .ref (u1 2), .ref (u1 3), .ref (u1 4), .ref (u1 6), .ref (u1 8), .ref p1])), ((u1 0), .inr (3, [.ref (u1 1), .int 0])), ((u1 1), .inl (cy 0, 60, .inl (fun _ => 0))), ((u1 2), .inr (0, [.ref hs, .int 0])), (hs, .inl (cy 2, 4, .inr (.inr (.inr (.inr (va_up (va_up (va_up (va_up (fun _ => none) 0 (some (hr2 0))) 1 (some (hr2 2))) 2 (some (hr2 4))) 3 (some (hr2 6)))))))), ((hr2 0), .inr (3, [.ref (hr2 1), .int 0])), ((hr2 1), .inl (cy 0, 60, .inl (fun _ => 0))), ((hr2 2), .inr (3, [.ref (hr2 3), .int 0])), ((hr2 3), .inl (cy 0, 60, .inl (fun _ => 0))), ((hr2 4), .inr (3, [.ref (hr2 5), .int 0])), ((hr2 5), .inl (cy 0, 60, .inl (fun _ => 0))), ((hr2 6), .inr (3, [.ref (hr2 7), .int 0])), ((hr2 7), .inl (cy 0, 60, .inl (fun _ => 0))), ((u1 3), .inr (1, [.ref (lo 0), .ref (lo 1), .ref (lo 2), .int 0])), ((lo 0), .inl (cy 3, 5, .inr (.inr (.inr (.inr (fun i => if i < 5 then some (l1 i) else none)))))), ((l1 0), .inl (cy 0, 60, .inl (fun _ => 0))), ((l1 1), .inl (cy 0, 60, .inl (fun _ => 0))), ((l1 2), .inl (cy 0, 60, .inl (fun _ => 0))), ((l1 3), .inl (cy 0, 60, .inl (fun _ => 0))), ((l1 4), .inl (cy 0, 60, .inl (fun _ => 0))), ((lo 1), .inl (cy 3, 5, .inr (.inr (.inr (.inr (fun i => if i < 5 then some (l2 i) else none)))))), ((l2 0), .inl (cy 0, 60, .inl (fun _ => 0))), ((l2 1), .inl (cy 0, 60, .inl (fun _ => 0))), ((l2 2), .inl (cy 0, 60, .inl (fun _ => 0))), ((l2 3), .inl (cy 0, 60, .inl (fun _ => 0))), ((l2 4), .inl (cy 0, 60, .inl (fun _ => 0))), ((lo 2), .inl (cy 3, 4, .inr (.inr (.inr (.inr (fun i => if i < 4 then some (l3 i) else none)))))), ((l3 0), .inl (cy 0, 60, .inl (fun _ => 0))), ((l3 1), .inl (cy 0, 60, .inl (fun _ => 0))), ((l3 2), .inl (cy 0, 60, .inl (fun _ => 0))), ((l3 3), .inl (cy 0, 60, .inl (fun _ => 0))), ((u1 4), .inr (4, [.ref (u1 5)])), ((u1 5), .inl (cy 0, 16, .inl (fun _ => 0))), ((u1 6), .inr (4, [.ref (u1 7)])), ((u1 7), .inl (cy 0, 16, .inl (fun _ => 0))), ((u1 8), .inr (2, [.ref p1, .ref p3, .int 0, .int 0, .int 0, .int 0, .int 0, .int 0, .int 0, .int 0])), (p1, .inr (5, [.ref p2, .int 0])), (p2, .inl (cy 1, 60, .inl (fun _ => 0))), (p3, .inr (3, [.ref p4, .int 0])), (p4, .inl (cy 0, 60, .inl (fun _ => 0))), (am, .inr (7, [.ref (v 0), .ref (v 1), .ref (v 2), .ref (v 3), .int 0, .ref (v 4), .int 0, .int 0, .int 0, .int 0, .int 0, .ref (v 5), .ref (v 6), .ref (v 7), .ref (v 8)])), ((v 0), .inl (cy 0, 61, .inl (fun _ => 0))), ((v 1), .inl (cy 0, 244, .inl (fun _ => 0))), ((v 2), .inl (cy 0, 61, .inl (fun _ => 0))), ((v 3), .inl (cy 0, 61, .inl (fun _ => 0))), ((v 4), .inl (cy 1, 60, .inl (fun _ => 0))), ((v 5), .inl (cy 0, 300, .inl (fun _ => 0))), ((v 6), .inl (cy 0, 300, .inl (fun _ => 0))), ((v 7), .inl (cy 0, 16, .inl (fun _ => 0))), ((v 8), .inl (cy 0, 16, .inl (fun _ => 0)))]) rfl ?_
    refine U_astore_n X (i := 2) (L' := [(2, .ref am), (1, .ref a0), (0, .ref b)]) dL_law_15 rfl (by decide) rfl ?_
    refine U_iconst X (v := nI 0) dL_law_16 (by decide) ?_
    refine U_istore_n X (i := 3) (L' := [(3, .int (nI 0)), (2, .ref am), (1, .ref a0), (0, .ref b)]) dL_law_17 rfl (by decide) rfl ?_
    obtain ⟨q, hq⟩ : ∃ q : Nat → Nat, q = fun i => ([a0, u1 0, u1 1, hr2 0, hr2 1, hr2 2, hr2 3, hr2 4, hr2 5, hr2 6, hr2 7, p3, p4, u1 2, hs, u1 3, lo 0, lo 1, lo 2, l1 0, l1 1, l1 2, l1 3, l1 4, l2 0, l2 1, l2 2, l2 3, l2 4, l3 0, l3 1, l3 2, l3 3, u1 4, u1 5, u1 6, u1 7, p1, p2, u1 8, am, v 0, v 1, v 2, v 3, v 4, v 5, v 6, v 7, v 8] : List Nat).getD i 0 := ⟨_, rfl⟩
    have y1 : ((va_up (va_up (va_up (va_up (fun _ => none) 0 (some (hr2 0))) 1 (some (hr2 2))) 2 (some (hr2 4))) 3 (some (hr2 6)))) = fun i => if i < 4 then some (q (3 + 2 * i)) else none := by
      refine Eq.trans ?_ (ups4 (q := q) (k := 3))
      rw [hq]
      rfl
    have zl1 : (fun i => if i < 5 then some (l1 i) else none) = fun i => if i < 5 then some (q (19 + i)) else none := rows_q (fun i hi => by
      rw [hq]
      rcases (show i = 0 ∨ i = 1 ∨ i = 2 ∨ i = 3 ∨ i = 4 by omega) with rfl | rfl | rfl | rfl | rfl <;> rfl)
    have zl2 : (fun i => if i < 5 then some (l2 i) else none) = fun i => if i < 5 then some (q (24 + i)) else none := rows_q (fun i hi => by
      rw [hq]
      rcases (show i = 0 ∨ i = 1 ∨ i = 2 ∨ i = 3 ∨ i = 4 by omega) with rfl | rfl | rfl | rfl | rfl <;> rfl)
    have zl3 : (fun i => if i < 4 then some (l3 i) else none) = fun i => if i < 4 then some (q (29 + i)) else none := rows_q (fun i hi => by
      rw [hq]
      rcases (show i = 0 ∨ i = 1 ∨ i = 2 ∨ i = 3 by omega) with rfl | rfl | rfl | rfl <;> rfl)
    rw [y1, zl1, zl2, zl3]
    intro H locs ls hP hD hS hl
    have hPw : va_P D vwCl (wd cy q (fun _ _ => 0)) H := hP.sub [0, 1, 2, 5, 6, 7, 8, 9, 10, 11, 12, 38, 39, 3, 4, 13, 14, 20, 26, 15, 16, 17, 18, 19, 21, 22, 23, 24, 25, 27, 28, 29, 30, 31, 32, 33, 34, 36, 37, 35, 40, 41, 42, 43, 44, 45, 46, 47, 48, 49] (by rw [hq]; rfl)
    have hDw : va_D (fun x : Nat => s.heap.size ≤ x) (wd cy q (fun _ _ => 0)) := hD.sub [0, 1, 2, 5, 6, 7, 8, 9, 10, 11, 12, 38, 39, 3, 4, 13, 14, 20, 26, 15, 16, 17, 18, 19, 21, 22, 23, 24, 25, 27, 28, 29, 30, 31, 32, 33, 34, 36, 37, 35, 40, 41, 42, 43, 44, 45, 46, 47, 48, 49] (by decide +kernel) (by rw [hq]; rfl)
    obtain ⟨j1, j2⟩ := q_inj hDw
    have XF : Fx p s m #[Value.ref b] c code 4 RL gw D cy q (fun x : Nat => s.heap.size ≤ x) s.heap := ⟨⟨hx, hb, hml, hown, hg⟩, ⟨hcy, hNw⟩, hA, j2, j1⟩
    have e0 : q 0 = a0 := by rw [hq]; rfl
    have e40 : q 40 = am := by rw [hq]; rfl
    exact law_loop (F := 1000) (by omega) hL XF hX hbl hr hlocks (L + 7) 0 _ (Nat.zero_le L) (by omega) St0 H locs ls hPw hS (lv_sub hl [3, 2, 1, 0] (by unfold LL; rw [e0, e40]; rfl))
  exact K s.heap [] _ (fun k q h => by simp at h) ⟨fun i j p q h => by simp at h, fun k q h => by simp at h⟩ va_S.rf hl
