section LOOP
variable {p : Program} {l : Launch} {e : Env} {s : State} {m : MethodId} {below : List Frame} {meth : Method} {c : Code} {D : va_G} {cy : Nat → ClassId} {q : Nat → Nat} {b n : Nat} {xs : Nat → Int32} {M : Mm} {F : Nat}

set_option maxRecDepth 100000 in
set_option maxHeartbeats 4000000 in
theorem law_loop (hF : 300 ≤ F) (hn : n ≤ 3072) (X : Fx p s m #[Value.ref b] c code 4 RL gw D cy q (fun x : Nat => s.heap.size ≤ x) s.heap) (hX : va_X b n xs s s.heap) (hbl : b < s.heap.size) (hr : meth.sig.returnType = ret) (hlk : meth.locks = false) : ∀ (k i : Nat) (M : Mm), i ≤ n → n + 7 ≤ i + k → St M → V p l e room_1 s m #[Value.ref b] below meth c (lw_Z below #[Value.ref b] s) D cy q (fun x : Nat => s.heap.size ≤ x) s.heap 4 50 2483 M 18 (LL b q i) []
  | 0, i, M, h1, h2, _ => absurd h2 (by omega)
  | k + 1, i, M, h1, h2, S => by
    have hbA : ¬ (fun x : Nat => s.heap.size ≤ x) b := Nat.not_le.mpr hbl
    refine V_iload_n X dL_law_18 3 rfl rfl ?_
    refine V_aload_n X dL_law_19 0 rfl rfl ?_
    refine L_len X hX hbl hbA dL_law_20 ?_
    refine V_bipush X (v := nI 6) dL_law_21 (by decide) ?_
    refine V_isub X dL_law_23 ?_
    refine L_gt X 951 dL_law_24 (by decide) (fun hc => ?_) (fun hc => ?_)
    · exact fun H locs ls hP hS hl => lv_iconst (v := 1) X.1.1 X.1.2.1 dL_law_951 (by decide) (va_forget (fun x hx => hS.2.2 x hx) (W.widen (k := 600000) (n := 7302250) (Nat.le_of_ble_eq_true rfl) (Nat.le_of_ble_eq_true rfl) (lw_ret X.1.1 X.1.2.1 hr hlk dL_law_952)))
    have hi : i + 6 ≤ n := by
      rw [Int32.lt_iff_toInt_lt, pk_sub_toInt (by omega) (by omega), nI_toInt (by omega)] at hc
      omega
    refine V_aload_n X dL_law_27 0 rfl rfl ?_
    refine V_iload_n X dL_law_28 3 rfl rfl ?_
    refine L_ld X hX hbl hbA (vp_in_nI (by omega) (by omega)) dL_law_29 ?_
    refine V_bipush X (v := 31) dL_law_30 (by decide) ?_
    refine V_iand X dL_law_32 ?_
    have nx : ∀ M', St M' → V p l e room_1 s m #[Value.ref b] below meth c (lw_Z below #[Value.ref b] s) D cy q (fun x : Nat => s.heap.size ≤ x) s.heap 4 50 2483 M' 945 (LL b q i) [] := fun M' S' => V_iinc X (j := 3) (L' := [(3, .int (nI (i + 6))), (0, .ref b), (1, .ref (q 0)), (2, .ref (q 40))]) dL_law_945 rfl (nI_add i 6) (by decide) rfl (V_goto X 18 dL_law_948 (by decide) (V_sub [1, 2, 3, 0] rfl (law_loop hF hn X hX hbl hr hlk k (i + 6) M' hi (by omega) S')))
    obtain ⟨w, hw, ew⟩ := and31 (xs (Int32.toNatClampNeg (nI i)))
    rw [ew]
    match w, hw with
    | 0, _ => exact V_tabIn (off := 115) X 148 dL_law_33 (by decide) (by decide) (by decide) (by decide) (lc_0 hF hn X hX hbl hi S nx)
    | 1, _ => exact V_tabIn (off := 148) X 181 dL_law_33 (by decide) (by decide) (by decide) (by decide) (lc_1 hF hn X hX hbl hi S nx)
    | 2, _ => exact V_tabIn (off := 171) X 204 dL_law_33 (by decide) (by decide) (by decide) (by decide) (lc_2 hF hn X hX hbl hi S nx)
    | 3, _ => exact V_tabIn (off := 204) X 237 dL_law_33 (by decide) (by decide) (by decide) (by decide) (lc_3 hF hn X hX hbl hi S nx)
    | 4, _ => exact V_tabIn (off := 237) X 270 dL_law_33 (by decide) (by decide) (by decide) (by decide) (lc_4 hF hn X hX hbl hi S nx)
    | 5, _ => exact V_tabIn (off := 270) X 303 dL_law_33 (by decide) (by decide) (by decide) (by decide) (lc_5 hF hn X hX hbl hi S nx)
    | 6, _ => exact V_tabIn (off := 303) X 336 dL_law_33 (by decide) (by decide) (by decide) (by decide) (lc_6 hF hn X hX hbl hi S nx)
    | 7, _ => exact V_tabIn (off := 346) X 379 dL_law_33 (by decide) (by decide) (by decide) (by decide) (lc_7 hF hn X hX hbl hi S nx)
    | 8, _ => exact V_tabIn (off := 389) X 422 dL_law_33 (by decide) (by decide) (by decide) (by decide) (lc_8 hF hn X hX hbl hi S nx)
    | 9, _ => exact V_tabIn (off := 413) X 446 dL_law_33 (by decide) (by decide) (by decide) (by decide) (lc_9 hF hn X hX hbl hi S nx)
    | 10, _ => exact V_tabIn (off := 436) X 469 dL_law_33 (by decide) (by decide) (by decide) (by decide) (lc_10 hF hn X hX hbl hi S nx)
    | 11, _ => exact V_tabIn (off := 469) X 502 dL_law_33 (by decide) (by decide) (by decide) (by decide) (lc_11 hF hn X hX hbl hi S nx)
    | 12, _ => exact V_tabIn (off := 502) X 535 dL_law_33 (by decide) (by decide) (by decide) (by decide) (lc_12 hF hn X hX hbl hi S nx)
    | 13, _ => exact V_tabIn (off := 545) X 578 dL_law_33 (by decide) (by decide) (by decide) (by decide) (lc_13 hF hn X hX hbl hi S nx)
    | 14, _ => exact V_tabIn (off := 588) X 621 dL_law_33 (by decide) (by decide) (by decide) (by decide) (lc_14 hF hn X hX hbl hi S nx)
    | 15, _ => exact V_tabIn (off := 631) X 664 dL_law_33 (by decide) (by decide) (by decide) (by decide) (lc_15 hF hn X hX hbl hi S nx)
    | 16, _ => exact V_tabIn (off := 674) X 707 dL_law_33 (by decide) (by decide) (by decide) (by decide) (lc_16 hF hn X hX hbl hi S nx)
    | 17, _ => exact V_tabIn (off := 708) X 741 dL_law_33 (by decide) (by decide) (by decide) (by decide) (lc_17 hF hn X hX hbl hi S nx)
    | 18, _ => exact V_tabIn (off := 771) X 804 dL_law_33 (by decide) (by decide) (by decide) (by decide) (lc_18 hF hn X hX hbl hi S nx)
    | 19, _ => exact V_tabIn (off := 804) X 837 dL_law_33 (by decide) (by decide) (by decide) (by decide) (lc_19 hF hn X hX hbl hi S nx)
    | 20, _ => exact V_tabIn (off := 827) X 860 dL_law_33 (by decide) (by decide) (by decide) (by decide) (lc_20 hF hn X hX hbl hi S nx)
    | 21, _ => exact V_tabIn (off := 840) X 873 dL_law_33 (by decide) (by decide) (by decide) (by decide) (lc_21 hF hn X hX hbl hi S nx)
    | 22, _ => exact V_tabIn (off := 863) X 896 dL_law_33 (by decide) (by decide) (by decide) (by decide) (lc_22 hF hn X hX hbl hi S nx)
    | 23, _ => exact V_tabIn (off := 876) X 909 dL_law_33 (by decide) (by decide) (by decide) (by decide) (lc_23 hF hn X hX hbl hi S nx)
    | 24, _ => exact V_tabIn (off := 899) X 932 dL_law_33 (by decide) (by decide) (by decide) (by decide) (lc_24 hF hn X hX hbl hi S nx)
    | 25, _ => exact V_tabOut X 945 dL_law_33 (Or.inr (by decide)) (by decide) (nx M S)
    | 26, _ => exact V_tabOut X 945 dL_law_33 (Or.inr (by decide)) (by decide) (nx M S)
    | 27, _ => exact V_tabOut X 945 dL_law_33 (Or.inr (by decide)) (by decide) (nx M S)
    | 28, _ => exact V_tabOut X 945 dL_law_33 (Or.inr (by decide)) (by decide) (nx M S)
    | 29, _ => exact V_tabOut X 945 dL_law_33 (Or.inr (by decide)) (by decide) (nx M S)
    | 30, _ => exact V_tabOut X 945 dL_law_33 (Or.inr (by decide)) (by decide) (nx M S)
    | 31, _ => exact V_tabOut X 945 dL_law_33 (Or.inr (by decide)) (by decide) (nx M S)
    | w + 32, h => exact absurd h (by omega)
end LOOP
