def bcP (s : Nat) : Nat → Nat
  | 0 => 0
  | i + 1 => bcP s i + s / 2 ^ i % 2
def onG (f : Nat → Nat) : Nat → Nat
  | 0 => 0
  | k + 1 => onG f k + bcP (f k) 4
theorem bitCount_t {s : Nat} (h : s < 16) : f_J6_bitCount_0f7a4 (nI s) = some (nI (bcP s 4)) := by
  have : ∀ s, s < 16 → f_J6_bitCount_0f7a4 (nI s) = some (nI (bcP s 4)) := by decide +kernel
  exact this s h
theorem bitR_t {s i : Nat} (h : s < 16) (hi : i < 4) : ((nI s) >>> ((nI i) &&& 31)) &&& (nI 1) = nI (s / 2 ^ i % 2) := by
  have : ∀ s, s < 16 → ∀ i, i < 4 → ((nI s) >>> ((nI i) &&& 31)) &&& (nI 1) = nI (s / 2 ^ i % 2) := by decide +kernel
  exact this s h i hi
theorem ones_t {F : Nat} {M : Mm} {k : Nat} {r : Rw} (hF : 100 ≤ F) (h : RwP M k r.1 r.2) (ho : okR r) : f_X3_ones F k M = some (nI (onG r.2 r.1)) := by
  have hn := ho.1
  apply Ok.eq
  unfold f_X3_ones
  refine Ok.lpN (m0 := r.1) (fun m z => ∃ j, j + m = r.1 ∧ z = (nI (onG r.2 j), nI j)) ?_ ?_ (by omega)
  · rintro m z ⟨j, hj, rfl⟩
    dsimp only
    rw [h.1]
    by_cases hd : r.1 ≤ j
    · rw [if_pos (by simp (disch := omega) only [nI_leI, nI_ltI, nI_eq, nI_add, nI_clamp, pk_sub, pk_mul, nI_m1, nI_le0, nI_lt0, nI_0le, nI_0lt, nI_z, inb_nI, decide_eq_true_eq]; omega)]
      have e : r.1 = j := by omega
      rw [e]
      rfl
    · rw [if_neg (by simp (disch := omega) only [nI_leI, nI_ltI, nI_eq, nI_add, nI_clamp, pk_sub, pk_mul, nI_m1, nI_le0, nI_lt0, nI_0le, nI_0lt, nI_z, inb_nI, decide_eq_true_eq]; omega), at_t h hn (by omega), Option.bind_some, bitCount_t (ho.2 j (by omega)), Option.bind_some]
      exact ⟨m - 1, by omega, j + 1, by omega, by rw [nI_add, nI_add]; rfl⟩
  · exact ⟨0, by omega, rfl⟩
theorem onesR_t {F : Nat} {M : Mm} {r : Rw} (hF : 100 ≤ F) (h : SqP (M 41) 0 r) (ho : okR r) : f_X7_ones F M = some (nI (onG r.2 r.1)) := by
  have hn := ho.1
  apply Ok.eq
  unfold f_X7_ones
  refine Ok.lpN (m0 := r.1) (fun m z => ∃ j, j + m = r.1 ∧ z = (nI (onG r.2 j), nI j)) ?_ ?_ (by omega)
  · rintro m z ⟨j, hj, rfl⟩
    dsimp only
    have e9 : Int32.toNatClampNeg (nI 0) = 0 := nI_clamp (by omega)
    rw [if_pos (in0 (by omega)), e9, h.1]
    by_cases hd : r.1 ≤ j
    · rw [if_pos (by simp (disch := omega) only [nI_leI, nI_ltI, nI_eq, nI_add, nI_clamp, pk_sub, pk_mul, nI_m1, nI_le0, nI_lt0, nI_0le, nI_0lt, nI_z, inb_nI, decide_eq_true_eq]; omega)]
      have e : r.1 = j := by omega
      rw [e]
      rfl
    · have e3 : nI 1 + nI j = nI (1 + j) := nI_add _ _
      have e4 : Int32.toNatClampNeg (nI (1 + j)) = 1 + j := nI_clamp (by omega)
      have hs := ho.2 j (by omega)
      rw [if_neg (by simp (disch := omega) only [nI_leI, nI_ltI, nI_eq, nI_add, nI_clamp, pk_sub, pk_mul, nI_m1, nI_le0, nI_lt0, nI_0le, nI_0lt, nI_z, inb_nI, decide_eq_true_eq]; omega)]
      refine Ok.lpN (m0 := 4) (fun m z => ∃ i, i + m = 4 ∧ z = (nI (onG r.2 j + bcP (r.2 j) i), nI i)) ?_ ?_ (by omega)
      · rintro m' z ⟨i, hi, rfl⟩
        dsimp only
        by_cases hd2 : 4 ≤ i
        · rw [if_pos (by simp (disch := omega) only [nI_leI, nI_ltI, nI_eq, nI_add, nI_clamp, pk_sub, pk_mul, nI_m1, nI_le0, nI_lt0, nI_0le, nI_0lt, nI_z, inb_nI, decide_eq_true_eq]; omega)]
          have e : i = 4 := by omega
          subst e
          exact ⟨m - 1, by omega, j + 1, by omega, by rw [nI_add]; rfl⟩
        · rw [if_neg (by simp (disch := omega) only [nI_leI, nI_ltI, nI_eq, nI_add, nI_clamp, pk_sub, pk_mul, nI_m1, nI_le0, nI_lt0, nI_0le, nI_0lt, nI_z, inb_nI, decide_eq_true_eq]; omega)]
          simp only [e3, e4, h.el (show j < r.1 by omega)]
          rw [if_pos (by simp (disch := omega) only [nI_leI, nI_ltI, nI_eq, nI_add, nI_clamp, pk_sub, pk_mul, nI_m1, nI_le0, nI_lt0, nI_0le, nI_0lt, nI_z, inb_nI, decide_eq_true_eq]; omega), bitR_t hs (by omega)]
          exact ⟨m' - 1, by omega, i + 1, by omega, by rw [nI_add, nI_add, Nat.add_assoc]; rfl⟩
      · exact ⟨0, by omega, rfl⟩
  · exact ⟨0, by omega, rfl⟩
theorem blocks_t {M : Mm} {r : Rw} (h : RwP M 1 r.1 r.2) : f_X6_blocks M = some (nI (r.1 + 7) / nI 8) := by
  unfold f_X6_blocks
  rw [size_t h, Option.bind_some, nI_add]
  have e : nI (r.1 + 8) - nI 1 = nI (r.1 + 7) := by
    simp (disch := omega) only [nI_leI, nI_ltI, nI_eq, nI_add, nI_clamp, pk_sub, pk_mul, nI_m1, nI_le0, nI_lt0, nI_0le, nI_0lt, nI_z, inb_nI, decide_eq_true_eq]
    rfl
  rw [e]
theorem blocksR_t {M : Mm} {r : Rw} (h : SqP (M 41) 0 r) : f_X7_blocks M = some (nI (r.1 + 7) / nI 8) := by
  unfold f_X7_blocks
  have e9 : Int32.toNatClampNeg (nI 0) = 0 := nI_clamp (by omega)
  rw [if_pos (in0 (by omega)), e9, h.1, nI_add]
theorem cnt0 (f : Nat → Nat) (n : Nat) : n - 0 = n := rfl
theorem op_count {F : Nat} {r : Rw} {h : Nat} {H : Nat → Rw} {t : Rw} (hF : 300 ≤ F) (ho : okR r) (ot : okT t) (i : Int32) : Op (f_X6_count F i) (f_X7_count F i) r h H t := by
  have hn := ho.1
  have hcl := fun v => Nat.le_trans (cnt_le r.2 0 v (r.1 - 0)) (show r.1 - 0 ≤ 60 by omega)
  generalize hV : (if i = nI 0 then nI r.1 else if i = nI 1 then nI (unl (cnt r.2 0 (r.1 - 0)) 16) else if i = nI 2 then nI (onG r.2 r.1) else if i = nI 3 then nI (r.1 + 7) / nI 8 else if i = nI 4 then nI h else if i = nI 5 then nI t.1 else -1000001) = V
  refine Op.same V ho ot (fun M x => ?_) (fun M x => ?_)
  · unfold f_X6_count
    rw [← hV]
    refine Ok.ifc (fun c0 => ?_) (fun c0 => ?_)
    · rw [if_pos c0, size_t x.1, Option.bind_some]
      exact ⟨rfl, fun _ _ => rfl⟩
    rw [if_neg c0]
    refine Ok.ifc (fun c0 => ?_) (fun c0 => ?_)
    · rw [if_pos c0, size_t x.1, Option.bind_some]
      refine Ok.bindI (fill_t (by omega) x.1 ho (by omega) (by omega) (by omega) (by omega)) ?_
      rintro M1 ⟨t1, t2⟩
      rw [unlike_t (by omega) t1 hcl, Option.bind_some]
      exact ⟨rfl, fun k hk => t2 k (by omega)⟩
    rw [if_neg c0]
    refine Ok.ifc (fun c0 => ?_) (fun c0 => ?_)
    · rw [if_pos c0, ones_t (by omega) x.1 ho, Option.bind_some]
      exact ⟨rfl, fun _ _ => rfl⟩
    rw [if_neg c0]
    refine Ok.ifc (fun c0 => ?_) (fun c0 => ?_)
    · rw [if_pos c0, blocks_t x.1, Option.bind_some]
      exact ⟨rfl, fun _ _ => rfl⟩
    rw [if_neg c0]
    refine Ok.ifc (fun c0 => ?_) (fun c0 => ?_)
    · rw [if_pos c0]
      unfold f_X0_size
      rw [Option.bind_some, x.2.1.1]
      exact ⟨rfl, fun _ _ => rfl⟩
    rw [if_neg c0]
    refine Ok.ifc (fun c0 => ?_) (fun c0 => ?_)
    · rw [if_pos c0]
      unfold f_X5_length
      rw [Option.bind_some, x.2.2.1]
      exact ⟨rfl, fun _ _ => rfl⟩
    rw [if_neg c0]
    exact ⟨rfl, fun _ _ => rfl⟩
  · unfold f_X7_count
    have e9 : Int32.toNatClampNeg (nI 0) = 0 := nI_clamp (by omega)
    rw [if_pos (in0 (by omega)), e9, x.1.1]
    refine Ok.bindI (counts_t (by omega) x.1 ho (by omega) (by omega)) ?_
    rintro M1 ⟨t1, t2⟩
    have x1 : SqP (M1 41) 0 r := by rw [t2 41 (by omega)]; exact x.1
    rw [← hV]
    refine Ok.ifc (fun c0 => ?_) (fun c0 => ?_)
    · rw [if_pos c0, if_pos (in0 (by omega)), x1.1]
      exact ⟨rfl, fr48 t2⟩
    rw [if_neg c0]
    refine Ok.ifc (fun c0 => ?_) (fun c0 => ?_)
    · rw [if_pos c0, unlikeR_t (by omega) t1 hcl, Option.bind_some]
      exact ⟨rfl, fr48 t2⟩
    rw [if_neg c0]
    refine Ok.ifc (fun c0 => ?_) (fun c0 => ?_)
    · rw [if_pos c0, onesR_t (by omega) x1 ho, Option.bind_some]
      exact ⟨rfl, fr48 t2⟩
    rw [if_neg c0]
    refine Ok.ifc (fun c0 => ?_) (fun c0 => ?_)
    · rw [if_pos c0, blocksR_t x1, Option.bind_some]
      exact ⟨rfl, fr48 t2⟩
    rw [if_neg c0]
    refine Ok.ifc (fun c0 => ?_) (fun c0 => ?_)
    · rw [if_pos c0]
      refine ⟨?_, fr48 t2⟩
      show M1 40 4 = _
      rw [t2 40 (by omega), x.2.1.1]
    rw [if_neg c0]
    refine Ok.ifc (fun c0 => ?_) (fun c0 => ?_)
    · rw [if_pos c0]
      refine ⟨?_, fr48 t2⟩
      show M1 40 6 = _
      rw [t2 40 (by omega), x.2.2.1]
    rw [if_neg c0]
    exact ⟨rfl, fr48 t2⟩
