/-- the reference's pictures: a row in an array, from a place on -/
def SqP (g : Nat → Int32) (o : Nat) (r : Rw) : Prop := g o = nI r.1 ∧ ∀ i, i < r.1 → g (o + 1 + i) = nI (r.2 i)
theorem SqP.el {g : Nat → Int32} {r : Rw} (h : SqP g 0 r) {i : Nat} (hi : i < r.1) : g (1 + i) = nI (r.2 i) := by
  have := h.2 i hi
  rwa [show 0 + 1 + i = 1 + i by omega] at this
def HsR (M : Mm) (h : Nat) (H : Nat → Rw) : Prop := M 40 4 = nI h ∧ h ≤ 4 ∧ ∀ j, j < h → SqP (M 42) (61 * j) (H j) ∧ okR (H j)
theorem HsR.keep {M M' : Mm} {h : Nat} {H : Nat → Rw} (x : HsR M h H) (e1 : M' 40 4 = M 40 4) (e2 : M' 42 = M 42) : HsR M' h H := ⟨by rw [e1]; exact x.1, x.2.1, fun j hj => by rw [e2]; exact x.2.2 j hj⟩
theorem in_t {j a b : Nat} (hb : b < 2 ^ 31) (h1 : a ≤ j) (h2 : j ≤ b) : f_X7_in (nI j) (nI a) (nI b) = some (nI 1) := by
  unfold f_X7_in
  simp (disch := omega) only [nI_leI, nI_ltI, nI_eq, nI_add, nI_clamp, pk_sub, pk_mul, nI_m1, nI_le0, nI_lt0, nI_0le, nI_0lt, nI_z, inb_nI, decide_eq_true_eq]
  (repeat' split) <;> first | rfl | (exfalso; omega) | omega | contradiction
theorem in_f {x lo hi : Int32} (h : x < lo ∨ hi < x) : f_X7_in x lo hi = some (nI 0) := by
  unfold f_X7_in
  by_cases h0 : x < lo
  · rw [if_pos h0]
  · rw [if_neg h0, if_pos (h.resolve_left h0)]
theorem in_f0 {x hi : Int32} (h : x < 0 ∨ hi < x) : f_X7_in x (nI 0) hi = some (nI 0) := in_f h
theorem ge_of {x : Int32} {n : Nat} (hn : n < 2 ^ 31) (h : nI n ≤ x) : ¬ x < 0 := by
  intro h0
  rw [Int32.lt_iff_toInt_lt] at h0
  rw [Int32.le_iff_toInt_le, nI_toInt hn] at h
  have : (0 : Int32).toInt = 0 := by decide
  omega
theorem lt_of_pred {x : Int32} {n : Nat} (hn : n ≤ 60) (h : nI n ≤ x) : nI n - nI 1 < x := by
  rw [Int32.lt_iff_toInt_lt, pk_sub_toInt (by omega) (by omega)]
  rw [Int32.le_iff_toInt_le, nI_toInt (by omega)] at h
  omega
theorem isPlace_t {M : Mm} {r : Rw} {j : Nat} (h : SqP (M 41) 0 r) (hn : r.1 ≤ 60) (hj : j < r.1) : f_X7_isPlace (nI j) M = some (nI 1) := by
  unfold f_X7_isPlace
  simp (disch := omega) only [nI_leI, nI_ltI, nI_eq, nI_add, nI_clamp, pk_sub, pk_mul, nI_m1, nI_le0, nI_lt0, nI_0le, nI_0lt, nI_z, inb_nI, decide_eq_true_eq, h.1]
  rw [if_pos (by omega), in_t (by omega) (by omega) (by omega), Option.bind_some, if_pos (by decide)]
theorem isPlace_f {M : Mm} {r : Rw} {a : Int32} (h : SqP (M 41) 0 r) (hn : r.1 ≤ 60) (ha : a < 0 ∨ nI r.1 ≤ a) : f_X7_isPlace a M = some (nI 0) := by
  unfold f_X7_isPlace
  have e : (Int32.toNatClampNeg (nI 0)) = 0 := nI_clamp (by omega)
  rw [if_pos (by simp (disch := omega) only [nI_leI, nI_ltI, nI_eq, nI_add, nI_clamp, pk_sub, pk_mul, nI_m1, nI_le0, nI_lt0, nI_0le, nI_0lt, nI_z, inb_nI, decide_eq_true_eq]; omega), e, h.1, in_f0 (ha.imp id (lt_of_pred hn)), Option.bind_some, if_pos (by decide)]
theorem isSpan_t {M : Mm} {r : Rw} {a b : Nat} (h : SqP (M 41) 0 r) (hn : r.1 ≤ 60) (hab : a ≤ b) (hb : b ≤ r.1) : f_X7_isSpan (nI a) (nI b) M = some (nI 1) := by
  unfold f_X7_isSpan
  simp (disch := omega) only [nI_leI, nI_ltI, nI_eq, nI_add, nI_clamp, pk_sub, pk_mul, nI_m1, nI_le0, nI_lt0, nI_0le, nI_0lt, nI_z, inb_nI, decide_eq_true_eq, h.1]
  (repeat' split) <;> first | rfl | (exfalso; omega) | omega | contradiction
theorem isSpan_f {M : Mm} {r : Rw} {a b : Int32} (h : SqP (M 41) 0 r) (hn : r.1 ≤ 60) (hab : a < 0 ∨ b < a ∨ nI r.1 < b) : f_X7_isSpan a b M = some (nI 0) := by
  unfold f_X7_isSpan
  have e : (Int32.toNatClampNeg (nI 0)) = 0 := nI_clamp (by omega)
  by_cases h0 : a < 0
  · rw [if_pos h0]
  · by_cases h1 : b < a
    · rw [if_neg h0, if_pos h1]
    · rw [if_neg h0, if_neg h1, if_pos (by simp (disch := omega) only [nI_leI, nI_ltI, nI_eq, nI_add, nI_clamp, pk_sub, pk_mul, nI_m1, nI_le0, nI_lt0, nI_0le, nI_0lt, nI_z, inb_nI, decide_eq_true_eq]; omega), e, h.1, if_pos ((hab.resolve_left h0).resolve_left h1)]
theorem keeps_t {F : Nat} {M : Mm} (hF : 100 ≤ F) : Ok (f_X7_keeps F M) (fun M' => (∀ i, i < 61 → M' 43 i = M 41 i) ∧ ∀ k, k ≠ 43 → M' k = M k) := by
  unfold f_X7_keeps
  refine Ok.lpN (m0 := 61) (fun m z => ∃ i, i + m = 61 ∧ z.1 = nI i ∧ (∀ j, j < i → z.2 43 j = M 41 j) ∧ ∀ k, k ≠ 43 → z.2 k = M k) ?_ ?_ (by omega)
  · rintro m ⟨a, M1⟩ ⟨i, hi, h1, h2, h3⟩
    dsimp only at h1 h2 h3 ⊢
    subst h1
    simp (disch := omega) only [nI_leI, nI_ltI, nI_eq, nI_add, nI_clamp, pk_sub, pk_mul, nI_m1, nI_le0, nI_lt0, nI_0le, nI_0lt, nI_z, inb_nI, decide_eq_true_eq]
    by_cases hc : 61 ≤ i
    · rw [if_pos hc]
      exact ⟨fun j hj => h2 j (by omega), h3⟩
    · rw [if_neg hc, if_pos (by omega), if_pos (by omega)]
      refine ⟨m - 1, by omega, i + 1, by omega, rfl, fun j hj => ?_, fun k g => ?_⟩
      · show up M1 43 i _ 43 j = _
        by_cases hj2 : j = i
        · subst hj2
          rw [up_ss, h3 41 (by omega)]
        · rw [up_sn hj2]
          exact h2 j (by omega)
      · show up M1 43 i _ k = _
        rw [up_n g]
        exact h3 k g
  · exact ⟨0, by omega, rfl, fun j hj => by omega, fun k _ => rfl⟩
theorem acted_f {F : Nat} {M : Mm} {a : Int32} (h : a ≤ (-1000001 : Int32)) : f_X7_acted F a M = some (a, M) := by
  unfold f_X7_acted
  rw [if_pos h]
theorem acted_t {F : Nat} {M : Mm} {h : Nat} {H : Nat → Rw} {r : Rw} {a : Int32} (hF : 300 ≤ F) (ha : ¬ a ≤ (-1000001 : Int32)) (x : HsR M h H) (hr : SqP (M 43) 0 r) (ho : okR r) : Ok (f_X7_acted F a M) (fun z => z.1 = a ∧ HsR z.2 (pshN h) (pshH h H r) ∧ (∀ i, i ≠ 4 → z.2 40 i = M 40 i) ∧ ∀ k, k ≠ 40 → k ≠ 42 → z.2 k = M k) := by
  unfold f_X7_acted
  rw [if_neg ha]
  have h4 := x.2.1
  have hr1 := ho.1
  refine Ok.jnI ?_
  have key : ∀ (M1 : Mm) (g : Nat) (G : Nat → Rw), g < 4 → HsR M1 g G → SqP (M1 43) 0 r → (∀ i, i ≠ 4 → M1 40 i = M 40 i) → (∀ k, k ≠ 40 → k ≠ 42 → M1 k = M k) → Ok (lpf (fun z5 : Int32 × Mm => if (nI 61) ≤ z5.1 then (some (.inr (a, (up z5.2 40 4 ((z5.2 40 4) + (nI 1)))))) else (if inb z5.1 61 = true then if inb (((nI 61) * (z5.2 40 4)) + z5.1) 244 = true then some (.inl ((z5.1 + (nI 1)), (up z5.2 42 (Int32.toNatClampNeg (((nI 61) * (z5.2 40 4)) + z5.1)) (z5.2 43 (Int32.toNatClampNeg z5.1))))) else none else none)) F ((nI 0), M1) : Option (Int32 × Mm)) (fun z => z.1 = a ∧ HsR z.2 (g + 1) (fun j => if j = g then r else G j) ∧ (∀ i, i ≠ 4 → z.2 40 i = M 40 i) ∧ ∀ k, k ≠ 40 → k ≠ 42 → z.2 k = M k) := by
    intro M1 g G hg y hr1' hf1 hf2
    refine Ok.lpN (m0 := 61) (fun m z => ∃ i, i + m = 61 ∧ z.1 = nI i ∧ z.2 40 4 = nI g ∧ (∀ j, j < i → z.2 42 (61 * g + j) = M1 43 j) ∧ (∀ j, j < 61 * g → z.2 42 j = M1 42 j) ∧ (∀ i, i ≠ 4 → z.2 40 i = M 40 i) ∧ (∀ k, k ≠ 40 → k ≠ 42 → z.2 k = M k) ∧ z.2 43 = M1 43) ?_ ?_ (by omega)
    · rintro m ⟨b, M2⟩ ⟨i, hi, h1, h2, h3, h5, h6, h7, h8⟩
      dsimp only at h1 h2 h3 h5 h6 h7 h8 ⊢
      subst h1
      simp (disch := omega) only [nI_leI, nI_ltI, nI_eq, nI_add, nI_clamp, pk_sub, pk_mul, nI_m1, nI_le0, nI_lt0, nI_0le, nI_0lt, nI_z, inb_nI, decide_eq_true_eq, h2]
      by_cases hc : 61 ≤ i
      · rw [if_pos hc]
        refine ⟨rfl, ⟨(show up M2 40 4 (nI (g + 1)) 40 4 = _ from up_ss), by omega, fun j hj => ?_⟩, fun i' hi' => ?_, fun k a1 a2 => ?_⟩
        · have e42 : up M2 40 4 (nI (g + 1)) 42 = M2 42 := up_n (by omega)
          show SqP (up M2 40 4 (nI (g + 1)) 42) _ _ ∧ _
          rw [e42]
          dsimp only
          by_cases hj2 : j = g
          · subst hj2
            rw [if_pos rfl]
            refine ⟨⟨?_, fun i' hi' => ?_⟩, ho⟩
            · have := h3 0 (by omega)
              rw [Nat.add_zero] at this
              rw [this]
              exact hr1'.1
            · have := h3 (1 + i') (by omega)
              rw [show 61 * j + 1 + i' = 61 * j + (1 + i') by omega, this]
              exact hr1'.el hi'
          · rw [if_neg hj2]
            have z := y.2.2 j (by omega)
            have z1 := z.2.1
            refine ⟨⟨?_, fun i' hi' => ?_⟩, z.2⟩
            · rw [h5 _ (by omega)]
              exact z.1.1
            · rw [h5 _ (by omega)]
              exact z.1.2 i' hi'
        · show up M2 40 4 _ 40 i' = _
          rw [up_sn hi']
          exact h6 i' hi'
        · show up M2 40 4 _ k = _
          rw [up_n a1]
          exact h7 k a1 a2
      · rw [if_neg hc, if_pos (by omega), if_pos (by omega)]
        refine ⟨m - 1, by omega, i + 1, by omega, rfl, ?_, fun j hj => ?_, fun j hj => ?_, fun i' hi' => ?_, fun k a1 a2 => ?_, ?_⟩
        · exact h2
        · show up M2 42 (61 * g + i) _ 42 (61 * g + j) = _
          by_cases hj2 : j = i
          · subst hj2
            rw [up_ss, h8]
          · rw [up_sn (by omega)]
            exact h3 j (by omega)
        · show up M2 42 (61 * g + i) _ 42 j = _
          rw [up_sn (by omega)]
          exact h5 j hj
        · exact h6 i' hi'
        · show up M2 42 (61 * g + i) _ k = _
          rw [up_n a2]
          exact h7 k a1 a2
        · exact h8
    · exact ⟨0, by omega, rfl, y.1, fun j hj => by omega, fun j _ => rfl, hf1, hf2, rfl⟩
  simp (disch := omega) only [nI_leI, nI_ltI, nI_eq, nI_add, nI_clamp, pk_sub, pk_mul, nI_m1, nI_le0, nI_lt0, nI_0le, nI_0lt, nI_z, inb_nI, decide_eq_true_eq, x.1]
  by_cases hc : h = 4
  · rw [if_pos hc]
    subst hc
    refine Ok.lpN (m0 := 183) (fun m z => ∃ i, i + m = 183 ∧ z.1 = nI i ∧ (∀ j, j < i → z.2 42 j = M 42 (j + 61)) ∧ (∀ j, i ≤ j → z.2 42 j = M 42 j) ∧ ∀ k, k ≠ 42 → z.2 k = M k) ?_ ?_ (by omega)
    · rintro m ⟨b, M2⟩ ⟨i, hi, h1, h2, h3, h5⟩
      dsimp only at h1 h2 h3 h5 ⊢
      subst h1
      simp (disch := omega) only [nI_leI, nI_ltI, nI_eq, nI_add, nI_clamp, pk_sub, pk_mul, nI_m1, nI_le0, nI_lt0, nI_0le, nI_0lt, nI_z, inb_nI, decide_eq_true_eq, h5 40 (by omega), x.1]
      by_cases hc : 183 ≤ i
      · rw [if_pos hc]
        have := key (up M2 40 4 (nI (4 - 1))) 3 (fun j => H (j + 1)) (by omega) ⟨up_ss, by omega, fun j hj => ?_⟩ ?_ (fun i' hi' => ?_) (fun k a1 a2 => ?_)
        · refine this.mono ?_
          rintro ⟨a', M'⟩ ⟨z1, z2, z3, z4⟩
          refine ⟨z1, ⟨z2.1, z2.2.1, fun j hj => ?_⟩, z3, z4⟩
          have h9 := z2.2.2 j hj
          have e2 : pshH 4 H r j = if j = 3 then r else H (j + 1) := by
            unfold pshH
            rw [if_neg (by omega)]
            by_cases hj3 : j < 3
            · rw [if_pos hj3, if_neg (by omega)]
            · rw [if_neg hj3, if_pos (by change j < 3 + 1 at hj; omega)]
          rw [e2]
          exact h9
        · have z := x.2.2 (j + 1) (by omega)
          have z1 := z.2.1
          have e42 : up M2 40 4 (nI (4 - 1)) 42 = M2 42 := up_n (by omega)
          rw [e42]
          refine ⟨⟨?_, fun i' hi' => ?_⟩, z.2⟩
          · rw [h2 _ (by omega), show 61 * j + 61 = 61 * (j + 1) by omega]
            exact z.1.1
          · dsimp only at hi'
            rw [h2 _ (by omega), show 61 * j + 1 + i' + 61 = 61 * (j + 1) + 1 + i' by omega]
            exact z.1.2 i' hi'
        · rw [show up M2 40 4 (nI (4 - 1)) 43 = M2 43 from up_n (by omega), h5 43 (by omega)]
          exact hr
        · rw [up_sn hi', h5 40 (by omega)]
        · rw [up_n a1]
          exact h5 k a2
      · rw [if_neg hc, if_pos (by omega), if_pos (by omega)]
        refine ⟨m - 1, by omega, i + 1, by omega, rfl, fun j hj => ?_, fun j hj => ?_, fun k a1 => ?_⟩
        · show up M2 42 i _ 42 j = _
          by_cases hj2 : j = i
          · subst hj2
            rw [up_ss]
            exact h3 _ (by omega)
          · rw [up_sn hj2]
            exact h2 j (by omega)
        · show up M2 42 i _ 42 j = _
          rw [up_sn (by omega)]
          exact h3 j (by omega)
        · show up M2 42 i _ k = _
          rw [up_n a1]
          exact h5 k a1
    · exact ⟨0, by omega, rfl, fun j hj => by omega, fun j _ => rfl, fun k _ => rfl⟩
  · rw [if_neg hc]
    have := key M h H (by omega) x hr (fun _ _ => rfl) (fun _ _ _ => rfl)
    show Ok _ _
    refine this.mono ?_
    rintro ⟨a', M'⟩ ⟨y0, y1, y2⟩
    have e1 : pshN h = h + 1 := if_pos (by omega)
    have e2 : pshH h H r = fun j => if j = h then r else H j := by
      funext j
      exact if_pos (by omega)
    rw [e1, e2]
    exact ⟨y0, y1, y2⟩
