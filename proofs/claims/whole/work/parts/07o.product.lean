def prG (f : Nat → Nat) (a : Nat) : Nat → Nat → Int64 → Int64
  | 0, _, p => p
  | m + 1, j, p => if lg_cmp p ((9223372036854775807 : Int64) / (Int32.toInt64 (nI (f (a + j) + 1)))) ≤ 0 then prG f a m (j + 1) (p * Int32.toInt64 (nI (f (a + j) + 1))) else -1000003
theorem nI_div {s : Nat} (h : s < 16) : ¬ Int32.toInt64 (nI (s + 1)) = 0 := by
  have : ∀ s, s < 16 → ¬ Int32.toInt64 (nI (s + 1)) = 0 := by decide +kernel
  exact this s h
theorem op_product {F : Nat} {r : Rw} {h : Nat} {H : Nat → Rw} {t : Rw} (hF : 300 ≤ F) (ho : okR r) (ot : okT t) (a b : Int32) : Op (rd (f_X6_product F a b)) (rd (f_X7_product F a b)) r h H t := by
  have hn := ho.1
  rcases span_cases a b (n := r.1) (by omega) with hs | ⟨a, b, rfl, rfl, hab, hb⟩
  · refine Op.err (-1000001) ho ot (fun M x => ?_) (fun M x => ?_)
    · unfold rd f_X6_product
      rw [hasSpan_f x.1 hs, Option.bind_some, if_pos (by decide)]
      rfl
    · unfold rd f_X7_product
      rw [isSpan_f x.1 hn hs, Option.bind_some, if_pos (by decide)]
      rfl
  · generalize hQ : prG r.2 a (b - a) 0 1 = Q
    refine Op.same Q ho ot (fun M x => rd_ok (v := Q) ?_ ⟨rfl, fun _ _ => rfl⟩) (fun M x => rd_ok (v := Q) ?_ ⟨rfl, rfl, rfl, fun _ _ => rfl⟩)
    · unfold f_X6_product
      rw [hasSpan_t x.1 hn hab hb, Option.bind_some, if_neg (by decide)]
      apply Ok.eq
      refine Ok.lpN (m0 := b - a) (fun m z => ∃ j p, j + m = b - a ∧ z = (p, nI (a + j)) ∧ prG r.2 a m j p = Q) ?_ ?_ (by omega)
      · rintro m z ⟨j, p, hj, rfl, hp⟩
        dsimp only
        by_cases hd : b ≤ a + j
        · rw [if_pos (by simp (disch := omega) only [nI_leI, nI_ltI, nI_eq, nI_add, nI_clamp, pk_sub, pk_mul, nI_m1, nI_le0, nI_lt0, nI_0le, nI_0lt, nI_z, inb_nI, decide_eq_true_eq]; omega)]
          have e : m = 0 := by omega
          subst e
          exact hp
        · obtain ⟨m, rfl⟩ : ∃ m', m = m' + 1 := ⟨m - 1, by omega⟩
          have hs2 := ho.2 (a + j) (by omega)
          rw [if_neg (by simp (disch := omega) only [nI_leI, nI_ltI, nI_eq, nI_add, nI_clamp, pk_sub, pk_mul, nI_m1, nI_le0, nI_lt0, nI_0le, nI_0lt, nI_z, inb_nI, decide_eq_true_eq]; omega), at_t x.1 hn (by omega), Option.bind_some]
          have e1 : nI (r.2 (a + j)) + nI 1 = nI (r.2 (a + j) + 1) := nI_add _ _
          have hdv := nI_div hs2
          simp only [e1]
          rw [if_neg (by simp (disch := omega) only [nI_leI, nI_ltI, nI_eq, nI_add, nI_clamp, pk_sub, pk_mul, nI_m1, nI_le0, nI_lt0, nI_0le, nI_0lt, nI_z, inb_nI, decide_eq_true_eq]; omega), if_pos hdv]
          unfold prG at hp
          by_cases hq : lg_cmp p ((9223372036854775807 : Int64) / (Int32.toInt64 (nI (r.2 (a + j) + 1)))) ≤ 0
          · rw [if_pos hq] at hp ⊢
            exact ⟨m, by omega, j + 1, _, by omega, by rw [nI_add, Nat.add_assoc], hp⟩
          · rw [if_neg hq] at hp ⊢
            exact hp
      · exact ⟨0, 1, by omega, rfl, hQ⟩
    · unfold f_X7_product
      rw [isSpan_t x.1 hn hab hb, Option.bind_some, if_neg (by decide)]
      apply Ok.eq
      refine Ok.lpN (m0 := b - a) (fun m z => ∃ j p, j + m = b - a ∧ z = (p, nI (a + j)) ∧ prG r.2 a m j p = Q) ?_ ?_ (by omega)
      · rintro m z ⟨j, p, hj, rfl, hp⟩
        dsimp only
        by_cases hd : b ≤ a + j
        · rw [if_pos (by simp (disch := omega) only [nI_leI, nI_ltI, nI_eq, nI_add, nI_clamp, pk_sub, pk_mul, nI_m1, nI_le0, nI_lt0, nI_0le, nI_0lt, nI_z, inb_nI, decide_eq_true_eq]; omega)]
          have e : m = 0 := by omega
          subst e
          exact hp
        · obtain ⟨m, rfl⟩ : ∃ m', m = m' + 1 := ⟨m - 1, by omega⟩
          have hs2 := ho.2 (a + j) (by omega)
          have e3 : nI 1 + nI (a + j) = nI (1 + (a + j)) := nI_add _ _
          have e4 : Int32.toNatClampNeg (nI (1 + (a + j))) = 1 + (a + j) := nI_clamp (by omega)
          have e1 : nI (r.2 (a + j)) + nI 1 = nI (r.2 (a + j) + 1) := nI_add _ _
          have hdv := nI_div hs2
          rw [if_neg (by simp (disch := omega) only [nI_leI, nI_ltI, nI_eq, nI_add, nI_clamp, pk_sub, pk_mul, nI_m1, nI_le0, nI_lt0, nI_0le, nI_0lt, nI_z, inb_nI, decide_eq_true_eq]; omega)]
          simp only [e3, e4, x.1.el (show a + j < r.1 by omega), e1]
          rw [if_pos (by simp (disch := omega) only [nI_leI, nI_ltI, nI_eq, nI_add, nI_clamp, pk_sub, pk_mul, nI_m1, nI_le0, nI_lt0, nI_0le, nI_0lt, nI_z, inb_nI, decide_eq_true_eq]; omega), if_pos hdv]
          unfold prG at hp
          by_cases hq : lg_cmp p ((9223372036854775807 : Int64) / (Int32.toInt64 (nI (r.2 (a + j) + 1)))) ≤ 0
          · rw [if_pos hq] at hp ⊢
            exact ⟨m, by omega, j + 1, _, by omega, by rw [nI_add, Nat.add_assoc], hp⟩
          · rw [if_neg hq] at hp ⊢
            exact hp
      · exact ⟨0, 1, by omega, rfl, hQ⟩
