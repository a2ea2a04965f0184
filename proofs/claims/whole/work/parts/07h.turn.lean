def rvF (f : Nat → Nat) (a b : Nat) : Nat → Nat → Nat
  | 0 => f
  | k + 1 => swpF (rvF f a b k) (a + k) (b - 1 - k)
def rvC (f : Nat → Nat) (a b : Nat) : Nat → Nat
  | 0 => 0
  | k + 1 => rvC f a b k + (if rvF f a b k (a + k) = rvF f a b k (b - 1 - k) then 0 else 1)
theorem rvC_le (f : Nat → Nat) (a b : Nat) : ∀ k, rvC f a b k ≤ k
  | 0 => Nat.le_refl 0
  | k + 1 => by
    have := rvC_le f a b k
    unfold rvC
    split <;> omega
theorem rvF_ok {n : Nat} {f : Nat → Nat} {a b : Nat} (ho : okR (n, f)) (hb : b ≤ n) : ∀ k, k ≤ (b - a) / 2 → okR (n, rvF f a b k)
  | 0, _ => ho
  | k + 1, hk => by
    have := rvF_ok (a := a) ho hb k (by omega)
    exact this.swp (a := a + k) (b := b - 1 - k) (by dsimp only; omega) (by dsimp only; omega)
theorem reverse_t {F : Nat} {M : Mm} {k a b : Nat} {r : Rw} (hF : 100 ≤ F) (h : RwP M k r.1 r.2) (ho : okR r) (hab : a ≤ b) (hb : b ≤ r.1) : Ok (f_X3_reverse F k (nI a) (nI b) M) (fun z => z.1 = nI (2 * rvC r.2 a b ((b - a) / 2)) ∧ RwP z.2 k r.1 (rvF r.2 a b ((b - a) / 2)) ∧ ∀ k', k' ≠ k → k' ≠ k + 1 → z.2 k' = M k') := by
  obtain ⟨n, f⟩ := r
  have hn := ho.1
  dsimp only at h hn hb ⊢
  unfold f_X3_reverse
  by_cases hb0 : b = 0
  · subst hb0
    have ha : a = 0 := by omega
    subst ha
    refine Ok.lpN (m0 := 0) (fun m z => z = (nI 0, nI 0 - nI 1, nI 0, M)) ?_ rfl (by omega)
    rintro m z rfl
    dsimp only
    rw [if_pos (by decide)]
    exact ⟨rfl, h, fun _ _ _ => rfl⟩
  · refine Ok.lpN (m0 := (b - a) / 2) (fun m z => ∃ j, j + m = (b - a) / 2 ∧ z.1 = nI (2 * rvC f a b j) ∧ z.2.1 = nI (b - 1 - j) ∧ z.2.2.1 = nI (a + j) ∧ RwP z.2.2.2 k n (rvF f a b j) ∧ ∀ k', k' ≠ k → k' ≠ k + 1 → z.2.2.2 k' = M k') ?_ ?_ (by omega)
    · rintro m ⟨x1, x2, x3, M1⟩ ⟨j, hj, h1, h2, h3, h4, h5⟩
      dsimp only at h1 h2 h3 h4 h5 ⊢
      subst h1 h2 h3
      have hc := rvC_le f a b j
      by_cases hm : m = 0
      · rw [if_pos (by simp (disch := omega) only [nI_leI, nI_ltI, nI_eq, nI_add, nI_clamp, pk_sub, pk_mul, nI_m1, nI_le0, nI_lt0, nI_0le, nI_0lt, nI_z, inb_nI, decide_eq_true_eq]; omega)]
        have e : (b - a) / 2 = j := by omega
        rw [e]
        exact ⟨rfl, h4, h5⟩
      · rw [if_neg (by simp (disch := omega) only [nI_leI, nI_ltI, nI_eq, nI_add, nI_clamp, pk_sub, pk_mul, nI_m1, nI_le0, nI_lt0, nI_0le, nI_0lt, nI_z, inb_nI, decide_eq_true_eq]; omega), at_t h4 hn (by omega), Option.bind_some, at_t h4 hn (by omega), Option.bind_some]
        have hk := rvF_ok (a := a) ho hb j (by omega)
        have s1 := hk.2 (a + j) (by dsimp only; omega)
        have s2 := hk.2 (b - 1 - j) (by dsimp only; omega)
        dsimp only at s1 s2
        have ex := exchange_t h4 hn (i := a + j) (j := b - 1 - j) (by omega) (by omega)
        have e0 : rvC f a b (j + 1) = rvC f a b j + (if rvF f a b j (a + j) = rvF f a b j (b - 1 - j) then 0 else 1) := rfl
        by_cases hq : rvF f a b j (a + j) = rvF f a b j (b - 1 - j)
        · rw [if_pos (by simp (disch := omega) only [nI_leI, nI_ltI, nI_eq, nI_add, nI_clamp, pk_sub, pk_mul, nI_m1, nI_le0, nI_lt0, nI_0le, nI_0lt, nI_z, inb_nI, decide_eq_true_eq]; exact hq)]
          refine Ok.bindI ex ?_
          rintro M2 ⟨g1, g2⟩
          rw [if_pos hq] at e0
          refine ⟨m - 1, by omega, j + 1, by omega, ?_, ?_, ?_, g1, fun k' a1 a2 => ?_⟩
          · show nI _ = nI _
            rw [e0, Nat.add_zero]
          · show nI (b - 1 - j) + (-1) = _
            rw [nI_m1 (by omega), show b - 1 - j - 1 = b - 1 - (j + 1) by omega]
          · show nI (a + j) + nI 1 = _
            rw [nI_add, show a + j + 1 = a + (j + 1) by omega]
          · show M2 k' = _
            rw [g2 k' a1 a2]
            exact h5 k' a1 a2
        · rw [if_neg (by simp (disch := omega) only [nI_leI, nI_ltI, nI_eq, nI_add, nI_clamp, pk_sub, pk_mul, nI_m1, nI_le0, nI_lt0, nI_0le, nI_0lt, nI_z, inb_nI, decide_eq_true_eq]; exact hq)]
          refine Ok.bindI ex ?_
          rintro M2 ⟨g1, g2⟩
          rw [if_neg hq] at e0
          refine ⟨m - 1, by omega, j + 1, by omega, ?_, ?_, ?_, g1, fun k' a1 a2 => ?_⟩
          · show nI _ + nI 2 = nI _
            rw [e0, nI_add, show 2 * rvC f a b j + 2 = 2 * (rvC f a b j + 1) by omega]
          · show nI (b - 1 - j) + (-1) = _
            rw [nI_m1 (by omega), show b - 1 - j - 1 = b - 1 - (j + 1) by omega]
          · show nI (a + j) + nI 1 = _
            rw [nI_add, show a + j + 1 = a + (j + 1) by omega]
          · show M2 k' = _
            rw [g2 k' a1 a2]
            exact h5 k' a1 a2
    · refine ⟨0, by omega, rfl, ?_, rfl, h, fun _ _ _ => rfl⟩
      show nI b - nI 1 = _
      rw [pk_sub (by omega), Nat.sub_zero]
theorem turns_t {F : Nat} {M : Mm} {a b : Nat} {r : Rw} (hF : 100 ≤ F) (h : SqP (M 41) 0 r) (ho : okR r) (hab : a ≤ b) (hb : b ≤ r.1) : Ok (f_X7_turns F (nI a) (nI b) M) (fun z => z.1 = nI (2 * rvC r.2 a b ((b - a) / 2)) ∧ SqP (z.2 41) 0 (r.1, rvF r.2 a b ((b - a) / 2)) ∧ ∀ k, k ≠ 41 → z.2 k = M k) := by
  obtain ⟨n, f⟩ := r
  have hn := ho.1
  dsimp only at hn hb ⊢
  unfold f_X7_turns
  rw [isSpan_t h hn hab hb, Option.bind_some, if_neg (by decide)]
  have ediv : (nI b - nI a) / nI 2 = nI ((b - a) / 2) := by
    rw [pk_sub hab, pk_div (by omega) (by omega) (by omega)]
  rw [ediv]
  refine Ok.lpN (m0 := (b - a) / 2) (fun m z => ∃ j, j + m = (b - a) / 2 ∧ z.1 = nI (2 * rvC f a b j) ∧ z.2.1 = nI j ∧ SqP (z.2.2 41) 0 (n, rvF f a b j) ∧ ∀ k, k ≠ 41 → z.2.2 k = M k) ?_ ?_ (by omega)
  · rintro m ⟨x1, x2, M1⟩ ⟨j, hj, h1, h2, h4, h5⟩
    dsimp only at h1 h2 h4 h5 ⊢
    subst h1 h2
    have hc := rvC_le f a b j
    by_cases hm : m = 0
    · rw [if_pos (by simp (disch := omega) only [nI_leI, nI_ltI, nI_eq, nI_add, nI_clamp, pk_sub, pk_mul, nI_m1, nI_le0, nI_lt0, nI_0le, nI_0lt, nI_z, inb_nI, decide_eq_true_eq]; omega)]
      have e : (b - a) / 2 = j := by omega
      rw [e]
      exact ⟨rfl, h4, h5⟩
    · rw [if_neg (by simp (disch := omega) only [nI_leI, nI_ltI, nI_eq, nI_add, nI_clamp, pk_sub, pk_mul, nI_m1, nI_le0, nI_lt0, nI_0le, nI_0lt, nI_z, inb_nI, decide_eq_true_eq]; omega)]
      have hk := rvF_ok (a := a) ho hb j (by omega)
      have e1 : nI a + nI j = nI (a + j) := nI_add a j
      have e2 : nI b - nI 1 - nI j = nI (b - 1 - j) := by rw [pk_sub (by omega), pk_sub (by omega)]
      rw [e1, e2]
      refine Ok.bindI (swaps_t h4 hk (i := a + j) (j := b - 1 - j) (by dsimp only; omega) (by dsimp only; omega)) ?_
      rintro ⟨v, M2⟩ ⟨g1, g2, g3⟩
      dsimp only at g1 g2 g3 ⊢
      subst g1
      refine ⟨m - 1, by omega, j + 1, by omega, ?_, ?_, g2, fun k' a1 => ?_⟩
      · show nI _ + nI 2 * nI _ = nI (2 * (rvC f a b j + _))
        rw [pk_mul, nI_add, Nat.mul_add]
      · exact nI_add j 1
      · show M2 k' = _
        rw [g3 k' a1]
        exact h5 k' a1
  · exact ⟨0, by omega, rfl, rfl, h, fun _ _ => rfl⟩
theorem op_turn {F : Nat} {r : Rw} {h : Nat} {H : Nat → Rw} {t : Rw} (hF : 300 ≤ F) (ho : okR r) (ot : okT t) (a b : Int32) : Op (f_X6_turn F a b) (f_X7_turn F a b) r h H t := by
  have hn := ho.1
  rcases span_cases a b (n := r.1) (by omega) with hs | ⟨i, j, rfl, rfl, hij, hj⟩
  · refine ⟨-1000001, r, h, H, t, ho, ot, fun M x => ?_, fun M x => ?_⟩
    · unfold f_X6_turn
      rw [hasSpan_f x.1 hs, Option.bind_some, if_pos (by decide)]
      exact ⟨rfl, x, fun _ _ => rfl⟩
    · exact ref_err hF x (by decide) (fun M1 hq => by
        unfold f_X7_turns
        rw [isSpan_f hq hn hs, Option.bind_some, if_pos (by decide)])
  · have hc := rvC_le r.2 i j ((j - i) / 2)
    refine ⟨nI (2 * rvC r.2 i j ((j - i) / 2)), (r.1, rvF r.2 i j ((j - i) / 2)), pshN h, pshH h H r, t, rvF_ok ho hj _ (Nat.le_refl _), ot, fun M x => ?_, fun M x => ?_⟩
    · unfold f_X6_turn
      rw [hasSpan_t x.1 hn hij hj, Option.bind_some, if_neg (by decide)]
      refine Ok.bindI (remember_t (by omega) x.2.1 x.1 ho (Or.inl rfl)) ?_
      rintro M1 ⟨y1, y2⟩
      refine Ok.bindI (reverse_t (by omega) (x.1.keep (y2 1 (by omega) (by omega)) (y2 2 (by omega) (by omega))) ho hij hj) ?_
      rintro ⟨v, M2⟩ ⟨z0, z1, z2⟩
      exact ⟨z0, x.edit y1 y2 z1 z2⟩
    · exact ref_edit hF x ho (nI_not_err (by omega)) (fun M1 hq => turns_t (by omega) hq ho hij hj)
