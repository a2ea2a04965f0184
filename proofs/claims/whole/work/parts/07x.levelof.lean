theorem place_cases (a : Int32) {n : Nat} (hn : n < 2 ^ 31) : (a < 0 ∨ nI n ≤ a) ∨ ∃ j : Nat, a = nI j ∧ j < n := lt_cases a hn
def lvV (f : Nat → Nat) (n L i q : Nat) : Int32 := if q = 0 then nI (f (og f n L i)) else if q = 1 then nI (f (og f n L i) / 2 ^ (3 - L) % 2) else if q = 2 then nI (glo f n L i) else nI (og f n L i)
theorem op_levelOf {F : Nat} {r : Rw} {h : Nat} {H : Nat → Rw} {t : Rw} (hF : 300 ≤ F) (ho : okR r) (ot : okT t) (a b i : Int32) : Op (f_X6_levelOf F a b i) (f_X7_levelOf F a b i) r h H t := by
  have hn := ho.1
  rcases le_cases a (n := 4) (by omega) with ha | ⟨L, rfl, hL⟩
  · refine Op.err (-1000001) ho ot (fun M x => ?_) (fun M x => ?_)
    · unfold f_X6_levelOf
      rw [isAtMost_f ha, Option.bind_some, if_pos (by decide)]
    · unfold f_X7_levelOf
      rw [in_f0 ha, Option.bind_some, if_pos (by decide)]
  rcases place_cases b (n := r.1) (by omega) with hb | ⟨j, rfl, hj⟩
  · refine Op.err (-1000001) ho ot (fun M x => ?_) (fun M x => ?_)
    · unfold f_X6_levelOf
      rw [isAtMost_t (by omega) hL, Option.bind_some, if_neg (by decide), hasPlace_f x.1 hb, Option.bind_some, if_pos (by decide)]
    · unfold f_X7_levelOf
      rw [in_t (by omega) (by omega) hL, Option.bind_some, if_neg (by decide), isPlace_f x.1 hn hb, Option.bind_some, if_pos (by decide)]
  rcases le_cases i (n := 3) (by omega) with hi | ⟨q, rfl, hq⟩
  · refine Op.err (-1000001) ho ot (fun M x => ?_) (fun M x => ?_)
    · unfold f_X6_levelOf
      rw [isAtMost_t (by omega) hL, Option.bind_some, if_neg (by decide), hasPlace_t x.1 hn hj, Option.bind_some, if_neg (by decide), isAtMost_f hi, Option.bind_some, if_pos (by decide)]
    · unfold f_X7_levelOf
      rw [in_t (by omega) (by omega) hL, Option.bind_some, if_neg (by decide), isPlace_t x.1 hn hj, Option.bind_some, if_neg (by decide), in_f0 hi, Option.bind_some, if_pos (by decide)]
  by_cases hN : L = 4 ∧ (q = 1 ∨ q = 2)
  · obtain ⟨hN1, hN2⟩ := hN
    refine Op.err (-1000004) ho ot (fun M x => ?_) (fun M x => ?_)
    · apply Ok.eq
      unfold f_X6_levelOf
      rw [isAtMost_t (by omega) hL, Option.bind_some, if_neg (by decide), hasPlace_t x.1 hn hj, Option.bind_some, if_neg (by decide), isAtMost_t (by omega) hq, Option.bind_some, if_neg (by decide)]
      refine Ok.jnI ?_
      rw [if_pos (by simp (disch := omega) only [nI_leI, nI_ltI, nI_eq, nI_add, nI_clamp, pk_sub, pk_mul, nI_m1, nI_le0, nI_lt0, nI_0le, nI_0lt, nI_z, inb_nI, decide_eq_true_eq]; omega)]
      by_cases h1 : q = 1
      · rw [if_pos (by simp (disch := omega) only [nI_leI, nI_ltI, nI_eq, nI_add, nI_clamp, pk_sub, pk_mul, nI_m1, nI_le0, nI_lt0, nI_0le, nI_0lt, nI_z, inb_nI, decide_eq_true_eq]; omega)]
        rfl
      · rw [if_neg (by simp (disch := omega) only [nI_leI, nI_ltI, nI_eq, nI_add, nI_clamp, pk_sub, pk_mul, nI_m1, nI_le0, nI_lt0, nI_0le, nI_0lt, nI_z, inb_nI, decide_eq_true_eq]; omega), if_pos (by simp (disch := omega) only [nI_leI, nI_ltI, nI_eq, nI_add, nI_clamp, pk_sub, pk_mul, nI_m1, nI_le0, nI_lt0, nI_0le, nI_0lt, nI_z, inb_nI, decide_eq_true_eq]; omega)]
        rfl
    · apply Ok.eq
      unfold f_X7_levelOf
      rw [in_t (by omega) (by omega) hL, Option.bind_some, if_neg (by decide), isPlace_t x.1 hn hj, Option.bind_some, if_neg (by decide), in_t (by omega) (by omega) hq, Option.bind_some, if_neg (by decide)]
      refine Ok.jnI ?_
      rw [if_pos (by simp (disch := omega) only [nI_leI, nI_ltI, nI_eq, nI_add, nI_clamp, pk_sub, pk_mul, nI_m1, nI_le0, nI_lt0, nI_0le, nI_0lt, nI_z, inb_nI, decide_eq_true_eq]; omega), in_t (by omega) (by omega) (by omega), Option.bind_some, if_neg (by decide)]
      rfl
  refine Op.same (lvV r.2 r.1 L j q) ho ot (fun M x => ?_) (fun M x => ?_)
  · unfold f_X6_levelOf
    rw [isAtMost_t (by omega) hL, Option.bind_some, if_neg (by decide), hasPlace_t x.1 hn hj, Option.bind_some, if_neg (by decide), isAtMost_t (by omega) hq, Option.bind_some, if_neg (by decide)]
    refine Ok.jnI ?_
    have hc : (if nI L = (nI 4) then (if nI q = (nI 1) then (some (.inr ((-1000004 : Int32), M))) else (if nI q = (nI 2) then (some (.inr ((-1000004 : Int32), M))) else (some (.inl ())))) else (some (.inl ())) : Option (Unit ⊕ (Int32 × Mm))) = some (.inl ()) := by
      by_cases h4 : L = 4
      · rw [if_pos (by simp (disch := omega) only [nI_leI, nI_ltI, nI_eq, nI_add, nI_clamp, pk_sub, pk_mul, nI_m1, nI_le0, nI_lt0, nI_0le, nI_0lt, nI_z, inb_nI, decide_eq_true_eq]; omega), if_neg (by simp (disch := omega) only [nI_leI, nI_ltI, nI_eq, nI_add, nI_clamp, pk_sub, pk_mul, nI_m1, nI_le0, nI_lt0, nI_0le, nI_0lt, nI_z, inb_nI, decide_eq_true_eq]; omega), if_neg (by simp (disch := omega) only [nI_leI, nI_ltI, nI_eq, nI_add, nI_clamp, pk_sub, pk_mul, nI_m1, nI_le0, nI_lt0, nI_0le, nI_0lt, nI_z, inb_nI, decide_eq_true_eq]; omega)]
      · rw [if_neg (by simp (disch := omega) only [nI_leI, nI_ltI, nI_eq, nI_add, nI_clamp, pk_sub, pk_mul, nI_m1, nI_le0, nI_lt0, nI_0le, nI_0lt, nI_z, inb_nI, decide_eq_true_eq]; omega)]
    rw [hc]
    refine Ok.inlI ?_
    refine Ok.bindI (build_t (by omega) x.1 ho) ?_
    rintro M1 ⟨⟨p1, p2, p3⟩, p4⟩
    have fr : ∀ k, (1 ≤ k ∧ k ≤ 10) ∨ k = 13 ∨ k = 37 ∨ k = 38 ∨ 40 ≤ k → M1 k = M k := fun k hk => p4 k (by omega)
    obtain ⟨s1, s2⟩ := p2 L hL j hj
    have hs := ho.2 _ (og_lt r.2 r.1 L j hj)
    unfold lvV
    by_cases h0 : q = 0
    · rw [if_pos (by simp (disch := omega) only [nI_leI, nI_ltI, nI_eq, nI_add, nI_clamp, pk_sub, pk_mul, nI_m1, nI_le0, nI_lt0, nI_0le, nI_0lt, nI_z, inb_nI, decide_eq_true_eq]; omega), if_pos h0]
      unfold f_X1_symbolOf
      rw [isOn_t hn p1 hL hj, Option.bind_some, if_neg (by decide), if_pos (by simp (disch := omega) only [nI_leI, nI_ltI, nI_eq, nI_add, nI_clamp, pk_sub, pk_mul, nI_m1, nI_le0, nI_lt0, nI_0le, nI_0lt, nI_z, inb_nI, decide_eq_true_eq]; omega), if_pos (by simp (disch := omega) only [nI_leI, nI_ltI, nI_eq, nI_add, nI_clamp, pk_sub, pk_mul, nI_m1, nI_le0, nI_lt0, nI_0le, nI_0lt, nI_z, inb_nI, decide_eq_true_eq]; omega), nI_clamp (by omega), nI_clamp (by omega), s1]
      exact ⟨rfl, fr⟩
    rw [if_neg (by simp (disch := omega) only [nI_leI, nI_ltI, nI_eq, nI_add, nI_clamp, pk_sub, pk_mul, nI_m1, nI_le0, nI_lt0, nI_0le, nI_0lt, nI_z, inb_nI, decide_eq_true_eq]; omega), if_neg h0]
    by_cases h1 : q = 1
    · rw [if_pos (by simp (disch := omega) only [nI_leI, nI_ltI, nI_eq, nI_add, nI_clamp, pk_sub, pk_mul, nI_m1, nI_le0, nI_lt0, nI_0le, nI_0lt, nI_z, inb_nI, decide_eq_true_eq]; omega), if_pos h1, bitOf_t (g := fun i => r.2 (og r.2 r.1 L i)) hn p1 (by omega) hj s1 hs, Option.bind_some]
      exact ⟨rfl, fr⟩
    rw [if_neg (by simp (disch := omega) only [nI_leI, nI_ltI, nI_eq, nI_add, nI_clamp, pk_sub, pk_mul, nI_m1, nI_le0, nI_lt0, nI_0le, nI_0lt, nI_z, inb_nI, decide_eq_true_eq]; omega), if_neg h1]
    by_cases h2 : q = 2
    · rw [if_pos (by simp (disch := omega) only [nI_leI, nI_ltI, nI_eq, nI_add, nI_clamp, pk_sub, pk_mul, nI_m1, nI_le0, nI_lt0, nI_0le, nI_0lt, nI_z, inb_nI, decide_eq_true_eq]; omega), if_pos h2]
      unfold f_X1_goalOf
      rw [hasBits_t (by omega), Option.bind_some, if_neg (by decide), isOn_t hn p1 hL hj, Option.bind_some, if_neg (by decide), if_pos (by simp (disch := omega) only [nI_leI, nI_ltI, nI_eq, nI_add, nI_clamp, pk_sub, pk_mul, nI_m1, nI_le0, nI_lt0, nI_0le, nI_0lt, nI_z, inb_nI, decide_eq_true_eq]; omega), if_pos (by simp (disch := omega) only [nI_leI, nI_ltI, nI_eq, nI_add, nI_clamp, pk_sub, pk_mul, nI_m1, nI_le0, nI_lt0, nI_0le, nI_0lt, nI_z, inb_nI, decide_eq_true_eq]; omega), nI_clamp (by omega), nI_clamp (by omega), p3 L (by omega) j hj]
      exact ⟨rfl, fr⟩
    rw [if_neg (by simp (disch := omega) only [nI_leI, nI_ltI, nI_eq, nI_add, nI_clamp, pk_sub, pk_mul, nI_m1, nI_le0, nI_lt0, nI_0le, nI_0lt, nI_z, inb_nI, decide_eq_true_eq]; omega), if_neg h2]
    unfold f_X1_originOf
    rw [isOn_t hn p1 hL hj, Option.bind_some, if_neg (by decide), if_pos (by simp (disch := omega) only [nI_leI, nI_ltI, nI_eq, nI_add, nI_clamp, pk_sub, pk_mul, nI_m1, nI_le0, nI_lt0, nI_0le, nI_0lt, nI_z, inb_nI, decide_eq_true_eq]; omega), if_pos (by simp (disch := omega) only [nI_leI, nI_ltI, nI_eq, nI_add, nI_clamp, pk_sub, pk_mul, nI_m1, nI_le0, nI_lt0, nI_0le, nI_0lt, nI_z, inb_nI, decide_eq_true_eq]; omega), nI_clamp (by omega), nI_clamp (by omega), s2]
    exact ⟨rfl, fr⟩
  · unfold f_X7_levelOf
    rw [in_t (by omega) (by omega) hL, Option.bind_some, if_neg (by decide), isPlace_t x.1 hn hj, Option.bind_some, if_neg (by decide), in_t (by omega) (by omega) hq, Option.bind_some, if_neg (by decide)]
    refine Ok.jnI ?_
    have hc : (if nI L = (nI 4) then ((f_X7_in (nI q) (nI 1) (nI 2)).bind fun r8 => if r8 = 0 then (some (.inl ())) else (some (.inr ((-1000004 : Int32), M)))) else (some (.inl ())) : Option (Unit ⊕ (Int32 × Mm))) = some (.inl ()) := by
      by_cases h4 : L = 4
      · have hq03 : q = 0 ∨ q = 3 := by omega
        have e : f_X7_in (nI q) (nI 1) (nI 2) = some (nI 0) := by
          rcases hq03 with e | e <;> rw [e] <;> decide
        rw [if_pos (by simp (disch := omega) only [nI_leI, nI_ltI, nI_eq, nI_add, nI_clamp, pk_sub, pk_mul, nI_m1, nI_le0, nI_lt0, nI_0le, nI_0lt, nI_z, inb_nI, decide_eq_true_eq]; omega), e, Option.bind_some, if_pos (by decide)]
      · rw [if_neg (by simp (disch := omega) only [nI_leI, nI_ltI, nI_eq, nI_add, nI_clamp, pk_sub, pk_mul, nI_m1, nI_le0, nI_lt0, nI_0le, nI_0lt, nI_z, inb_nI, decide_eq_true_eq]; omega)]
    rw [hc]
    refine Ok.inlI ?_
    refine Ok.bindI (lays_t (by omega) x.1 ho) ?_
    rintro M1 ⟨⟨p2, p3⟩, p4⟩
    have fr : M1 40 4 = M 40 4 ∧ M1 40 6 = M 40 6 ∧ ∀ k, k < 40 ∨ k = 41 ∨ k = 42 ∨ k = 45 → M1 k = M k := ⟨by rw [p4 40 (by omega) (by omega)], by rw [p4 40 (by omega) (by omega)], fun k hk => p4 k (by omega) (by omega)⟩
    have x1 : SqP (M1 41) 0 r := by
      rw [p4 41 (by omega) (by omega)]
      exact x.1
    have hol := og_lt r.2 r.1 L j hj
    have s2 := p2 L hL j hj
    have e1 : nI 60 * nI L + nI j = nI (60 * L + j) := by simp (disch := omega) only [nI_leI, nI_ltI, nI_eq, nI_add, nI_clamp, pk_sub, pk_mul, nI_m1, nI_le0, nI_lt0, nI_0le, nI_0lt, nI_z, inb_nI, decide_eq_true_eq]
    have e2 : Int32.toNatClampNeg (nI (60 * L + j)) = 60 * L + j := nI_clamp (by omega)
    have e3 : nI 1 + nI (og r.2 r.1 L j) = nI (1 + og r.2 r.1 L j) := nI_add _ _
    have e4 : Int32.toNatClampNeg (nI (1 + og r.2 r.1 L j)) = 1 + og r.2 r.1 L j := nI_clamp (by omega)
    unfold lvV
    by_cases h0 : q = 0
    · rw [if_pos (by simp (disch := omega) only [nI_leI, nI_ltI, nI_eq, nI_add, nI_clamp, pk_sub, pk_mul, nI_m1, nI_le0, nI_lt0, nI_0le, nI_0lt, nI_z, inb_nI, decide_eq_true_eq]; omega), if_pos h0]
      simp only [e1, e2, s2, e3, e4, x1.el hol]
      rw [if_pos (by simp (disch := omega) only [nI_leI, nI_ltI, nI_eq, nI_add, nI_clamp, pk_sub, pk_mul, nI_m1, nI_le0, nI_lt0, nI_0le, nI_0lt, nI_z, inb_nI, decide_eq_true_eq]; omega), if_pos (by simp (disch := omega) only [nI_leI, nI_ltI, nI_eq, nI_add, nI_clamp, pk_sub, pk_mul, nI_m1, nI_le0, nI_lt0, nI_0le, nI_0lt, nI_z, inb_nI, decide_eq_true_eq]; omega)]
      exact ⟨rfl, fr⟩
    rw [if_neg (by simp (disch := omega) only [nI_leI, nI_ltI, nI_eq, nI_add, nI_clamp, pk_sub, pk_mul, nI_m1, nI_le0, nI_lt0, nI_0le, nI_0lt, nI_z, inb_nI, decide_eq_true_eq]; omega), if_neg h0]
    by_cases h1 : q = 1
    · rw [if_pos (by simp (disch := omega) only [nI_leI, nI_ltI, nI_eq, nI_add, nI_clamp, pk_sub, pk_mul, nI_m1, nI_le0, nI_lt0, nI_0le, nI_0lt, nI_z, inb_nI, decide_eq_true_eq]; omega), if_pos h1, bit7_t x1 ho (by omega) hj s2 hol, Option.bind_some]
      exact ⟨rfl, fr⟩
    rw [if_neg (by simp (disch := omega) only [nI_leI, nI_ltI, nI_eq, nI_add, nI_clamp, pk_sub, pk_mul, nI_m1, nI_le0, nI_lt0, nI_0le, nI_0lt, nI_z, inb_nI, decide_eq_true_eq]; omega), if_neg h1]
    by_cases h2 : q = 2
    · rw [if_pos (by simp (disch := omega) only [nI_leI, nI_ltI, nI_eq, nI_add, nI_clamp, pk_sub, pk_mul, nI_m1, nI_le0, nI_lt0, nI_0le, nI_0lt, nI_z, inb_nI, decide_eq_true_eq]; omega), if_pos h2]
      simp only [e1, e2, p3 L (by omega) j hj]
      rw [if_pos (by simp (disch := omega) only [nI_leI, nI_ltI, nI_eq, nI_add, nI_clamp, pk_sub, pk_mul, nI_m1, nI_le0, nI_lt0, nI_0le, nI_0lt, nI_z, inb_nI, decide_eq_true_eq]; omega)]
      exact ⟨rfl, fr⟩
    rw [if_neg (by simp (disch := omega) only [nI_leI, nI_ltI, nI_eq, nI_add, nI_clamp, pk_sub, pk_mul, nI_m1, nI_le0, nI_lt0, nI_0le, nI_0lt, nI_z, inb_nI, decide_eq_true_eq]; omega), if_neg h2]
    simp only [e1, e2, s2]
    rw [if_pos (by simp (disch := omega) only [nI_leI, nI_ltI, nI_eq, nI_add, nI_clamp, pk_sub, pk_mul, nI_m1, nI_le0, nI_lt0, nI_0le, nI_0lt, nI_z, inb_nI, decide_eq_true_eq]; omega)]
    exact ⟨rfl, fr⟩
