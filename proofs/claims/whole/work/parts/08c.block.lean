theorem i_div8 : ∀ n, n < 68 → nI n / nI 8 = nI (n / 8) := by decide +kernel
theorem i_rem8 : ∀ n, n < 68 → (nI n - nI (n / 8) * nI 8) &&& 31 = nI (n % 8) := by decide +kernel
theorem i_or8 : ∀ m, m < 8 → ∀ x, x < 128 → x < 2 ^ m → ∀ c, c < 2 → nI x ||| (nI c <<< nI m) = nI (x + c * 2 ^ m) := by decide +kernel
theorem ones_pk {F : Nat} {M : Mm} {L s e : Nat} {b : Nat → Nat} (hb : ∀ i, b i < 2) (hse : s ≤ e) (he : e ≤ 60) (h : f_X1_packed F (nI L) (nI s) (nI e) M = some (Int64.ofNat (pkL b s (e - s)))) : f_X1_ones F (nI L) (nI s) (nI e) M = some (nI (sm b s (e - s))) := by
  unfold f_X1_ones
  rw [h, Option.bind_some]
  have hx : pkL b s (e - s) < 256 ^ 8 := by
    have h1 := pkL_lt (b := b) (s := s) (e - s) (fun i _ => hb _)
    have h2 : 2 ^ (e - s) ≤ 2 ^ 60 := Nat.pow_le_pow_right (by omega) (by omega)
    have h3 : (2 : Nat) ^ 60 < 256 ^ 8 := by decide +kernel
    omega
  have h5 := pkLF_eq b s (e - s) 0
  rw [show pkL b s 0 = 0 from rfl, Nat.pow_zero, Nat.one_mul, Nat.zero_add, Nat.zero_add, Nat.add_zero] at h5
  rw [show f_J13_bitCount_95d88 (Int64.ofNat (pkL b s (e - s))) = _ from bc64_t hx, Option.bind_some, ← h5, popN_pk hb _ _ _ (by omega)]
theorem op_blockOf {F : Nat} {r : Rw} {h : Nat} {H : Nat → Rw} {t : Rw} (hF : 300 ≤ F) (ho : okR r) (ot : okT t) (a b i : Int32) : Op (f_X6_blockOf F a b i) (f_X7_blockOf F a b i) r h H t := by
  have hn := ho.1
  rcases lt_cases a (n := 4) (by omega) with ha | ⟨L, rfl, hL⟩
  · refine Op.err (-1000001) ho ot (fun M x => ?_) (fun M x => ?_)
    · unfold f_X6_blockOf
      rw [hasBits_f ha, Option.bind_some, if_pos (by decide)]
    · unfold f_X7_blockOf
      rw [in_f0 (ha.imp id (fun h => lt_3 h)), Option.bind_some, if_pos (by decide)]
  by_cases hb0 : b < 0
  · refine Op.err (-1000001) ho ot (fun M x => ?_) (fun M x => ?_)
    · unfold f_X6_blockOf
      rw [hasBits_t hL, Option.bind_some, if_neg (by decide), if_pos hb0]
    · unfold f_X7_blockOf
      rw [in_t (by omega) (by omega) (by omega), Option.bind_some, if_neg (by decide), if_pos hb0]
  obtain ⟨B, hB, rfl⟩ := nI_of hb0
  rcases le_cases i (n := 2) (by omega) with hi | ⟨q, rfl, hq⟩
  · refine Op.err (-1000001) ho ot (fun M x => ?_) (fun M x => ?_)
    · unfold f_X6_blockOf
      rw [hasBits_t hL, Option.bind_some, if_neg (by decide), if_neg hb0, isAtMost_f hi, Option.bind_some, if_pos (by decide)]
    · unfold f_X7_blockOf
      rw [in_t (by omega) (by omega) (by omega), Option.bind_some, if_neg (by decide), if_neg hb0, in_f0 hi, Option.bind_some, if_pos (by decide)]
  have e8 : nI (r.1 + 7) / nI 8 = nI ((r.1 + 7) / 8) := i_div8 _ (by omega)
  by_cases hc : ¬ B < (r.1 + 7) / 8
  · refine Op.err (-1000004) ho ot (fun M x => ?_) (fun M x => ?_)
    · unfold f_X6_blockOf
      rw [hasBits_t hL, Option.bind_some, if_neg (by decide), if_neg hb0, isAtMost_t (by omega) hq, Option.bind_some, if_neg (by decide), blocks_t x.1, Option.bind_some, e8, if_neg (by simp (disch := omega) only [nI_leI, nI_ltI, nI_eq, nI_add, nI_clamp, pk_sub, pk_mul, nI_m1, nI_le0, nI_lt0, nI_0le, nI_0lt, nI_z, inb_nI, decide_eq_true_eq]; omega)]
    · unfold f_X7_blockOf
      rw [in_t (by omega) (by omega) (by omega), Option.bind_some, if_neg (by decide), if_neg hb0, in_t (by omega) (by omega) hq, Option.bind_some, if_neg (by decide), blocksR_t x.1, Option.bind_some, e8, if_neg (by simp (disch := omega) only [nI_leI, nI_ltI, nI_eq, nI_add, nI_clamp, pk_sub, pk_mul, nI_m1, nI_le0, nI_lt0, nI_0le, nI_0lt, nI_z, inb_nI, decide_eq_true_eq]; omega)]
  have hc : B < (r.1 + 7) / 8 := Decidable.not_not.mp hc
  have hb2 := btL_lt r.2 (og r.2 r.1 L) L
  obtain ⟨E, hE⟩ : ∃ E, E = if r.1 < B * 8 + 8 then r.1 else B * 8 + 8 := ⟨_, rfl⟩
  have hE1 : B * 8 ≤ E ∧ E ≤ r.1 ∧ E - B * 8 = min (r.1 - B * 8) 8 := by
    rw [hE]
    split <;> omega
  generalize hV : (if q = 0 then nI (pkL (btL r.2 (og r.2 r.1 L) L) (B * 8) (E - B * 8)) else if q = 1 then nI (sm (btL r.2 (og r.2 r.1 L) L) (B * 8) (E - B * 8)) else nI (sm (btL r.2 (og r.2 r.1 L) L) 0 (B * 8 - 0))) = V
  refine Op.same V ho ot (fun M x => ?_) (fun M x => ?_)
  · unfold f_X6_blockOf
    rw [hasBits_t hL, Option.bind_some, if_neg (by decide), if_neg hb0, isAtMost_t (by omega) hq, Option.bind_some, if_neg (by decide), blocks_t x.1, Option.bind_some, e8, if_pos (by simp (disch := omega) only [nI_leI, nI_ltI, nI_eq, nI_add, nI_clamp, pk_sub, pk_mul, nI_m1, nI_le0, nI_lt0, nI_0le, nI_0lt, nI_z, inb_nI, decide_eq_true_eq]; omega)]
    refine Ok.bindI (build_t (by omega) x.1 ho) ?_
    rintro M1 ⟨⟨p1, p2, p3⟩, p4⟩
    have fr : ∀ k, (1 ≤ k ∧ k ≤ 10) ∨ k = 13 ∨ k = 37 ∨ k = 38 ∨ 40 ≤ k → M1 k = M k := fun k hk => p4 k (by omega)
    have x1 : RwP M1 1 r.1 r.2 := x.1.keep (p4 1 (by omega)) (p4 2 (by omega))
    have pk : ∀ s e, s ≤ e → e ≤ r.1 → f_X1_packed F (nI L) (nI s) (nI e) M1 = some (Int64.ofNat (pkL (btL r.2 (og r.2 r.1 L) L) s (e - s))) := fun s e h1 h2 => packed_t (g := fun i => r.2 (og r.2 r.1 L i)) (by omega) hn p1 hL h1 h2 (fun i hi => ⟨(p2 L (by omega) i hi).1, ho.2 _ (og_lt r.2 r.1 L i hi)⟩)
    have eT : (if nI r.1 < ((nI B * (nI 8)) + (nI 8)) then nI r.1 else ((nI B * (nI 8)) + (nI 8))) = nI E := by
      rw [hE]
      simp (disch := omega) only [nI_leI, nI_ltI, nI_eq, nI_add, nI_clamp, pk_sub, pk_mul, nI_m1, nI_le0, nI_lt0, nI_0le, nI_0lt, nI_z, inb_nI, decide_eq_true_eq]
      split <;> rfl
    have eS : nI B * nI 8 = nI (B * 8) := by simp (disch := omega) only [nI_leI, nI_ltI, nI_eq, nI_add, nI_clamp, pk_sub, pk_mul, nI_m1, nI_le0, nI_lt0, nI_0le, nI_0lt, nI_z, inb_nI, decide_eq_true_eq]
    rw [size_t x1, Option.bind_some, eT, eS, ← hV]
    by_cases q0 : q = 0
    · rw [if_pos (by rw [q0]; rfl), if_pos q0, pk _ _ hE1.1 hE1.2.1, Option.bind_some]
      exact ⟨lN_i _, fr⟩
    by_cases q1 : q = 1
    · rw [if_neg (by simp (disch := omega) only [nI_leI, nI_ltI, nI_eq, nI_add, nI_clamp, pk_sub, pk_mul, nI_m1, nI_le0, nI_lt0, nI_0le, nI_0lt, nI_z, inb_nI, decide_eq_true_eq]; exact q0), if_neg q0, if_pos (by rw [q1]), if_pos q1, ones_pk hb2 hE1.1 (by omega) (pk _ _ hE1.1 hE1.2.1), Option.bind_some]
      exact ⟨rfl, fr⟩
    · rw [if_neg (by simp (disch := omega) only [nI_leI, nI_ltI, nI_eq, nI_add, nI_clamp, pk_sub, pk_mul, nI_m1, nI_le0, nI_lt0, nI_0le, nI_0lt, nI_z, inb_nI, decide_eq_true_eq]; exact q0), if_neg q0, if_neg (by simp (disch := omega) only [nI_leI, nI_ltI, nI_eq, nI_add, nI_clamp, pk_sub, pk_mul, nI_m1, nI_le0, nI_lt0, nI_0le, nI_0lt, nI_z, inb_nI, decide_eq_true_eq]; exact q1), if_neg q1, ones_pk hb2 (by omega) (by omega) (pk 0 (B * 8) (by omega) (by omega)), Option.bind_some]
      exact ⟨rfl, fr⟩
  · unfold f_X7_blockOf
    rw [in_t (by omega) (by omega) (by omega), Option.bind_some, if_neg (by decide), if_neg hb0, in_t (by omega) (by omega) hq, Option.bind_some, if_neg (by decide), blocksR_t x.1, Option.bind_some, e8, if_pos (by simp (disch := omega) only [nI_leI, nI_ltI, nI_eq, nI_add, nI_clamp, pk_sub, pk_mul, nI_m1, nI_le0, nI_lt0, nI_0le, nI_0lt, nI_z, inb_nI, decide_eq_true_eq]; omega)]
    refine Ok.bindI (lays_t (by omega) x.1 ho) ?_
    rintro M1 ⟨⟨p2, p3⟩, p4⟩
    have fr : M1 40 4 = M 40 4 ∧ M1 40 6 = M 40 6 ∧ ∀ k, k < 40 ∨ k = 41 ∨ k = 42 ∨ k = 45 → M1 k = M k := ⟨by rw [p4 40 (by omega) (by omega)], by rw [p4 40 (by omega) (by omega)], fun k hk => p4 k (by omega) (by omega)⟩
    have x1 : SqP (M1 41) 0 r := by
      rw [p4 41 (by omega) (by omega)]
      exact x.1
    have bt := fun j (hj : j < r.1) => bit7_t x1 ho hL hj (p2 L (by omega) j hj) (og_lt r.2 r.1 L j hj)
    have e9 : Int32.toNatClampNeg (nI 0) = 0 := nI_clamp (by omega)
    refine Ok.lpN (m0 := r.1) (fun m z => ∃ j, j + m = r.1 ∧ z.1 = nI (pkL (btL r.2 (og r.2 r.1 L) L) (B * 8) (min (j - B * 8) 8)) ∧ z.2.1 = nI (sm (btL r.2 (og r.2 r.1 L) L) (B * 8) (min (j - B * 8) 8)) ∧ z.2.2.1 = nI (sm (btL r.2 (og r.2 r.1 L) L) 0 (min j (B * 8))) ∧ z.2.2.2 = nI j) ?_ ?_ (by omega)
    · intro m z hz
      obtain ⟨z1, z2, z3, z4⟩ := z
      obtain ⟨j, hj, h1, h2, h3, h4⟩ := hz
      dsimp only at h1 h2 h3 h4 ⊢
      subst h4
      rw [if_pos (in0 (by omega)), e9, x1.1]
      by_cases hd : r.1 ≤ j
      · have j1 : j = r.1 := by omega
        subst j1
        have j2 : min r.1 (B * 8) = B * 8 - 0 := by omega
        rw [if_pos (by simp (disch := omega) only [nI_leI, nI_ltI, nI_eq, nI_add, nI_clamp, pk_sub, pk_mul, nI_m1, nI_le0, nI_lt0, nI_0le, nI_0lt, nI_z, inb_nI, decide_eq_true_eq]; omega), ← hV, hE1.2.2, h1, h2, h3, j2]
        by_cases q0 : q = 0
        · rw [if_pos (by rw [q0]; rfl), if_pos q0]
          exact ⟨rfl, fr⟩
        by_cases q1 : q = 1
        · rw [if_neg (by simp (disch := omega) only [nI_leI, nI_ltI, nI_eq, nI_add, nI_clamp, pk_sub, pk_mul, nI_m1, nI_le0, nI_lt0, nI_0le, nI_0lt, nI_z, inb_nI, decide_eq_true_eq]; exact q0), if_neg q0, if_pos (by rw [q1]), if_pos q1]
          exact ⟨rfl, fr⟩
        · rw [if_neg (by simp (disch := omega) only [nI_leI, nI_ltI, nI_eq, nI_add, nI_clamp, pk_sub, pk_mul, nI_m1, nI_le0, nI_lt0, nI_0le, nI_0lt, nI_z, inb_nI, decide_eq_true_eq]; exact q0), if_neg q0, if_neg (by simp (disch := omega) only [nI_leI, nI_ltI, nI_eq, nI_add, nI_clamp, pk_sub, pk_mul, nI_m1, nI_le0, nI_lt0, nI_0le, nI_0lt, nI_z, inb_nI, decide_eq_true_eq]; exact q1), if_neg q1]
          exact ⟨rfl, fr⟩
      · have hbt := bt j (by omega)
        have eb : r.2 (og r.2 r.1 L j) / 2 ^ (3 - L) % 2 = btL r.2 (og r.2 r.1 L) L j := rfl
        rw [eb] at hbt
        generalize btL r.2 (og r.2 r.1 L) L = bb at *
        have hbj := hb2 j
        rw [if_neg (by simp (disch := omega) only [nI_leI, nI_ltI, nI_eq, nI_add, nI_clamp, pk_sub, pk_mul, nI_m1, nI_le0, nI_lt0, nI_0le, nI_0lt, nI_z, inb_nI, decide_eq_true_eq]; omega), hbt, Option.bind_some]
        have e88 : nI 8 * nI B = nI (8 * B) := by simp (disch := omega) only [nI_leI, nI_ltI, nI_eq, nI_add, nI_clamp, pk_sub, pk_mul, nI_m1, nI_le0, nI_lt0, nI_0le, nI_0lt, nI_z, inb_nI, decide_eq_true_eq]
        rw [e88, i_div8 j (by omega)]
        refine Ok.jnI ?_
        by_cases c1 : 8 * B ≤ j
        · rw [if_pos (by simp (disch := omega) only [nI_leI, nI_ltI, nI_eq, nI_add, nI_clamp, pk_sub, pk_mul, nI_m1, nI_le0, nI_lt0, nI_0le, nI_0lt, nI_z, inb_nI, decide_eq_true_eq]; omega)]
          refine Ok.inlI ?_
          have s1 : min (j + 1) (B * 8) = min j (B * 8) := by omega
          by_cases c2 : j / 8 = B
          · rw [if_pos (by rw [c2])]
            refine Ok.inlI ⟨m - 1, by omega, j + 1, by omega, ?_, ?_, ?_, nI_add j 1⟩
            · have s2 : min (j - B * 8) 8 = j - B * 8 := by omega
              have s3 : min (j + 1 - B * 8) 8 = (j - B * 8) + 1 := by omega
              have s4 : j % 8 = j - B * 8 := by omega
              have s5 : B * 8 + (j - B * 8) = j := by omega
              have ep : pkL bb (B * 8) (j - B * 8 + 1) = pkL bb (B * 8) (j - B * 8) + bb (B * 8 + (j - B * 8)) * 2 ^ (j - B * 8) := rfl
              have hlt := pkL_lt (b := bb) (s := B * 8) (j - B * 8) (fun i _ => hb2 _)
              have hlt2 : 2 ^ (j - B * 8) ≤ 2 ^ 7 := Nat.pow_le_pow_right (by omega) (by omega)
              dsimp only
              rw [i_rem8 j (by omega), s4, h1, s2, s3, ep, s5, i_or8 _ (by omega) _ (by omega) hlt _ hbj]
            · have s2 : min (j - B * 8) 8 = j - B * 8 := by omega
              have s3 : min (j + 1 - B * 8) 8 = (j - B * 8) + 1 := by omega
              have s5 : B * 8 + (j - B * 8) = j := by omega
              have ep : sm bb (B * 8) (j - B * 8 + 1) = sm bb (B * 8) (j - B * 8) + bb (B * 8 + (j - B * 8)) := rfl
              dsimp only
              rw [h2, s2, s3, ep, s5, nI_add]
            · dsimp only
              rw [s1, h3, nI_add, Nat.add_zero]
          · rw [if_neg (by simp (disch := omega) only [nI_leI, nI_ltI, nI_eq, nI_add, nI_clamp, pk_sub, pk_mul, nI_m1, nI_le0, nI_lt0, nI_0le, nI_0lt, nI_z, inb_nI, decide_eq_true_eq]; exact c2)]
            have s2 : min (j + 1 - B * 8) 8 = min (j - B * 8) 8 := by omega
            refine Ok.inlI ⟨m - 1, by omega, j + 1, by omega, ?_, ?_, ?_, nI_add j 1⟩
            · dsimp only
              rw [s2]
              exact h1
            · dsimp only
              rw [s2]
              exact h2
            · dsimp only
              rw [s1, h3, nI_add, Nat.add_zero]
        · rw [if_neg (by simp (disch := omega) only [nI_leI, nI_ltI, nI_eq, nI_add, nI_clamp, pk_sub, pk_mul, nI_m1, nI_le0, nI_lt0, nI_0le, nI_0lt, nI_z, inb_nI, decide_eq_true_eq]; omega)]
          refine Ok.inlI ?_
          have c2 : ¬ j / 8 = B := by omega
          have s2 : min (j + 1 - B * 8) 8 = min (j - B * 8) 8 := by omega
          have s3 : min (j + 1) (B * 8) = j + 1 := by omega
          have s4 : min j (B * 8) = j := by omega
          rw [if_neg (by simp (disch := omega) only [nI_leI, nI_ltI, nI_eq, nI_add, nI_clamp, pk_sub, pk_mul, nI_m1, nI_le0, nI_lt0, nI_0le, nI_0lt, nI_z, inb_nI, decide_eq_true_eq]; exact c2)]
          refine Ok.inlI ⟨m - 1, by omega, j + 1, by omega, ?_, ?_, ?_, nI_add j 1⟩
          · dsimp only
            rw [s2]
            exact h1
          · dsimp only
            rw [s2]
            exact h2
          · have ep : sm bb 0 (j + 1) = sm bb 0 j + bb (0 + j) := rfl
            dsimp only
            rw [s3, h3, s4, ep, Nat.zero_add, nI_add]
    · refine ⟨0, by omega, ?_, ?_, ?_, rfl⟩
      · rw [show min (0 - B * 8) 8 = 0 by omega]
        rfl
      · rw [show min (0 - B * 8) 8 = 0 by omega]
        rfl
      · rw [show min 0 (B * 8) = 0 by omega]
        rfl
