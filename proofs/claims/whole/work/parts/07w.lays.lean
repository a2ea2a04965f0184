def LvR (M : Mm) (r : Rw) (K : Nat) : Prop := (∀ L, L ≤ K → ∀ i, i < r.1 → M 46 (60 * L + i) = nI (og r.2 r.1 L i)) ∧ ∀ L, L < K → ∀ i, i < r.1 → M 47 (60 * L + i) = nI (glo r.2 r.1 L i)
theorem lays_t {F : Nat} {M : Mm} {r : Rw} (hF : 100 ≤ F) (h : SqP (M 41) 0 r) (ho : okR r) : Ok (f_X7_lays F M) (fun M' => LvR M' r 4 ∧ ∀ k, k ≠ 46 → k ≠ 47 → M' k = M k) := by
  have hn := ho.1
  have e9 : Int32.toNatClampNeg (nI 0) = 0 := nI_clamp (by omega)
  unfold f_X7_lays
  refine Ok.lpN (m0 := r.1) (fun m z => ∃ i, i + m = r.1 ∧ z.1 = nI i ∧ (∀ u, u < i → z.2 46 u = nI u) ∧ ∀ k, k ≠ 46 → z.2 k = M k) ?_ ?_ (by omega)
  · intro m z hz
    obtain ⟨z1, M1⟩ := z
    obtain ⟨i, hi, g1, g2, g3⟩ := hz
    dsimp only at g1 g2 g3 ⊢
    subst g1
    have x1 : SqP (M1 41) 0 r := by
      rw [g3 41 (by omega)]
      exact h
    rw [if_pos (in0 (by omega))]
    simp only [e9, x1.1]
    by_cases hd : r.1 ≤ i
    · rw [if_pos (by simp (disch := omega) only [nI_leI, nI_ltI, nI_eq, nI_add, nI_clamp, pk_sub, pk_mul, nI_m1, nI_le0, nI_lt0, nI_0le, nI_0lt, nI_z, inb_nI, decide_eq_true_eq]; omega)]
      refine Ok.lpN (m0 := 4) (fun m z => ∃ L, L + m = 4 ∧ z.1 = nI L ∧ LvR z.2 r L ∧ ∀ k, k ≠ 46 → k ≠ 47 → z.2 k = M k) ?_ ?_ (by omega)
      · intro m' z hz
        obtain ⟨z1, M2⟩ := z
        obtain ⟨L, hL, q1, q2, q3⟩ := hz
        dsimp only at q1 q2 q3 ⊢
        subst q1
        by_cases hd2 : 4 ≤ L
        · rw [if_pos (by simp (disch := omega) only [nI_leI, nI_ltI, nI_eq, nI_add, nI_clamp, pk_sub, pk_mul, nI_m1, nI_le0, nI_lt0, nI_0le, nI_0lt, nI_z, inb_nI, decide_eq_true_eq]; omega)]
          have e : L = 4 := by omega
          subst e
          exact ⟨q2, q3⟩
        · obtain ⟨p2, p3⟩ := q2
          have x2 : SqP (M2 41) 0 r := by
            rw [q3 41 (by omega) (by omega)]
            exact h
          have h01 := nb_01 (b := btL r.2 (og r.2 r.1 L) L) r.1 (fun j _ => btL_lt _ _ _ _)
          rw [if_neg (by simp (disch := omega) only [nI_leI, nI_ltI, nI_eq, nI_add, nI_clamp, pk_sub, pk_mul, nI_m1, nI_le0, nI_lt0, nI_0le, nI_0lt, nI_z, inb_nI, decide_eq_true_eq]; omega)]
          refine Ok.lpN (m0 := 2) (fun m z => (m = 2 ∧ z.1 = nI 0 ∧ z.2.1 = nI 0 ∧ z.2.2 = M2) ∨
            (m = 1 ∧ z.1 = nI (0 + nb (btL r.2 (og r.2 r.1 L) L) 0 r.1) ∧ z.2.1 = nI 1 ∧
              (∀ u, u < 0 + nb (btL r.2 (og r.2 r.1 L) L) 0 r.1 → z.2.2 46 (60 * (L + 1) + u) = nI (psN (btL r.2 (og r.2 r.1 L) L) (og r.2 r.1 L) 0 0 r.1 (fun _ => 0) u)) ∧
              (∀ j, j < r.1 → btL r.2 (og r.2 r.1 L) L j = 0 → z.2.2 47 (60 * L + j) = nI (0 + nb (btL r.2 (og r.2 r.1 L) L) 0 j)) ∧
              (∀ w, w < 60 * (L + 1) → z.2.2 46 w = M2 46 w) ∧ (∀ w, w < 60 * L → z.2.2 47 w = M2 47 w) ∧ (∀ k, k ≠ 46 → k ≠ 47 → z.2.2 k = M2 k)) ∨
            (m = 0 ∧ z.2.1 = nI 2 ∧ LvR z.2.2 r (L + 1) ∧ ∀ k, k ≠ 46 → k ≠ 47 → z.2.2 k = M k)) ?_ ?_ (by omega)
          · intro m'' z hz
            obtain ⟨z1, z2, M3⟩ := z
            rcases hz with ⟨hm, a1, a2, a3⟩ | ⟨hm, a1, a2, b1, b2, b4, b5, b6⟩ | ⟨hm, a2, a3, a4⟩
            · dsimp only at a1 a2 a3 ⊢
              subst a1 a2 a3
              rw [if_neg (by simp (disch := omega) only [nI_leI, nI_ltI, nI_eq, nI_add, nI_clamp, pk_sub, pk_mul, nI_m1, nI_le0, nI_lt0, nI_0le, nI_0lt, nI_z, inb_nI, decide_eq_true_eq]; omega)]
              refine pass_t (g := fun p M' => Sum.inl (p, nI 0 + nI 1, M')) (L := L) (v := 0) (s := 0) (o := og r.2 r.1 L) (nx := fun _ => 0) (b := btL r.2 (og r.2 r.1 L) L) hF x2 ho (by omega) (by omega) (fun _ _ => rfl) (og_lt r.2 r.1 L) (by omega) (p2 L (Nat.le_refl L)) (fun u hu => absurd hu (Nat.not_lt_zero u)) ?_
              intro M' c1 c2 c3 c4 c5 c6
              exact ⟨1, by omega, Or.inr (Or.inl ⟨rfl, rfl, nI_add 0 1, c1, c2, c4, c5, c6⟩)⟩
            · dsimp only at a1 a2 b1 b2 b4 b5 b6 ⊢
              subst a1 a2
              have x3 : SqP (M3 41) 0 r := by
                rw [b6 41 (by omega) (by omega)]
                exact x2
              rw [if_neg (by simp (disch := omega) only [nI_leI, nI_ltI, nI_eq, nI_add, nI_clamp, pk_sub, pk_mul, nI_m1, nI_le0, nI_lt0, nI_0le, nI_0lt, nI_z, inb_nI, decide_eq_true_eq]; omega)]
              refine pass_t (g := fun p M' => Sum.inl (p, nI 1 + nI 1, M')) (L := L) (v := 1) (s := 0 + nb (btL r.2 (og r.2 r.1 L) L) 0 r.1) (o := og r.2 r.1 L) (nx := psN (btL r.2 (og r.2 r.1 L) L) (og r.2 r.1 L) 0 0 r.1 (fun _ => 0)) (b := btL r.2 (og r.2 r.1 L) L) hF x3 ho (by omega) (by omega) (fun _ _ => rfl) (og_lt r.2 r.1 L) (by omega) (fun i hi => ?_) b1 ?_
              · rw [b4 _ (by omega)]
                exact p2 L (Nat.le_refl L) i hi
              intro M' c1 c2 c3 c4 c5 c6
              have ens : 0 + nb (btL r.2 (og r.2 r.1 L) L) 0 r.1 = nb (btL r.2 (og r.2 r.1 L) L) 0 r.1 := Nat.zero_add _
              rw [ens] at c1 c2
              refine ⟨0, by omega, Or.inr (Or.inr ⟨rfl, nI_add 1 1, ⟨fun L' hL' i hi => ?_, fun L' hL' i hi => ?_⟩, fun k k1 k2 => ?_⟩)⟩
              · show M' 46 _ = _
                by_cases e : L' = L + 1
                · subst e
                  exact c1 i (by omega)
                · rw [c4 _ (by omega), b4 _ (by omega)]
                  exact p2 L' (by omega) i hi
              · show M' 47 _ = _
                by_cases e : L' = L
                · subst e
                  have hb2 := btL_lt r.2 (og r.2 r.1 L') L' i
                  unfold glo
                  by_cases hq : btL r.2 (og r.2 r.1 L') L' i = 0
                  · rw [if_pos hq, c3 i (by omega), b2 i hi hq, Nat.zero_add]
                  · rw [if_neg hq, c2 i hi (by omega)]
                · rw [c5 _ (by omega), b5 _ (by omega)]
                  exact p3 L' (by omega) i hi
              · show M' k = _
                rw [c6 k k1 k2, b6 k k1 k2]
                exact q3 k k1 k2
            · dsimp only at a2 a3 a4 ⊢
              subst a2
              rw [if_pos (by simp (disch := omega) only [nI_leI, nI_ltI, nI_eq, nI_add, nI_clamp, pk_sub, pk_mul, nI_m1, nI_le0, nI_lt0, nI_0le, nI_0lt, nI_z, inb_nI, decide_eq_true_eq]; omega)]
              exact ⟨m' - 1, by omega, L + 1, by omega, nI_add L 1, a3, a4⟩
          · exact Or.inl ⟨rfl, rfl, rfl, rfl⟩
      · refine ⟨0, by omega, rfl, ⟨fun L hL i hi => ?_, fun L hL => absurd hL (Nat.not_lt_zero L)⟩, fun k k1 k2 => g3 k k1⟩
        have e : L = 0 := by omega
        subst e
        have e2 : 60 * 0 + i = i := by omega
        rw [e2]
        exact g2 i (by omega)
    · rw [if_neg (by simp (disch := omega) only [nI_leI, nI_ltI, nI_eq, nI_add, nI_clamp, pk_sub, pk_mul, nI_m1, nI_le0, nI_lt0, nI_0le, nI_0lt, nI_z, inb_nI, decide_eq_true_eq]; omega), if_pos (by simp (disch := omega) only [nI_leI, nI_ltI, nI_eq, nI_add, nI_clamp, pk_sub, pk_mul, nI_m1, nI_le0, nI_lt0, nI_0le, nI_0lt, nI_z, inb_nI, decide_eq_true_eq]; omega), nI_clamp (by omega)]
      refine Ok.inlI ⟨m - 1, by omega, i + 1, by omega, nI_add i 1, fun u hu => ?_, fun k hk => ?_⟩
      · show up M1 46 i (nI i) 46 u = nI u
        by_cases e : u = i
        · rw [e, up_ss]
        · rw [up_sn e]
          exact g2 u (by omega)
      · show up M1 46 i (nI i) k = M k
        rw [up_n hk]
        exact g3 k hk
  · exact ⟨0, by omega, rfl, fun u hu => absurd hu (Nat.not_lt_zero u), fun _ _ => rfl⟩
