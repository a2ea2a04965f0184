theorem playAll_c {F : Nat} {M : Mm} {t r : Rw} (hF : 100 ≤ F) (h : RwP M 37 t.1 t.2) (ot : okT t) (hr : RwP M 1 r.1 r.2) (ho : okR r) : Ok (f_X2_playAll F 1 M) (fun M' => M' 39 8 = nI (pl t 60 0 r).1 ∧ (¬ (pl t 60 0 r).1 = 0 → M' 39 7 = nI (pl t 60 0 r).2.1 ∧ ((pl t 60 0 r).1 = 1 → M' 39 9 = nI (pl t 60 0 r).2.2.1)) ∧ ((pl t 60 0 r).1 = 0 → RwP M' 11 (pl t 60 0 r).2.2.2.1 (pl t 60 0 r).2.2.2.2) ∧ ∀ k, k ≠ 11 → k ≠ 12 → k ≠ 39 → M' k = M k) := by
  unfold f_X2_playAll
  have hn := ho.1
  have ht := ot.1
  refine Ok.bindI (copyFrom_t hF hr hn (by omega) (by omega) (by omega)) ?_
  rintro M0 ⟨p1, p2⟩
  generalize hE : pl t 60 0 r = E
  refine Ok.lpN (m0 := 60) (fun m z => ∃ i, i + m = 60 ∧ z.1 = nI i ∧ (∀ k, k ≠ 11 → k ≠ 12 → k ≠ 39 → z.2 k = M k) ∧ ((z.2 39 8 = nI 0 ∧ ∃ p ρ, okR ρ ∧ z.2 39 2 = nI p ∧ p ≤ 60 ∧ RwP z.2 11 ρ.1 ρ.2 ∧ pl t m p ρ = E) ∨ (¬ E.1 = 0 ∧ E.1 ≤ 3 ∧ z.2 39 8 = nI E.1 ∧ z.2 39 7 = nI E.2.1 ∧ (E.1 = 1 → z.2 39 9 = nI E.2.2.1)))) ?_ ?_ (by omega)
  · rintro m ⟨x, M1⟩ ⟨i, hi, h1, h2, h3⟩
    dsimp only at h1 h2 h3 ⊢
    subst h1
    rcases h3 with ⟨h3, p, ρ, oρ, h4, h5, h6, h7⟩ | ⟨h3, h4, h5, h6, h7⟩
    · have fin : E = (0, p, 0, ρ) → Ok (some (Sum.inr M1) : Option ((Int32 × Mm) ⊕ Mm)) (Sum.elim (fun s' => ∃ m', m' < m ∧ ∃ i, i + m' = 60 ∧ s'.1 = nI i ∧ (∀ k, k ≠ 11 → k ≠ 12 → k ≠ 39 → s'.2 k = M k) ∧ ((s'.2 39 8 = nI 0 ∧ ∃ p ρ, okR ρ ∧ s'.2 39 2 = nI p ∧ p ≤ 60 ∧ RwP s'.2 11 ρ.1 ρ.2 ∧ pl t m' p ρ = E) ∨ (¬ E.1 = 0 ∧ E.1 ≤ 3 ∧ s'.2 39 8 = nI E.1 ∧ s'.2 39 7 = nI E.2.1 ∧ (E.1 = 1 → s'.2 39 9 = nI E.2.2.1)))) (fun M' => M' 39 8 = nI E.1 ∧ (¬ E.1 = 0 → M' 39 7 = nI E.2.1 ∧ (E.1 = 1 → M' 39 9 = nI E.2.2.1)) ∧ (E.1 = 0 → RwP M' 11 E.2.2.2.1 E.2.2.2.2) ∧ ∀ k, k ≠ 11 → k ≠ 12 → k ≠ 39 → M' k = M k)) := by
        intro eE
        subst eE
        exact ⟨h3, fun g => absurd rfl g, fun _ => h6, h2⟩
      by_cases c6 : 60 ≤ i
      · rw [if_pos (by simp (disch := omega) only [nI_leI, nI_ltI, nI_eq, nI_add, nI_clamp, pk_sub, pk_mul, nI_m1, nI_le0, nI_lt0, nI_0le, nI_0lt, nI_z, inb_nI, decide_eq_true_eq]; exact c6)]
        have m0 : m = 0 := by omega
        subst m0
        exact fin h7.symm
      rw [if_neg (by simp (disch := omega) only [nI_leI, nI_ltI, nI_eq, nI_add, nI_clamp, pk_sub, pk_mul, nI_m1, nI_le0, nI_lt0, nI_0le, nI_0lt, nI_z, inb_nI, decide_eq_true_eq]; exact c6), if_pos (show M1 39 8 = 0 by rw [h3]; rfl)]
      unfold f_X5_length
      have x1 : RwP M1 37 t.1 t.2 := h.keep (h2 37 (by omega) (by omega) (by omega)) (h2 38 (by omega) (by omega) (by omega))
      rw [Option.bind_some]
      by_cases c7 : t.1 ≤ p
      · rw [if_pos (show M1 37 1 ≤ M1 39 2 by rw [x1.1, h4]; simp (disch := omega) only [nI_leI, nI_ltI, nI_eq, nI_add, nI_clamp, pk_sub, pk_mul, nI_m1, nI_le0, nI_lt0, nI_0le, nI_0lt, nI_z, inb_nI, decide_eq_true_eq]; exact c7)]
        exact fin (by rw [← h7, pl_end (by omega)])
      rw [if_neg (show ¬ M1 37 1 ≤ M1 39 2 by rw [x1.1, h4]; simp (disch := omega) only [nI_leI, nI_ltI, nI_eq, nI_add, nI_clamp, pk_sub, pk_mul, nI_m1, nI_le0, nI_lt0, nI_0le, nI_0lt, nI_z, inb_nI, decide_eq_true_eq]; exact c7)]
      obtain ⟨m, rfl⟩ : ∃ m', m = m' + 1 := ⟨m - 1, by omega⟩
      rw [pl_go (by omega)] at h7
      obtain ⟨s1, s2, s3, s4⟩ := stp_f t p oρ
      refine Ok.bindI (playEdit_c hF x1 ot h6 oρ h4 (by omega)) ?_
      rintro M2 ⟨y1, y2, y3, y4, y5⟩
      have fr : ∀ k, k ≠ 11 → k ≠ 12 → k ≠ 39 → M2 k = M k := fun k b1 b2 b3 => by rw [y5 k b1 b2 b3, h2 k b1 b2 b3]
      refine ⟨m, by omega, i + 1, by omega, nI_add i 1, fr, ?_⟩
      dsimp only
      by_cases z0 : (stp t p ρ).1 = 0
      · rw [if_pos z0] at h7
        obtain ⟨w1, w2⟩ := y4 z0
        obtain ⟨v1, v2⟩ := s4 z0
        left
        refine ⟨by rw [y1, z0], (stp t p ρ).2.2.1, (stp t p ρ).2.2.2, s3, w1, by omega, w2, h7⟩
      · rw [if_neg z0] at h7
        right
        subst h7
        exact ⟨z0, s1, y1, y2, y3⟩
    · have fin : Ok (some (Sum.inr M1) : Option ((Int32 × Mm) ⊕ Mm)) (Sum.elim (fun s' => ∃ m', m' < m ∧ ∃ i, i + m' = 60 ∧ s'.1 = nI i ∧ (∀ k, k ≠ 11 → k ≠ 12 → k ≠ 39 → s'.2 k = M k) ∧ ((s'.2 39 8 = nI 0 ∧ ∃ p ρ, okR ρ ∧ s'.2 39 2 = nI p ∧ p ≤ 60 ∧ RwP s'.2 11 ρ.1 ρ.2 ∧ pl t m' p ρ = E) ∨ (¬ E.1 = 0 ∧ E.1 ≤ 3 ∧ s'.2 39 8 = nI E.1 ∧ s'.2 39 7 = nI E.2.1 ∧ (E.1 = 1 → s'.2 39 9 = nI E.2.2.1)))) (fun M' => M' 39 8 = nI E.1 ∧ (¬ E.1 = 0 → M' 39 7 = nI E.2.1 ∧ (E.1 = 1 → M' 39 9 = nI E.2.2.1)) ∧ (E.1 = 0 → RwP M' 11 E.2.2.2.1 E.2.2.2.2) ∧ ∀ k, k ≠ 11 → k ≠ 12 → k ≠ 39 → M' k = M k)) :=
        ⟨h5, fun _ => ⟨h6, h7⟩, fun g => absurd g h3, h2⟩
      by_cases c6 : 60 ≤ i
      · rw [if_pos (by simp (disch := omega) only [nI_leI, nI_ltI, nI_eq, nI_add, nI_clamp, pk_sub, pk_mul, nI_m1, nI_le0, nI_lt0, nI_0le, nI_0lt, nI_z, inb_nI, decide_eq_true_eq]; exact c6)]
        exact fin
      · rw [if_neg (by simp (disch := omega) only [nI_leI, nI_ltI, nI_eq, nI_add, nI_clamp, pk_sub, pk_mul, nI_m1, nI_le0, nI_lt0, nI_0le, nI_0lt, nI_z, inb_nI, decide_eq_true_eq]; exact c6), if_neg (show ¬ M1 39 8 = 0 from fun g => h3 (by rwa [h5, nI_z (by omega)] at g))]
        exact fin
  · refine ⟨0, by omega, rfl, fun k b1 b2 b3 => ?_, Or.inl ⟨?_, 0, r, ho, ?_, by omega, ?_, hE⟩⟩
    · dsimp only
      rw [up_n b3, up_n b3]
      exact p2 k b1 b2
    · dsimp only
      rw [up_ss]
    · dsimp only
      rw [up_sn (by omega), up_ss]
    · exact p1.keep (by dsimp only; rw [up_n (by omega), up_n (by omega)]) (by dsimp only; rw [up_n (by omega), up_n (by omega)])
