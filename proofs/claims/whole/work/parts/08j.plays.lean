theorem pl_pos (t : Rw) : ∀ m p r, ¬ (pl t m p r).1 = 0 → (pl t m p r).2.1 < t.1
  | 0, p, r, h => absurd rfl h
  | m + 1, p, r, h => by
    by_cases h1 : p < t.1
    · rw [pl_go h1] at h ⊢
      by_cases h2 : (stp t p r).1 = 0
      · rw [if_pos h2] at h ⊢
        exact pl_pos t m _ _ h
      · rw [if_neg h2]
        exact h1
    · rw [pl_end h1] at h
      exact absurd rfl h
theorem nI_ne4 {n : Nat} (h : n < 1000) : ¬ nI n = (-1000004 : Int32) := by
  intro g
  have h1 : (nI n).toInt = (-1000004 : Int32).toInt := by rw [g]
  have h2 : (-1000004 : Int32).toInt = -1000004 := by decide
  rw [nI_toInt (by omega), h2] at h1
  omega
theorem copyBack {ρ : Type} {g : Mm → ρ} {P : ρ → Prop} {F : Nat} {M : Mm} (hF : 100 ≤ F) (k : ∀ M', (∀ i, i < 61 → M' 41 i = M 44 i) → (∀ k, k ≠ 41 → M' k = M k) → P (g M')) : Ok (lpf (fun z6 : Int32 × Mm => if (nI 61) ≤ z6.1 then (some (Sum.inr (g z6.2))) else (if inb z6.1 61 = true then if inb z6.1 61 = true then some (.inl ((z6.1 + (nI 1)), (up z6.2 41 (Int32.toNatClampNeg z6.1) (z6.2 44 (Int32.toNatClampNeg z6.1))))) else none else none)) F ((nI 0), M)) P := by
  refine Ok.lpN (m0 := 61) (fun m z => ∃ i, i + m = 61 ∧ z.1 = nI i ∧ (∀ j, j < i → z.2 41 j = M 44 j) ∧ ∀ k, k ≠ 41 → z.2 k = M k) ?_ ⟨0, by omega, rfl, fun j hj => by omega, fun _ _ => rfl⟩ (by omega)
  rintro m ⟨x, M1⟩ ⟨i, hi, h1, h2, h3⟩
  dsimp only at h1 h2 h3 ⊢
  subst h1
  by_cases hc : 61 ≤ i
  · rw [if_pos (by simp (disch := omega) only [nI_leI, nI_ltI, nI_eq, nI_add, nI_clamp, pk_sub, pk_mul, nI_m1, nI_le0, nI_lt0, nI_0le, nI_0lt, nI_z, inb_nI, decide_eq_true_eq]; exact hc)]
    exact k M1 (fun j hj => h2 j (by omega)) h3
  · rw [if_neg (by simp (disch := omega) only [nI_leI, nI_ltI, nI_eq, nI_add, nI_clamp, pk_sub, pk_mul, nI_m1, nI_le0, nI_lt0, nI_0le, nI_0lt, nI_z, inb_nI, decide_eq_true_eq]; exact hc), if_pos (by simp (disch := omega) only [nI_leI, nI_ltI, nI_eq, nI_add, nI_clamp, pk_sub, pk_mul, nI_m1, nI_le0, nI_lt0, nI_0le, nI_0lt, nI_z, inb_nI, decide_eq_true_eq]; omega), if_pos (by simp (disch := omega) only [nI_leI, nI_ltI, nI_eq, nI_add, nI_clamp, pk_sub, pk_mul, nI_m1, nI_le0, nI_lt0, nI_0le, nI_0lt, nI_z, inb_nI, decide_eq_true_eq]; omega), nI_clamp (by omega)]
    refine ⟨m - 1, by omega, i + 1, by omega, nI_add i 1, fun j hj => ?_, fun k g => ?_⟩
    · dsimp only
      by_cases hj2 : j = i
      · subst hj2
        rw [up_ss, h3 44 (by omega)]
      · rw [up_sn hj2]
        exact h2 j (by omega)
    · dsimp only
      rw [up_n g]
      exact h3 k g
theorem faulty_r {F : Nat} {M : Mm} {t r : Rw} (hF : 300 ≤ F) (h : TxR M t) (ot : okT t) (hr : SqP (M 41) 0 r) (ho : okR r) : Ok (f_X7_faulty F M) (fun z => z.1 = (if (pl t 60 0 r).1 = 0 then -1000004 else nI (pl t 60 0 r).2.1) ∧ (¬ (pl t 60 0 r).1 = 0 → z.2 40 8 = nI (pl t 60 0 r).1 ∧ z.2 40 9 = (if (pl t 60 0 r).1 = 1 then nI (pl t 60 0 r).2.2.1 else -1000004)) ∧ (∀ i, i < 61 → z.2 41 i = M 41 i) ∧ (∀ i, i < 7 → z.2 40 i = M 40 i) ∧ ∀ k, k ≠ 40 → k ≠ 41 → k ≠ 44 → z.2 k = M k) := by
  have ht := ot.1
  unfold f_X7_faulty
  generalize hE : pl t 60 0 r = E
  refine Ok.lpN (m0 := 61) (fun m z => ∃ i, i + m = 61 ∧ z.1 = nI i ∧ (∀ j, j < i → z.2 44 j = M 41 j) ∧ ∀ k, k ≠ 44 → z.2 k = M k) ?_ ⟨0, by omega, rfl, fun j hj => by omega, fun _ _ => rfl⟩ (by omega)
  rintro m ⟨x, M1⟩ ⟨i, hi, h1, h2, h3⟩
  dsimp only at h1 h2 h3 ⊢
  subst h1
  by_cases hc : ¬ 61 ≤ i
  · rw [if_neg (by simp (disch := omega) only [nI_leI, nI_ltI, nI_eq, nI_add, nI_clamp, pk_sub, pk_mul, nI_m1, nI_le0, nI_lt0, nI_0le, nI_0lt, nI_z, inb_nI, decide_eq_true_eq]; exact hc), if_pos (by simp (disch := omega) only [nI_leI, nI_ltI, nI_eq, nI_add, nI_clamp, pk_sub, pk_mul, nI_m1, nI_le0, nI_lt0, nI_0le, nI_0lt, nI_z, inb_nI, decide_eq_true_eq]; omega), if_pos (by simp (disch := omega) only [nI_leI, nI_ltI, nI_eq, nI_add, nI_clamp, pk_sub, pk_mul, nI_m1, nI_le0, nI_lt0, nI_0le, nI_0lt, nI_z, inb_nI, decide_eq_true_eq]; omega), nI_clamp (by omega)]
    refine ⟨m - 1, by omega, i + 1, by omega, nI_add i 1, fun j hj => ?_, fun k g => ?_⟩
    · dsimp only
      by_cases hj2 : j = i
      · subst hj2
        rw [up_ss, h3 41 (by omega)]
      · rw [up_sn hj2]
        exact h2 j (by omega)
    · dsimp only
      rw [up_n g]
      exact h3 k g
  have i61 : i = 61 := by omega
  subst i61
  rw [if_pos (by decide)]
  refine Ok.lpN (m0 := t.1 + 1) (fun m z => (∀ i, i < 7 → z.2 40 i = M 40 i) ∧ (∀ k, k ≠ 40 → k ≠ 41 → k ≠ 44 → z.2 k = M k) ∧ (∀ j, j < 61 → z.2 44 j = M 41 j) ∧ ((z.1 = -1000004 ∧ ∃ p ρ, okR ρ ∧ z.2 40 7 = nI p ∧ p ≤ t.1 ∧ SqP (z.2 41) 0 ρ ∧ m = t.1 - p + 1 ∧ ∃ m', t.1 - p ≤ m' ∧ pl t m' p ρ = E) ∨ (¬ E.1 = 0 ∧ E.1 ≤ 3 ∧ E.2.1 < 60 ∧ z.1 = nI E.2.1 ∧ z.2 40 8 = nI E.1 ∧ z.2 40 9 = (if E.1 = 1 then nI E.2.2.1 else -1000004)))) ?_ ?_ (by omega)
  · rintro m ⟨w, M2⟩ ⟨g1, g2, g3, g4⟩
    dsimp only at g1 g2 g3 g4 ⊢
    have e6 : M2 40 6 = nI t.1 := by rw [g1 6 (by omega)]; exact h.1
    rcases g4 with ⟨g4, p, ρ, oρ, g5, g6, g7, g8, m', g9, g10⟩ | ⟨g4, g5, g6, g7, g8, g9⟩
    · refine Ok.jnI ?_
      by_cases c1 : t.1 ≤ p
      · rw [if_pos (show M2 40 6 ≤ M2 40 7 by rw [e6, g5]; simp (disch := omega) only [nI_leI, nI_ltI, nI_eq, nI_add, nI_clamp, pk_sub, pk_mul, nI_m1, nI_le0, nI_lt0, nI_0le, nI_0lt, nI_z, inb_nI, decide_eq_true_eq]; exact c1)]
        refine Ok.inlI ?_
        rw [pl_end (by omega)] at g10
        refine copyBack (g := fun M' => Sum.inr (Sum.inr (w, M'))) (by omega) (fun M3 y1 y2 => ?_)
        dsimp only at y1 y2
        refine ⟨?_, fun g => ?_, fun i hi => ?_, fun i hi => ?_, fun k b1 b2 b3 => ?_⟩
        · rw [← g10, if_pos rfl]
          exact g4
        · rw [← g10] at g
          exact absurd rfl g
        · dsimp only
          rw [y1 i hi, g3 i hi]
        · dsimp only
          rw [y2 40 (by omega)]
          exact g1 i hi
        · dsimp only
          rw [y2 k b2]
          exact g2 k b1 b2 b3
      · rw [if_neg (show ¬ M2 40 6 ≤ M2 40 7 by rw [e6, g5]; simp (disch := omega) only [nI_leI, nI_ltI, nI_eq, nI_add, nI_clamp, pk_sub, pk_mul, nI_m1, nI_le0, nI_lt0, nI_0le, nI_0lt, nI_z, inb_nI, decide_eq_true_eq]; exact c1), if_pos g4]
        obtain ⟨m1, rfl⟩ : ∃ m1, m' = m1 + 1 := ⟨m' - 1, by omega⟩
        rw [pl_go (by omega)] at g10
        obtain ⟨s1, s2, s3, s4⟩ := stp_f t p oρ
        have x2 : TxR M2 t := h.keep (g1 6 (by omega)) (g2 45 (by omega) (by omega) (by omega))
        refine Ok.bindI (doesNext_r (by omega) x2 ot g7 oρ g5 (by omega)) ?_
        rintro ⟨v, M3⟩ ⟨y1, y2, y3, y4, y5, y6⟩
        dsimp only at y1 y2 y3 y4 y5 y6 ⊢
        have f1 : ∀ i, i < 7 → up M3 40 8 v 40 i = M 40 i := fun i hi => by rw [up_sn (by omega), y5 i (by omega) (by omega) (by omega), g1 i hi]
        have f2 : ∀ k, k ≠ 40 → k ≠ 41 → k ≠ 44 → up M3 40 8 v k = M k := fun k b1 b2 b3 => by rw [up_n b1, y6 k b1 b2, g2 k b1 b2 b3]
        have f3 : ∀ j, j < 61 → up M3 40 8 v 44 j = M 41 j := fun j hj => by rw [up_n (by omega), y6 44 (by omega) (by omega), g3 j hj]
        rw [up_ss, y1]
        by_cases z0 : (stp t p ρ).1 = 0
        · obtain ⟨w1, w2⟩ := s4 z0
          rw [if_pos z0] at g10
          rw [z0, if_pos (by decide)]
          rw [y1, z0] at f1 f2 f3
          refine ⟨t.1 - (stp t p ρ).2.2.1 + 1, by omega, f1, f2, f3, Or.inl ⟨g4, (stp t p ρ).2.2.1, (stp t p ρ).2.2.2, s3, ?_, w2, ?_, rfl, m1, by omega, g10⟩⟩
          · dsimp only
            rw [up_sn (by omega)]
            exact y3 z0
          · dsimp only
            rw [up_n (by omega)]
            exact y4
        · rw [if_neg z0] at g10
          subst g10
          rw [if_neg (show ¬ nI (stp t p ρ).1 ≤ 0 by rw [nI_le0 (by omega)]; exact z0)]
          rw [y1] at f1 f2 f3
          refine ⟨0, by omega, f1, f2, f3, Or.inr ⟨z0, s1, by dsimp only; omega, g5, ?_, ?_⟩⟩
          · dsimp only
            rw [up_ss]
          · dsimp only
            rw [up_sn (by omega)]
            exact y2
    · have hw : ¬ w = -1000004 := by
        rw [g7]
        exact nI_ne4 (by omega)
      have fin : ∀ M3 : Mm, (∀ i, i < 61 → M3 41 i = M2 44 i) → (∀ k, k ≠ 41 → M3 k = M2 k) → w = (if E.1 = 0 then -1000004 else nI E.2.1) ∧ (¬ E.1 = 0 → M3 40 8 = nI E.1 ∧ M3 40 9 = (if E.1 = 1 then nI E.2.2.1 else -1000004)) ∧ (∀ i, i < 61 → M3 41 i = M 41 i) ∧ (∀ i, i < 7 → M3 40 i = M 40 i) ∧ ∀ k, k ≠ 40 → k ≠ 41 → k ≠ 44 → M3 k = M k := by
        intro M3 y1 y2
        refine ⟨?_, fun _ => ⟨?_, ?_⟩, fun i hi => ?_, fun i hi => ?_, fun k b1 b2 b3 => ?_⟩
        · rw [if_neg g4]
          exact g7
        · rw [y2 40 (by omega)]
          exact g8
        · rw [y2 40 (by omega)]
          exact g9
        · rw [y1 i hi, g3 i hi]
        · rw [y2 40 (by omega)]
          exact g1 i hi
        · rw [y2 k b2]
          exact g2 k b1 b2 b3
      refine Ok.jnI ?_
      by_cases c1 : M2 40 6 ≤ M2 40 7
      · rw [if_pos c1]
        refine Ok.inlI ?_
        exact copyBack (g := fun M' => Sum.inr (Sum.inr (w, M'))) (by omega) fin
      · rw [if_neg c1, if_neg hw]
        refine Ok.inlI ?_
        exact copyBack (g := fun M' => Sum.inr (Sum.inr (w, M'))) (by omega) fin
  · refine ⟨fun i hi => ?_, fun k b1 b2 b3 => ?_, fun j hj => ?_, Or.inl ⟨rfl, 0, r, ho, ?_, by omega, ?_, rfl, 60, by omega, hE⟩⟩
    · dsimp only
      rw [up_sn (by omega), h3 40 (by omega)]
    · dsimp only
      rw [up_n b1, h3 k b3]
    · dsimp only
      rw [up_n (by omega)]
      exact h2 j hj
    · dsimp only
      rw [up_ss]
    · dsimp only
      rw [up_n (by omega), h3 41 (by omega)]
      exact hr
theorem op_fault {F : Nat} {r : Rw} {h : Nat} {H : Nat → Rw} {t : Rw} (hF : 300 ≤ F) (ho : okR r) (ot : okT t) (a : Int32) : Op (f_X6_fault F a) (f_X7_fault F a) r h H t := by
  have hn := ho.1
  rcases le_cases a (n := 2) (by omega) with ha | ⟨q, rfl, hq⟩
  · refine Op.err (-1000001) ho ot (fun M x => ?_) (fun M x => ?_)
    · unfold f_X6_fault
      rw [isAtMost_f ha, Option.bind_some, if_pos (by decide)]
    · unfold f_X7_fault
      rw [in_f0 ha, Option.bind_some, if_pos (by decide)]
  obtain ⟨b1, b2, b3⟩ := pl_f t 60 0 r ho
  have b4 := pl_pos t 60 0 r
  have ht := ot.1
  refine ⟨if (pl t 60 0 r).1 = 0 then -1000004 else if q = 0 then nI (pl t 60 0 r).2.1 else if q = 1 then nI (pl t 60 0 r).1 else if (pl t 60 0 r).1 = 1 then nI (pl t 60 0 r).2.2.1 else -1000004, r, h, H, t, ho, ot, fun M x => ?_, fun M x => ?_⟩
  · unfold f_X6_fault
    rw [isAtMost_t (by omega) hq, Option.bind_some, if_neg (by decide)]
    refine Ok.bindI (playAll_c (by omega) x.2.2 ot x.1 ho) ?_
    rintro M1 ⟨y1, y2, y3, y4⟩
    generalize pl t 60 0 r = E at *
    have fr : Cls M1 r h H t ∧ ∀ k, 40 ≤ k → M1 k = M k := ⟨x.keep (fun k hk => y4 k (by omega) (by omega) (by omega)), fun k hk => y4 k (by omega) (by omega) (by omega)⟩
    unfold f_X2_reason f_X2_position f_X2_cause
    rw [Option.bind_some, y1]
    by_cases z0 : E.1 = 0
    · rw [z0, if_pos (by decide), if_pos rfl]
      exact ⟨rfl, fr⟩
    obtain ⟨w1, w2⟩ := y2 z0
    rw [if_neg (show ¬ nI E.1 = 0 by rw [nI_z (by omega)]; exact z0), if_neg z0]
    by_cases q0 : q = 0
    · rw [if_pos (by rw [q0]; rfl), if_pos q0, Option.bind_some, w1]
      exact ⟨rfl, fr⟩
    rw [if_neg (by simp (disch := omega) only [nI_leI, nI_ltI, nI_eq, nI_add, nI_clamp, pk_sub, pk_mul, nI_m1, nI_le0, nI_lt0, nI_0le, nI_0lt, nI_z, inb_nI, decide_eq_true_eq]; exact q0), if_neg q0]
    by_cases q1 : q = 1
    · rw [if_pos (by rw [q1]), if_pos q1, Option.bind_some]
      exact ⟨rfl, fr⟩
    rw [if_neg (by simp (disch := omega) only [nI_leI, nI_ltI, nI_eq, nI_add, nI_clamp, pk_sub, pk_mul, nI_m1, nI_le0, nI_lt0, nI_0le, nI_0lt, nI_z, inb_nI, decide_eq_true_eq]; exact q1), if_neg q1, Option.bind_some]
    by_cases z1 : E.1 = 1
    · rw [if_pos (by rw [z1]), if_pos z1, Option.bind_some, w2 z1]
      exact ⟨rfl, fr⟩
    · rw [if_neg (show ¬ nI E.1 = nI 1 by rw [nI_eq (by omega) (by omega)]; exact z1), if_neg z1]
      exact ⟨rfl, fr⟩
  · unfold f_X7_fault
    rw [in_t (by omega) (by omega) hq, Option.bind_some, if_neg (by decide)]
    refine Ok.bindI (faulty_r hF ⟨x.2.2.1, x.2.2.2⟩ ot x.1 ho) ?_
    rintro ⟨v, M1⟩ ⟨y1, y2, y3, y4, y5⟩
    dsimp only at y1 y2 y3 y4 y5 ⊢
    generalize pl t 60 0 r = E at *
    have fr : Ref M1 r h H t ∧ ∀ k, k < 40 → M1 k = M k := ⟨⟨x.1.of_copy hn y3, x.2.1.keep (y4 4 (by omega)) (y5 42 (by omega) (by omega) (by omega)), by rw [y4 6 (by omega)]; exact x.2.2.1, fun i hi => by rw [y5 45 (by omega) (by omega) (by omega)]; exact x.2.2.2 i hi⟩, fun k hk => y5 k (by omega) (by omega) (by omega)⟩
    by_cases z0 : E.1 = 0
    · rw [if_pos z0] at y1
      rw [if_pos y1, if_pos z0]
      exact ⟨y1, fr⟩
    obtain ⟨w1, w2⟩ := y2 z0
    have b5 := b4 z0
    rw [if_neg z0] at y1
    rw [if_neg (show ¬ v = -1000004 by rw [y1]; exact nI_ne4 (by omega)), if_neg z0]
    by_cases q0 : q = 0
    · rw [if_pos (by rw [q0]; rfl), if_pos q0]
      exact ⟨y1, fr⟩
    rw [if_neg (by simp (disch := omega) only [nI_leI, nI_ltI, nI_eq, nI_add, nI_clamp, pk_sub, pk_mul, nI_m1, nI_le0, nI_lt0, nI_0le, nI_0lt, nI_z, inb_nI, decide_eq_true_eq]; exact q0), if_neg q0]
    by_cases q1 : q = 1
    · rw [if_pos (by rw [q1]), if_pos q1]
      exact ⟨w1, fr⟩
    rw [if_neg (by simp (disch := omega) only [nI_leI, nI_ltI, nI_eq, nI_add, nI_clamp, pk_sub, pk_mul, nI_m1, nI_le0, nI_lt0, nI_0le, nI_0lt, nI_z, inb_nI, decide_eq_true_eq]; exact q1), if_neg q1]
    exact ⟨w2, fr⟩
theorem op_play {F : Nat} {r : Rw} {h : Nat} {H : Nat → Rw} {t : Rw} (hF : 300 ≤ F) (ho : okR r) (ot : okT t) : Op (f_X6_play F) (f_X7_play F) r h H t := by
  have hn := ho.1
  obtain ⟨b1, b2, b3⟩ := pl_f t 60 0 r ho
  have b4 := pl_pos t 60 0 r
  have ht := ot.1
  by_cases z0 : ¬ (pl t 60 0 r).1 = 0
  · refine ⟨-1000002, r, h, H, t, ho, ot, fun M x => ?_, fun M x => ?_⟩
    · unfold f_X6_play
      refine Ok.bindI (playAll_c (by omega) x.2.2 ot x.1 ho) ?_
      rintro M1 ⟨y1, y2, y3, y4⟩
      have fr : Cls M1 r h H t ∧ ∀ k, 40 ≤ k → M1 k = M k := ⟨x.keep (fun k hk => y4 k (by omega) (by omega) (by omega)), fun k hk => y4 k (by omega) (by omega) (by omega)⟩
      unfold f_X2_reason
      rw [Option.bind_some, if_neg (show ¬ M1 39 8 = 0 by rw [y1, nI_z (by omega)]; exact z0)]
      exact ⟨rfl, fr⟩
    · unfold f_X7_play
      refine Ok.bindI (faulty_r hF ⟨x.2.2.1, x.2.2.2⟩ ot x.1 ho) ?_
      rintro ⟨v, M1⟩ ⟨y1, y2, y3, y4, y5⟩
      dsimp only at y1 y2 y3 y4 y5 ⊢
      have fr : Ref M1 r h H t ∧ ∀ k, k < 40 → M1 k = M k := ⟨⟨x.1.of_copy hn y3, x.2.1.keep (y4 4 (by omega)) (y5 42 (by omega) (by omega) (by omega)), by rw [y4 6 (by omega)]; exact x.2.2.1, fun i hi => by rw [y5 45 (by omega) (by omega) (by omega)]; exact x.2.2.2 i hi⟩, fun k hk => y5 k (by omega) (by omega) (by omega)⟩
      have b5 := b4 z0
      rw [if_neg z0] at y1
      rw [if_neg (show ¬ v = -1000004 by rw [y1]; exact nI_ne4 (by omega))]
      exact ⟨rfl, fr⟩
  have z0 : (pl t 60 0 r).1 = 0 := Decidable.not_not.mp z0
  refine ⟨nI (pl t 60 0 r).2.2.2.1, (pl t 60 0 r).2.2.2, pshN h, pshH h H r, t, b3, ot, fun M x => ?_, fun M x => ?_⟩
  · unfold f_X6_play
    refine Ok.bindI (playAll_c (by omega) x.2.2 ot x.1 ho) ?_
    rintro M1 ⟨y1, y2, y3, y4⟩
    unfold f_X2_reason
    rw [Option.bind_some, if_pos (show M1 39 8 = 0 by rw [y1, z0]; rfl)]
    have x1 : RwP M1 1 r.1 r.2 := x.1.keep (y4 1 (by omega) (by omega) (by omega)) (y4 2 (by omega) (by omega) (by omega))
    have h1 : HsC M1 h H := x.2.1.keep (fun k hk => y4 k (by omega) (by omega) (by omega))
    refine Ok.bindI (remember_t (by omega) h1 x1 ho (Or.inl rfl)) ?_
    rintro M2 ⟨p1, p2⟩
    have x2 : RwP M2 11 (pl t 60 0 r).2.2.2.1 (pl t 60 0 r).2.2.2.2 := (y3 z0).keep (p2 11 (by omega) (by omega)) (p2 12 (by omega) (by omega))
    refine Ok.bindI (copyFrom_t (by omega) x2 b3.1 (by omega) (by omega) (by omega)) ?_
    rintro M3 ⟨q1, q2⟩
    rw [size_t q1, Option.bind_some]
    refine ⟨rfl, ⟨q1, p1.keep (fun k hk => q2 k (by omega) (by omega)), x.2.2.keep ?_ ?_⟩, fun k hk => ?_⟩
    · dsimp only
      rw [q2 37 (by omega) (by omega), p2 37 (by omega) (by omega), y4 37 (by omega) (by omega) (by omega)]
    · dsimp only
      rw [q2 38 (by omega) (by omega), p2 38 (by omega) (by omega), y4 38 (by omega) (by omega) (by omega)]
    · dsimp only
      rw [q2 k (by omega) (by omega), p2 k (by omega) (by omega), y4 k (by omega) (by omega) (by omega)]
  · unfold f_X7_play
    refine Ok.bindI (faulty_r hF ⟨x.2.2.1, x.2.2.2⟩ ot x.1 ho) ?_
    rintro ⟨v, M1⟩ ⟨y1, y2, y3, y4, y5⟩
    dsimp only at y1 y2 y3 y4 y5 ⊢
    have x1 : Ref M1 r h H t := ⟨x.1.of_copy hn y3, x.2.1.keep (y4 4 (by omega)) (y5 42 (by omega) (by omega) (by omega)), by rw [y4 6 (by omega)]; exact x.2.2.1, fun i hi => by rw [y5 45 (by omega) (by omega) (by omega)]; exact x.2.2.2 i hi⟩
    have fr : ∀ k, k < 40 → M1 k = M k := fun k hk => y5 k (by omega) (by omega) (by omega)
    rw [if_pos z0] at y1
    rw [if_pos y1]
    refine Ok.bindI (keeps_t (by omega)) ?_
    rintro M2 ⟨k1, k2⟩
    have e43 : SqP (M2 43) 0 r := x1.1.of_copy hn k1
    have hs : HsR M2 h H := x1.2.1.keep (by rw [k2 40 (by omega)]) (k2 42 (by omega))
    have tx : TxR M2 t := ⟨by rw [k2 40 (by omega)]; exact x1.2.2.1, fun i hi => by rw [k2 45 (by omega)]; exact x1.2.2.2 i hi⟩
    obtain ⟨E, hE⟩ : ∃ E, pl t 60 0 r = E := ⟨_, rfl⟩
    rw [hE] at z0 b3 ⊢
    refine Ok.lpN (m0 := t.1 + 1) (fun m z => (∀ i, i < 7 → z 40 i = M2 40 i) ∧ (∀ k, k ≠ 40 → k ≠ 41 → z k = M2 k) ∧ ∃ p ρ, okR ρ ∧ z 40 7 = nI p ∧ p ≤ t.1 ∧ SqP (z 41) 0 ρ ∧ m = t.1 - p + 1 ∧ ∃ m', t.1 - p ≤ m' ∧ pl t m' p ρ = E) ?_ ⟨fun i hi => up_sn (by omega), fun k c1 c2 => up_n c1, 0, r, ho, up_ss, by omega, ?_, rfl, 60, by omega, hE⟩ (by omega)
    · rintro m M3 ⟨g1, g2, p, ρ, oρ, g5, g6, g7, g8, m', g9, g10⟩
      have e6 : M3 40 6 = nI t.1 := by rw [g1 6 (by omega)]; exact tx.1
      by_cases c1 : t.1 ≤ p
      · rw [if_pos (show M3 40 6 ≤ M3 40 7 by rw [e6, g5]; simp (disch := omega) only [nI_leI, nI_ltI, nI_eq, nI_add, nI_clamp, pk_sub, pk_mul, nI_m1, nI_le0, nI_lt0, nI_0le, nI_0lt, nI_z, inb_nI, decide_eq_true_eq]; exact c1), if_pos (in0 (by omega)), cl0, g7.1]
        rw [pl_end (by omega)] at g10
        have e3 : SqP (M3 43) 0 r := by rw [g2 43 (by omega) (by omega)]; exact e43
        have h3 : HsR M3 h H := hs.keep (g1 4 (by omega)) (g2 42 (by omega) (by omega))
        have o1 := oρ.1
        refine Ok.bindI (acted_t hF (nI_not_err (by omega)) h3 e3 ho) ?_
        rintro ⟨v4, M4⟩ ⟨s1, s2, s3, s4⟩
        dsimp only at s1 s2 s3 s4 ⊢
        subst g10
        refine ⟨s1, ⟨?_, s2, ?_, fun i hi => ?_⟩, fun k hk => ?_⟩
        · dsimp only
          rw [s4 41 (by omega) (by omega)]
          exact g7
        · dsimp only
          rw [s3 6 (by omega)]
          exact e6
        · dsimp only
          rw [s4 45 (by omega) (by omega), g2 45 (by omega) (by omega)]
          exact tx.2 i hi
        · dsimp only
          rw [s4 k (by omega) (by omega), g2 k (by omega) (by omega), k2 k (by omega)]
          exact fr k hk
      · rw [if_neg (show ¬ M3 40 6 ≤ M3 40 7 by rw [e6, g5]; simp (disch := omega) only [nI_leI, nI_ltI, nI_eq, nI_add, nI_clamp, pk_sub, pk_mul, nI_m1, nI_le0, nI_lt0, nI_0le, nI_0lt, nI_z, inb_nI, decide_eq_true_eq]; exact c1)]
        obtain ⟨m1, rfl⟩ : ∃ m1, m' = m1 + 1 := ⟨m' - 1, by omega⟩
        rw [pl_go (by omega)] at g10
        obtain ⟨s1, s2, s3, s4⟩ := stp_f t p oρ
        have x2 : TxR M3 t := tx.keep (g1 6 (by omega)) (g2 45 (by omega) (by omega))
        refine Ok.bindI (doesNext_r (by omega) x2 ot g7 oρ g5 (by omega)) ?_
        rintro ⟨v4, M4⟩ ⟨y1, y2, y3, y4, y5, y6⟩
        dsimp only at y1 y2 y3 y4 y5 y6 ⊢
        have z1 : (stp t p ρ).1 = 0 := by
          by_cases z1 : (stp t p ρ).1 = 0
          · exact z1
          · rw [if_neg z1] at g10
            rw [← g10] at z0
            exact absurd z0 z1
        rw [if_pos z1] at g10
        obtain ⟨w1, w2⟩ := s4 z1
        refine ⟨t.1 - (stp t p ρ).2.2.1 + 1, by omega, fun i hi => ?_, fun k c1 c2 => ?_, (stp t p ρ).2.2.1, (stp t p ρ).2.2.2, s3, y3 z1, w2, y4, rfl, m1, by omega, g10⟩
        · rw [y5 i (by omega) (by omega) (by omega)]
          exact g1 i hi
        · rw [y6 k c1 c2]
          exact g2 k c1 c2
    · rw [up_n (by omega), k2 41 (by omega)]
      exact x1.1
