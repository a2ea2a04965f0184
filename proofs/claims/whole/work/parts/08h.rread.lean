/-! the reference reads -/
def vi (t : Rw) (p i : Nat) : Nat := if i = 0 then 0 else if i = 1 then t.2 p - 48 else nv t p
theorem TxR.keep {M M' : Mm} {t : Rw} (h : TxR M t) (e1 : M' 40 6 = M 40 6) (e2 : M' 45 = M 45) : TxR M' t := ⟨by rw [e1]; exact h.1, fun i hi => by rw [e2]; exact h.2 i hi⟩
theorem readsNumber_r {F : Nat} {M : Mm} {t : Rw} {p : Nat} (hF : 100 ≤ F) (h : TxR M t) (ot : okT t) (e : M 40 7 = nI p) (hp : p ≤ 100) : Ok (f_X7_readsNumber F M) (fun z => z.1 = nI (if nd t p = 0 then 0 else 1) ∧ z.2 40 7 = nI (p + nd t p) ∧ (¬ nd t p = 0 → z.2 40 10 = nI (nv t p)) ∧ (∀ i, i ≠ 7 → i ≠ 10 → z.2 40 i = M 40 i) ∧ ∀ k, k ≠ 40 → z.2 k = M k) := by
  unfold f_X7_readsNumber
  have hnd := nd_le t p
  refine Ok.lpN (m0 := nd t p) (fun m z => ∃ i, i + m = nd t p ∧ z 40 7 = nI (p + i) ∧ z 40 10 = nI (vi t p i) ∧ (∀ i, i ≠ 7 → i ≠ 10 → z 40 i = M 40 i) ∧ ∀ k, k ≠ 40 → z k = M k) ?_ ?_ (by omega)
  · rintro m M1 ⟨i, hi, h1, h2, h3, h4⟩
    have x1 : TxR M1 t := h.keep (h3 6 (by omega) (by omega)) (h4 45 (by omega))
    have fin : i = nd t p → Ok (if (M1 40 7) ≤ (M 40 7) then (some (Sum.inr ((nI 0), M1))) else (some (Sum.inr ((nI 1), M1))) : Option (Mm ⊕ (Int32 × Mm))) (Sum.elim (fun s' => ∃ m', m' < m ∧ ∃ i, i + m' = nd t p ∧ s' 40 7 = nI (p + i) ∧ s' 40 10 = nI (vi t p i) ∧ (∀ i, i ≠ 7 → i ≠ 10 → s' 40 i = M 40 i) ∧ ∀ k, k ≠ 40 → s' k = M k) (fun z => z.1 = nI (if nd t p = 0 then 0 else 1) ∧ z.2 40 7 = nI (p + nd t p) ∧ (¬ nd t p = 0 → z.2 40 10 = nI (nv t p)) ∧ (∀ i, i ≠ 7 → i ≠ 10 → z.2 40 i = M 40 i) ∧ ∀ k, k ≠ 40 → z.2 k = M k)) := by
      intro ei
      rw [← ei]
      by_cases i0 : i = 0
      · rw [if_pos (show M1 40 7 ≤ M 40 7 by rw [h1, e]; simp (disch := omega) only [nI_leI, nI_ltI, nI_eq, nI_add, nI_clamp, pk_sub, pk_mul, nI_m1, nI_le0, nI_lt0, nI_0le, nI_0lt, nI_z, inb_nI, decide_eq_true_eq]; omega), if_pos i0]
        exact ⟨rfl, h1, fun g => absurd i0 g, h3, h4⟩
      · rw [if_neg (show ¬ M1 40 7 ≤ M 40 7 by rw [h1, e]; simp (disch := omega) only [nI_leI, nI_ltI, nI_eq, nI_add, nI_clamp, pk_sub, pk_mul, nI_m1, nI_le0, nI_lt0, nI_0le, nI_0lt, nI_z, inb_nI, decide_eq_true_eq]; omega), if_neg i0]
        refine ⟨rfl, h1, fun _ => ?_, h3, h4⟩
        dsimp only
        rw [h2]
        unfold vi
        rw [if_neg i0]
        by_cases i1 : i = 1
        · rw [if_pos i1]
          have : ¬ isD t (p + 1) = true := fun g => by
            unfold nd at ei
            by_cases g1 : isD t p = true
            · rw [if_pos g1, if_pos g] at ei
              omega
            · rw [if_neg g1] at ei
              omega
          unfold nv
          rw [if_neg this]
        · rw [if_neg i1]
    rw [sign_t x1 ot.1 h1 (by omega), Option.bind_some, in_dig ot, Option.bind_some]
    by_cases hd : isD t (p + i) = true
    · rw [if_pos hd, if_neg (by decide)]
      by_cases c2 : 2 ≤ i
      · rw [if_pos (show M 40 7 + nI 2 ≤ M1 40 7 by rw [h1, e]; simp (disch := omega) only [nI_leI, nI_ltI, nI_eq, nI_add, nI_clamp, pk_sub, pk_mul, nI_m1, nI_le0, nI_lt0, nI_0le, nI_0lt, nI_z, inb_nI, decide_eq_true_eq]; omega)]
        exact fin (by omega)
      · rw [if_neg (show ¬ M 40 7 + nI 2 ≤ M1 40 7 by rw [h1, e]; simp (disch := omega) only [nI_leI, nI_ltI, nI_eq, nI_add, nI_clamp, pk_sub, pk_mul, nI_m1, nI_le0, nI_lt0, nI_0le, nI_0lt, nI_z, inb_nI, decide_eq_true_eq]; omega), Option.bind_some]
        have g1 := isD_iff.mp hd
        have hin : i < nd t p := by
          unfold nd at hi ⊢
          by_cases g2 : isD t p = true
          · rw [if_pos g2] at hi ⊢
            by_cases g3 : isD t (p + 1) = true
            · rw [if_pos g3] at hi ⊢
              omega
            · rw [if_neg g3] at hi ⊢
              have : ¬ i = 1 := fun g => by
                rw [g] at hd
                exact g3 hd
              omega
          · rw [if_neg g2] at hi ⊢
            have i0 : i = 0 := by omega
            rw [i0] at hd
            exact absurd hd g2
        have c1 := ch_nn ot g1.1
        have ec : chI t (p + i) = nI (t.2 (p + i)) := if_pos g1.1
        have ev : 10 * vi t p i + t.2 (p + i) - 48 = vi t p (i + 1) := by
          unfold vi
          by_cases i0 : i = 0
          · rw [if_pos i0, if_neg (by omega), if_pos (by omega), i0, Nat.add_zero]
            omega
          · have i1 : i = 1 := by omega
            rw [i1] at hd ⊢
            rw [if_neg (by omega), if_pos rfl, if_neg (by omega), if_neg (by omega)]
            unfold nv
            rw [if_pos hd]
            rw [i1] at g1
            omega
        have hvi : vi t p i ≤ 100 := by
          unfold vi
          by_cases i0 : i = 0
          · rw [if_pos i0]
            omega
          · have i1 : i = 1 := by omega
            rw [if_neg i0, if_pos i1]
            have : t.2 p ≤ 126 := (ot.2 p (by omega)).2
            omega
        have eV : (nI 10 * M1 40 10 + chI t (p + i)) - nI 48 = nI (vi t p (i + 1)) := by
          rw [h2, ec]
          simp (disch := omega) only [nI_leI, nI_ltI, nI_eq, nI_add, nI_clamp, pk_sub, pk_mul, nI_m1, nI_le0, nI_lt0, nI_0le, nI_0lt, nI_z, inb_nI, decide_eq_true_eq]
          rw [ev]
        rw [eV]
        refine Ok.inlI ⟨m - 1, by omega, i + 1, by omega, ?_, ?_, fun j b1 b2 => ?_, fun k b1 => ?_⟩
        · rw [up_ss, up_sn (by omega), h1]
          exact nI_add (p + i) 1
        · rw [up_sn (by omega), up_ss]
        · rw [up_sn b1, up_sn b2]
          exact h3 j b1 b2
        · rw [up_n b1, up_n b1]
          exact h4 k b1
    · rw [if_neg hd, if_pos (by decide)]
      refine fin ?_
      unfold nd at hi ⊢
      by_cases g2 : isD t p = true
      · rw [if_pos g2] at hi ⊢
        have i0 : ¬ i = 0 := fun g => by
          rw [g] at hd
          exact hd g2
        by_cases g3 : isD t (p + 1) = true
        · rw [if_pos g3] at hi ⊢
          have i1 : ¬ i = 1 := fun g => by
            rw [g] at hd
            exact hd g3
          omega
        · rw [if_neg g3] at hi ⊢
          omega
      · rw [if_neg g2] at hi ⊢
        omega
  · refine ⟨0, by omega, ?_, ?_, fun j b1 b2 => up_sn b2, fun k b1 => up_n b1⟩
    · rw [up_sn (by omega)]
      exact e
    · exact up_ss
theorem reads_r {M : Mm} {t : Rw} {p a : Nat} (h : TxR M t) (ot : okT t) (e : M 40 7 = nI p) (hp : p ≤ 200) (ha : a < 200) : Ok (f_X7_reads (nI a) M) (fun z => z.1 = nI (if cc t p a = true then 1 else 0) ∧ z.2 40 7 = nI (p + if cc t p a = true then 1 else 0) ∧ (∀ i, i ≠ 7 → z.2 40 i = M 40 i) ∧ ∀ k, k ≠ 40 → z.2 k = M k) := by
  unfold f_X7_reads
  rw [sign_t h ot.1 e (by omega), Option.bind_some, e]
  refine Ok.jnI ?_
  by_cases hc : cc t p a = true
  · rw [if_pos ((ch_cc ot ha).mpr hc), if_pos hc]
    refine Ok.inlI ?_
    rw [if_neg (by decide), if_pos isB_1, nI_add]
    exact ⟨rfl, by dsimp only; exact up_ss, fun i hi => by dsimp only; rw [up_sn hi], fun k hk => up_n hk⟩
  · rw [if_neg (fun x => hc ((ch_cc ot ha).mp x)), if_neg hc]
    refine Ok.inlI ?_
    rw [if_pos (by decide), if_pos isB_0, nI_add]
    exact ⟨rfl, by dsimp only; exact up_ss, fun i hi => by dsimp only; rw [up_sn hi], fun k hk => up_n hk⟩
theorem readsSymbols_r {F : Nat} {M : Mm} {t : Rw} {p : Nat} (hF : 100 ≤ F) (h : TxR M t) (ot : okT t) (e : M 40 7 = nI p) (hp : p ≤ 100) (hp1 : 1 ≤ p) : Ok (f_X7_readsSymbols F M) (fun z => z.1 = nI (rdB t 43 p).1 ∧ z.2 40 7 = nI (rdB t 43 p).2.1 ∧ (∀ i, i ≠ 7 → z.2 40 i = M 40 i) ∧ ∀ k, k ≠ 40 → z.2 k = M k) := by
  unfold f_X7_readsSymbols
  have eB : rdB t 43 p = (if psy t 60 p = 0 then (0, p, 0) else if cc t (p + psy t 60 p) 59 = true then (1, p + psy t 60 p + 1, psy t 60 p) else (0, p + psy t 60 p, 0)) := if_pos rfl
  rw [eB]
  have hle := psy_le (t := t) 60 p
  have hend := psy_end (t := t) 60 p
  have hsy := psy_s (t := t) 60 p
  have h60 := ot.1
  have hin := psy_in (t := t) (m := 60) (p := p)
  generalize psy t 60 p = n at hle hend hsy hin ⊢
  refine Ok.lpN (m0 := n) (fun m z => ∃ i, i + m = n ∧ z 40 7 = nI (p + i) ∧ (∀ i, i ≠ 7 → z 40 i = M 40 i) ∧ ∀ k, k ≠ 40 → z k = M k) ?_ ⟨0, by omega, e, fun _ _ => rfl, fun _ _ => rfl⟩ (by omega)
  rintro m M1 ⟨i, hi, h1, h3, h4⟩
  have x1 : TxR M1 t := h.keep (h3 6 (by omega)) (h4 45 (by omega))
  rw [symR_t x1 ot h1 (by omega), Option.bind_some]
  by_cases c1 : i < n
  · have hs := hsy i c1
    have hv := sv_lt hs
    rw [if_pos hs, if_neg (show ¬ nI (sv t (p + i)) < 0 from nI_pos (by omega))]
    refine Ok.inlI ⟨m - 1, by omega, i + 1, by omega, ?_, fun j b1 => ?_, fun k b1 => ?_⟩
    · rw [up_ss, h1]
      exact nI_add (p + i) 1
    · rw [up_sn b1]
      exact h3 j b1
    · rw [up_n b1]
      exact h4 k b1
  · have ei : i = n := by omega
    subst ei
    have hne : ¬ isS t (p + i) = true := hend (by omega)
    rw [if_neg hne, if_pos (by decide)]
    by_cases i0 : i = 0
    · rw [if_pos (show M1 40 7 ≤ M 40 7 by rw [h1, e]; simp (disch := omega) only [nI_leI, nI_ltI, nI_eq, nI_add, nI_clamp, pk_sub, pk_mul, nI_m1, nI_le0, nI_lt0, nI_0le, nI_0lt, nI_z, inb_nI, decide_eq_true_eq]; omega), if_pos i0]
      refine ⟨rfl, ?_, h3, h4⟩
      dsimp only
      rw [h1, i0, Nat.add_zero]
    · rw [if_neg (show ¬ M1 40 7 ≤ M 40 7 by rw [h1, e]; simp (disch := omega) only [nI_leI, nI_ltI, nI_eq, nI_add, nI_clamp, pk_sub, pk_mul, nI_m1, nI_le0, nI_lt0, nI_0le, nI_0lt, nI_z, inb_nI, decide_eq_true_eq]; omega), if_neg i0]
      refine Ok.bindI (reads_r (p := p + i) (a := 59) x1 ot h1 (by omega) (by omega)) ?_
      rintro ⟨v, M2⟩ ⟨s1, s2, s3, s4⟩
      dsimp only at s1 s2 s3 s4 ⊢
      have f3 : ∀ i, i ≠ 7 → M2 40 i = M 40 i := fun i b1 => by rw [s3 i b1, h3 i b1]
      have f4 : ∀ k, k ≠ 40 → M2 k = M k := fun k b1 => by rw [s4 k b1, h4 k b1]
      by_cases c5 : cc t (p + i) 59 = true
      · rw [if_pos c5] at s1 s2 ⊢
        rw [s1, if_neg (by decide)]
        exact ⟨rfl, s2, f3, f4⟩
      · rw [if_neg c5] at s1 s2 ⊢
        rw [s1, if_pos (by decide)]
        exact ⟨rfl, s2, f3, f4⟩
