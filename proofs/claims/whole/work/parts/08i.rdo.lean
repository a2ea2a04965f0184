/-! the reference does an edit -/
theorem neg_err : ¬ (0 : Int32) ≤ (-1000001) := by decide
theorem putsAll_r {F : Nat} {M : Mm} {t r : Rw} {a b q : Nat} (hF : 100 ≤ F) (h : TxR M t) (ot : okT t) (hr : SqP (M 41) 0 r) (ho : okR r) (hab : a ≤ 99 ∧ b ≤ 99) (hq : q ≤ 100) (hs : ∀ j, j < b → isS t (q + j) = true) : Ok (f_X7_putsAll F (nI a) (nI q) (nI (q + b)) M) (fun z => z.1 = nI (doE t 43 a b q r).1 ∧ SqP (z.2 41) 0 (doE t 43 a b q r).2 ∧ (∀ i, z.2 40 i = M 40 i) ∧ ∀ k, k ≠ 40 → k ≠ 41 → z.2 k = M k) := by
  have h60 := ho.1
  unfold f_X7_putsAll doE
  rw [if_pos (in0 (by omega)), cl0, hr.1, if_pos rfl]
  by_cases h2 : r.1 < a
  · rw [if_neg (by simp (disch := omega) only [nI_leI, nI_ltI, nI_eq, nI_add, nI_clamp, pk_sub, pk_mul, nI_m1, nI_le0, nI_lt0, nI_0le, nI_0lt, nI_z, inb_nI, decide_eq_true_eq]; omega), if_pos h2]
    exact ⟨rfl, hr, fun _ => rfl, fun _ _ _ => rfl⟩
  rw [if_pos (by simp (disch := omega) only [nI_leI, nI_ltI, nI_eq, nI_add, nI_clamp, pk_sub, pk_mul, nI_m1, nI_le0, nI_lt0, nI_0le, nI_0lt, nI_z, inb_nI, decide_eq_true_eq]; omega), if_pos (in0 (by omega)), if_neg h2]
  by_cases h3 : 60 < r.1 + b
  · rw [if_neg (by simp (disch := omega) only [nI_leI, nI_ltI, nI_eq, nI_add, nI_clamp, pk_sub, pk_mul, nI_m1, nI_le0, nI_lt0, nI_0le, nI_0lt, nI_z, inb_nI, decide_eq_true_eq]; omega), if_pos h3]
    exact ⟨rfl, hr, fun _ => rfl, fun _ _ _ => rfl⟩
  rw [if_pos (by simp (disch := omega) only [nI_leI, nI_ltI, nI_eq, nI_add, nI_clamp, pk_sub, pk_mul, nI_m1, nI_le0, nI_lt0, nI_0le, nI_0lt, nI_z, inb_nI, decide_eq_true_eq]; omega), if_neg h3]
  refine Ok.lpN (m0 := b) (fun m z => ∃ j, j + m = b ∧ z.1 = nI (q + j) ∧ SqP (z.2 41) 0 (insK t a q r j) ∧ (∀ i, i ≠ 7 → z.2 40 i = M 40 i) ∧ ∀ k, k ≠ 40 → k ≠ 41 → z.2 k = M k) ?_ ⟨0, by omega, rfl, hr, fun _ _ => rfl, fun _ _ _ => rfl⟩ (by omega)
  rintro m ⟨x, M1⟩ ⟨j, hj, g1, g2, g3, g4⟩
  dsimp only at g1 g2 g3 g4 ⊢
  subst g1
  by_cases hc : b ≤ j
  · have e : b = j := by omega
    rw [if_pos (by simp (disch := omega) only [nI_leI, nI_ltI, nI_eq, nI_add, nI_clamp, pk_sub, pk_mul, nI_m1, nI_le0, nI_lt0, nI_0le, nI_0lt, nI_z, inb_nI, decide_eq_true_eq]; omega), e]
    refine ⟨rfl, ?_, fun i => ?_, fun k b1 b2 => ?_⟩
    · dsimp only
      rw [up_n (by omega)]
      exact g2
    · dsimp only
      by_cases i7 : i = 7
      · rw [i7, up_ss]
      · rw [up_sn i7]
        exact g3 i i7
    · dsimp only
      rw [up_n b1]
      exact g4 k b1 b2
  · have e1 := insK_1 (t := t) (a := a) (q := q) (r := r) j
    have x1 : TxR (up M1 40 7 (nI (q + j))) t := h.keep (by rw [up_sn (by omega)]; exact g3 6 (by omega)) (by rw [up_n (by omega)]; exact g4 45 (by omega) (by omega))
    have es : (nI a + nI (q + j)) - nI q = nI (a + j) := by
      simp (disch := omega) only [nI_leI, nI_ltI, nI_eq, nI_add, nI_clamp, pk_sub, pk_mul, nI_m1, nI_le0, nI_lt0, nI_0le, nI_0lt, nI_z, inb_nI, decide_eq_true_eq]
      rw [show a + (q + j) - q = a + j by omega]
    have hsj := hs j (by omega)
    rw [if_neg (by simp (disch := omega) only [nI_leI, nI_ltI, nI_eq, nI_add, nI_clamp, pk_sub, pk_mul, nI_m1, nI_le0, nI_lt0, nI_0le, nI_0lt, nI_z, inb_nI, decide_eq_true_eq]; omega), symR_t x1 ot up_ss (by omega), Option.bind_some, if_pos hsj, es]
    refine Ok.bindI (puts_t hF (r := insK t a q r j) (by rw [up_n (by omega)]; exact g2) (by omega) (by omega) (sv_lt hsj)) ?_
    rintro ⟨v, M2⟩ ⟨y1, y2, y3⟩
    refine ⟨m - 1, by omega, j + 1, by omega, nI_add (q + j) 1, y2, fun i b1 => ?_, fun k b1 b2 => ?_⟩
    · dsimp only at y3 ⊢
      rw [y3 40 (by omega), up_sn b1]
      exact g3 i b1
    · dsimp only at y3 ⊢
      rw [y3 k b2, up_n b1]
      exact g4 k b1 b2
theorem takesAll_r {F : Nat} {M : Mm} {t r : Rw} {a b q : Nat} (hF : 100 ≤ F) (hr : SqP (M 41) 0 r) (ho : okR r) (hab : a ≤ 99 ∧ b ≤ 99) : Ok (f_X7_takesAll F (nI a) (nI b) M) (fun z => z.1 = nI (doE t 45 a b q r).1 ∧ SqP (z.2 41) 0 (doE t 45 a b q r).2 ∧ ∀ k, k ≠ 41 → z.2 k = M k) := by
  have h60 := ho.1
  unfold f_X7_takesAll doE
  rw [if_pos (in0 (by omega)), cl0, hr.1, nI_add, if_neg (show ¬ 45 = 43 by omega), if_pos rfl]
  by_cases h2 : r.1 < a + b
  · rw [if_neg (by simp (disch := omega) only [nI_leI, nI_ltI, nI_eq, nI_add, nI_clamp, pk_sub, pk_mul, nI_m1, nI_le0, nI_lt0, nI_0le, nI_0lt, nI_z, inb_nI, decide_eq_true_eq]; omega), if_pos h2]
    exact ⟨rfl, hr, fun _ _ => rfl⟩
  rw [if_pos (by simp (disch := omega) only [nI_leI, nI_ltI, nI_eq, nI_add, nI_clamp, pk_sub, pk_mul, nI_m1, nI_le0, nI_lt0, nI_0le, nI_0lt, nI_z, inb_nI, decide_eq_true_eq]; omega), if_neg h2]
  refine Ok.lpN (m0 := b) (fun m z => ∃ j, j + m = b ∧ z.1 = nI j ∧ SqP (z.2 41) 0 (remK a r j) ∧ ∀ k, k ≠ 41 → z.2 k = M k) ?_ ⟨0, by omega, rfl, hr, fun _ _ => rfl⟩ (by omega)
  rintro m ⟨x, M1⟩ ⟨j, hj, g1, g2, g3⟩
  dsimp only at g1 g2 g3 ⊢
  subst g1
  by_cases hc : b ≤ j
  · have e : b = j := by omega
    rw [if_pos (by simp (disch := omega) only [nI_leI, nI_ltI, nI_eq, nI_add, nI_clamp, pk_sub, pk_mul, nI_m1, nI_le0, nI_lt0, nI_0le, nI_0lt, nI_z, inb_nI, decide_eq_true_eq]; omega), e]
    exact ⟨rfl, g2, g3⟩
  · have e1 := remK_1 (a := a) (r := r) j
    rw [if_neg (by simp (disch := omega) only [nI_leI, nI_ltI, nI_eq, nI_add, nI_clamp, pk_sub, pk_mul, nI_m1, nI_le0, nI_lt0, nI_0le, nI_0lt, nI_z, inb_nI, decide_eq_true_eq]; omega)]
    refine Ok.bindI (takes_t hF g2 (by omega) (by omega)) ?_
    rintro ⟨v, M2⟩ ⟨y1, y2, y3⟩
    refine ⟨m - 1, by omega, j + 1, by omega, nI_add j 1, y2, fun k b1 => ?_⟩
    dsimp only at y3 ⊢
    rw [y3 k b1]
    exact g3 k b1
theorem swapsE_r {M : Mm} {t r : Rw} {a b q : Nat} (hr : SqP (M 41) 0 r) (ho : okR r) (hab : a ≤ 99 ∧ b ≤ 99) : Ok ((f_X7_swaps (nI a) (nI b) M).bind fun r25 => if 0 ≤ r25.1 then (some ((nI 0), r25.2)) else (some ((nI 2), r25.2))) (fun z => z.1 = nI (doE t 120 a b q r).1 ∧ SqP (z.2 41) 0 (doE t 120 a b q r).2 ∧ ∀ k, k ≠ 41 → z.2 k = M k) := by
  have h60 := ho.1
  unfold doE
  rw [if_neg (show ¬ 120 = 43 by omega), if_neg (show ¬ 120 = 45 by omega), if_pos rfl]
  by_cases h4 : a < r.1 ∧ b < r.1
  · rw [if_pos h4]
    refine Ok.bindI (swaps_t hr ho h4.1 h4.2) ?_
    rintro ⟨v, M1⟩ ⟨y1, y2, y3⟩
    dsimp only at y1
    rw [if_pos (show (0 : Int32) ≤ v by rw [y1]; split <;> decide)]
    exact ⟨rfl, y2, y3⟩
  · have e : f_X7_swaps (nI a) (nI b) M = some (-1000001, M) := by
      unfold f_X7_swaps
      by_cases h5 : a < r.1
      · have h6 : r.1 ≤ b := by omega
        rw [isPlace_t hr h60 h5, Option.bind_some, if_neg (by decide), isPlace_f hr h60 (Or.inr (by simp (disch := omega) only [nI_leI, nI_ltI, nI_eq, nI_add, nI_clamp, pk_sub, pk_mul, nI_m1, nI_le0, nI_lt0, nI_0le, nI_0lt, nI_z, inb_nI, decide_eq_true_eq]; exact h6)), Option.bind_some, if_pos (by decide)]
      · rw [isPlace_f hr h60 (Or.inr (by simp (disch := omega) only [nI_leI, nI_ltI, nI_eq, nI_add, nI_clamp, pk_sub, pk_mul, nI_m1, nI_le0, nI_lt0, nI_0le, nI_0lt, nI_z, inb_nI, decide_eq_true_eq]; omega)), Option.bind_some, if_pos (by decide)]
    rw [e, Option.bind_some, if_neg neg_err, if_neg h4]
    exact ⟨rfl, hr, fun _ _ => rfl⟩
theorem turnsE_r {F : Nat} {M : Mm} {t r : Rw} {k a b q : Nat} (hF : 100 ≤ F) (hk : ¬ k = 43 ∧ ¬ k = 45 ∧ ¬ k = 120) (hr : SqP (M 41) 0 r) (ho : okR r) (hab : a ≤ 99 ∧ b ≤ 99) : Ok ((f_X7_turns F (nI a) (nI b) M).bind fun r27 => if 0 ≤ r27.1 then (some ((nI 0), r27.2)) else (some ((nI 2), r27.2))) (fun z => z.1 = nI (doE t k a b q r).1 ∧ SqP (z.2 41) 0 (doE t k a b q r).2 ∧ ∀ k, k ≠ 41 → z.2 k = M k) := by
  have h60 := ho.1
  unfold doE
  rw [if_neg hk.1, if_neg hk.2.1, if_neg hk.2.2]
  by_cases h4 : a ≤ b ∧ b ≤ r.1
  · rw [if_pos h4]
    have hc := rvC_le r.2 a b ((b - a) / 2)
    refine Ok.bindI (turns_t hF hr ho h4.1 h4.2) ?_
    rintro ⟨v, M1⟩ ⟨y1, y2, y3⟩
    dsimp only at y1
    rw [if_pos (show (0 : Int32) ≤ v by rw [y1]; exact nI_pos' (by omega))]
    exact ⟨rfl, y2, y3⟩
  · have h5 : nI a < 0 ∨ nI b < nI a ∨ nI r.1 < nI b := by
      right
      by_cases h6 : b < a
      · left
        simp (disch := omega) only [nI_leI, nI_ltI, nI_eq, nI_add, nI_clamp, pk_sub, pk_mul, nI_m1, nI_le0, nI_lt0, nI_0le, nI_0lt, nI_z, inb_nI, decide_eq_true_eq]
        exact h6
      · right
        simp (disch := omega) only [nI_leI, nI_ltI, nI_eq, nI_add, nI_clamp, pk_sub, pk_mul, nI_m1, nI_le0, nI_lt0, nI_0le, nI_0lt, nI_z, inb_nI, decide_eq_true_eq]
        omega
    have e : f_X7_turns F (nI a) (nI b) M = some (-1000001, M) := by
      unfold f_X7_turns
      rw [isSpan_f hr h60 h5, Option.bind_some, if_pos (by decide)]
    rw [e, Option.bind_some, if_neg neg_err, if_neg h4]
    exact ⟨rfl, hr, fun _ _ => rfl⟩
theorem inl01 {τ : Type} {A : Int32 × τ → Prop} {v : Int32} {M : τ} {n : Nat} (hn : n ≤ 1) (e : v = nI n) (h : A (nI n, M)) : Ok (if v = 0 then (some (Sum.inl ((nI 0), M))) else (some (Sum.inl ((nI 1), M))) : Option ((Int32 × τ) ⊕ (Int32 × τ))) (Sum.elim A (fun _ => False)) := by
  subst e
  by_cases h0 : n = 0
  · subst h0
    rw [if_pos (by decide)]
    exact h
  · have h1 : n = 1 := by omega
    subst h1
    rw [if_neg (by decide)]
    exact h
theorem doesNext_r {F : Nat} {M : Mm} {t r : Rw} {p : Nat} (hF : 100 ≤ F) (h : TxR M t) (ot : okT t) (hr : SqP (M 41) 0 r) (ho : okR r) (e : M 40 7 = nI p) (hp : p < t.1) : Ok (f_X7_doesNext F M) (fun z => z.1 = nI (stp t p r).1 ∧ z.2 40 9 = (if (stp t p r).1 = 1 then nI (stp t p r).2.1 else -1000004) ∧ ((stp t p r).1 = 0 → z.2 40 7 = nI (stp t p r).2.2.1) ∧ SqP (z.2 41) 0 (stp t p r).2.2.2 ∧ (∀ i, i ≠ 7 → i ≠ 9 → i ≠ 10 → z.2 40 i = M 40 i) ∧ ∀ k, k ≠ 40 → k ≠ 41 → z.2 k = M k) := by
  have ht := ot.1
  unfold f_X7_doesNext
  rw [sign_t h ot.1 e (by omega), Option.bind_some, kind4]
  have hnd := nd_le t (p + 1)
  refine Ok.jnL (fun z3 => z3 = nI (if okK t p = true then 1 else 0)) ?_ ?_
  · by_cases hk : okK t p = true
    · rw [if_pos ((okK_iff ot).mp hk)]
      refine Ok.inlI ?_
      rw [if_pos hk]
    · rw [if_neg (fun x => hk ((okK_iff ot).mpr x))]
      refine Ok.inlI ?_
      rw [if_neg hk]
  rintro z3 e3
  refine Ok.jnL (fun z4 => z4 = z3) ?_ ?_
  · by_cases hk : okK t p = true
    · rw [if_pos hk] at e3
      rw [e3, if_neg (by decide)]
      exact Ok.inlI rfl
    · rw [if_neg hk] at e3
      rw [e3, if_pos (by decide)]
      exact Ok.inlI rfl
  rintro z4 e4
  subst e4
  have eN : up M 40 9 (-1000004) 40 7 = nI p := by
    rw [up_sn (by omega)]
    exact e
  rw [eN]
  obtain ⟨a1, a2, a3, a4⟩ := rdA_f t p
  refine Ok.jnL (fun z5 => z5.1 = nI (if okK t p = true then (if nd t (p + 1) = 0 then 0 else 1) else 0) ∧ z5.2 40 7 = nI (if okK t p = true then p + 1 + nd t (p + 1) else p) ∧ ((rdA t p).1 = 1 → z5.2 40 10 = nI (rdA t p).2.2) ∧ z5.2 40 9 = -1000004 ∧ (∀ i, i ≠ 7 → i ≠ 9 → i ≠ 10 → z5.2 40 i = M 40 i) ∧ ∀ k, k ≠ 40 → z5.2 k = M k) ?_ ?_
  · by_cases hk : okK t p = true
    · rw [if_pos hk] at e3
      rw [e3, if_neg (by decide), nI_add]
      have x1 : TxR (up (up M 40 9 (-1000004)) 40 7 (nI (p + 1))) t := h.keep (by rw [up_sn (by omega), up_sn (by omega)]) (by rw [up_n (by omega), up_n (by omega)])
      refine Ok.bindI (readsNumber_r hF x1 ot up_ss (by omega)) ?_
      rintro ⟨v, M1⟩ ⟨y1, y2, y3, y4, y5⟩
      dsimp only at y1 y2 y3 y4 y5 ⊢
      refine inl01 (by split <;> omega) y1 ⟨?_, ?_, fun g => ?_, ?_, fun i b1 b2 b3 => ?_, fun k b1 => ?_⟩
      · dsimp only
        rw [if_pos hk]
      · dsimp only
        rw [if_pos hk]
        exact y2
      · dsimp only
        unfold rdA at g ⊢
        rw [if_pos hk] at g ⊢
        by_cases n0 : nd t (p + 1) = 0
        · rw [if_pos n0] at g
          exact absurd g (by dsimp only; omega)
        rw [if_neg n0] at g ⊢
        by_cases c4 : cc t (p + 1 + nd t (p + 1)) 44 = true
        · rw [if_pos c4]
          exact y3 n0
        · rw [if_neg c4] at g
          exact absurd g (by dsimp only; omega)
      · dsimp only
        rw [y4 9 (by omega) (by omega), up_sn (by omega), up_ss]
      · dsimp only
        rw [y4 i b1 b3, up_sn b1, up_sn b2]
      · dsimp only
        rw [y5 k b1, up_n b1, up_n b1]
    · rw [if_neg hk] at e3
      rw [e3, if_pos (by decide), nI_add, Nat.add_zero]
      have eA : rdA t p = (0, p, 0) := by
        unfold rdA
        rw [if_neg hk]
      refine Ok.inlI ⟨?_, ?_, fun g => ?_, ?_, fun i b1 b2 b3 => ?_, fun k b1 => ?_⟩
      · dsimp only
        rw [if_neg hk]
      · dsimp only
        rw [if_neg hk, up_ss]
      · rw [eA] at g
        exact absurd g (by dsimp only; omega)
      · dsimp only
        rw [up_sn (by omega), up_ss]
      · dsimp only
        rw [up_sn b1, up_sn b2]
      · dsimp only
        rw [up_n b1, up_n b1]
  clear e3
  rintro ⟨v5, M5⟩ ⟨y1, y2, y3, y4, y5, y6⟩
  dsimp only at y1 y2 y3 y4 y5 y6 ⊢
  have x5 : TxR M5 t := h.keep (y5 6 (by omega) (by omega) (by omega)) (y6 45 (by omega))
  refine Ok.jnL (fun z8 => z8.1 = nI (rdA t p).1 ∧ z8.2 40 7 = nI (rdA t p).2.1 ∧ z8.2 40 9 = -1000004 ∧ (∀ i, i ≠ 7 → i ≠ 9 → i ≠ 10 → z8.2 40 i = M 40 i) ∧ ∀ k, k ≠ 40 → z8.2 k = M k) ?_ ?_
  · by_cases hk : okK t p = true
    · rw [if_pos hk] at y1 y2
      by_cases n0 : nd t (p + 1) = 0
      · have eA : rdA t p = (0, p + 1, 0) := by
          unfold rdA
          rw [if_pos hk, if_pos n0]
        rw [if_pos n0] at y1
        rw [y1, if_pos (by decide), eA]
        refine Ok.inlI ⟨rfl, ?_, y4, y5, y6⟩
        dsimp only
        rw [y2, n0, Nat.add_zero]
      rw [if_neg n0] at y1
      rw [y1, if_neg (by decide)]
      refine Ok.bindI (reads_r (p := p + 1 + nd t (p + 1)) (a := 44) x5 ot y2 (by omega) (by omega)) ?_
      rintro ⟨v, M1⟩ ⟨s1, s2, s3, s4⟩
      dsimp only at s1 s2 s3 s4 ⊢
      have eA : rdA t p = (if cc t (p + 1 + nd t (p + 1)) 44 = true then (1, p + 1 + nd t (p + 1) + 1, nv t (p + 1)) else (0, p + 1 + nd t (p + 1), 0)) := by
        unfold rdA
        rw [if_pos hk, if_neg n0]
      refine inl01 (n := (rdA t p).1) a1 ?_ ⟨rfl, ?_, ?_, fun i b1 b2 b3 => ?_, fun k b1 => ?_⟩
      · rw [s1, eA]
        by_cases c4 : cc t (p + 1 + nd t (p + 1)) 44 = true
        · rw [if_pos c4, if_pos c4]
        · rw [if_neg c4, if_neg c4]
      · dsimp only
        rw [s2, eA]
        by_cases c4 : cc t (p + 1 + nd t (p + 1)) 44 = true
        · rw [if_pos c4, if_pos c4]
        · rw [if_neg c4, if_neg c4, Nat.add_zero]
      · dsimp only
        rw [s3 9 (by omega)]
        exact y4
      · dsimp only
        rw [s3 i b1]
        exact y5 i b1 b2 b3
      · dsimp only
        rw [s4 k b1]
        exact y6 k b1
    · rw [if_neg hk] at y1 y2
      have eA : rdA t p = (0, p, 0) := by
        unfold rdA
        rw [if_neg hk]
      rw [y1, if_pos (by decide), eA]
      exact Ok.inlI ⟨rfl, y2, y4, y5, y6⟩
  clear y1 y2 y4 y5 y6 x5
  rintro ⟨v8, M8⟩ ⟨y1, y2, y4, y5, y6⟩
  dsimp only at y1 y2 y4 y5 y6 ⊢
  have x8 : TxR M8 t := h.keep (y5 6 (by omega) (by omega) (by omega)) (y6 45 (by omega))
  obtain ⟨b1, b2, b3, b4⟩ := rdB_f t (t.2 p) (rdA t p).2.1
  obtain ⟨f1, f2, f3, f4⟩ := ed_f t p
  have e5 : chI t p = nI (t.2 p) := if_pos hp
  have hc := ot.2 p hp
  rw [e5]
  refine Ok.jnL (fun z11 => z11.1 = nI (fst0 t p) ∧ z11.2 40 7 = nI (endE t p) ∧ (fst0 t p = 1 → ¬ t.2 p = 43 → z11.2 40 10 = nI (edB t p)) ∧ z11.2 40 9 = -1000004 ∧ (∀ i, i ≠ 7 → i ≠ 9 → i ≠ 10 → z11.2 40 i = M 40 i) ∧ ∀ k, k ≠ 40 → z11.2 k = M k) ?_ ?_
  · by_cases h0 : (rdA t p).1 = 0
    · have eF : fst0 t p = 0 := if_pos h0
      have eE : endE t p = (rdA t p).2.1 := if_pos h0
      rw [y1, h0, if_pos (by decide), eF, eE]
      exact Ok.inlI ⟨rfl, y2, fun g => absurd g (by omega), y4, y5, y6⟩
    have h1 : (rdA t p).1 = 1 := by omega
    obtain ⟨c1, c2, c3, c4⟩ := a4 h1
    have eF : fst0 t p = (rdB t (t.2 p) (rdA t p).2.1).1 := if_neg h0
    have eE : endE t p = (rdB t (t.2 p) (rdA t p).2.1).2.1 := if_neg h0
    rw [y1, h1, if_neg (by decide), eF, eE]
    by_cases k43 : t.2 p = 43
    · rw [if_pos (by rw [k43]), k43]
      rw [k43] at b1
      refine Ok.bindI (readsSymbols_r hF x8 ot y2 (by omega) (by omega)) ?_
      rintro ⟨v, M1⟩ ⟨s1, s2, s3, s4⟩
      dsimp only at s1 s2 s3 s4 ⊢
      refine inl01 b1 s1 ⟨rfl, s2, fun _ g => absurd rfl g, ?_, fun i b1 b2 b3 => ?_, fun k b1 => ?_⟩
      · dsimp only
        rw [s3 9 (by omega)]
        exact y4
      · dsimp only
        rw [s3 i b1]
        exact y5 i b1 b2 b3
      · dsimp only
        rw [s4 k b1]
        exact y6 k b1
    · have eB : rdB t (t.2 p) (rdA t p).2.1 = (if nd t (rdA t p).2.1 = 0 then (0, (rdA t p).2.1, 0) else if cc t ((rdA t p).2.1 + nd t (rdA t p).2.1) 59 = true then (1, (rdA t p).2.1 + nd t (rdA t p).2.1 + 1, nv t (rdA t p).2.1) else (0, (rdA t p).2.1 + nd t (rdA t p).2.1, 0)) := if_neg k43
      show Ok _ (Sum.elim (fun z11 : Int32 × Mm => z11.1 = nI (rdB t (t.2 p) (rdA t p).2.1).1 ∧ z11.2 40 7 = nI (rdB t (t.2 p) (rdA t p).2.1).2.1 ∧ ((rdB t (t.2 p) (rdA t p).2.1).1 = 1 → ¬ t.2 p = 43 → z11.2 40 10 = nI (rdB t (t.2 p) (rdA t p).2.1).2.2) ∧ z11.2 40 9 = -1000004 ∧ (∀ i, i ≠ 7 → i ≠ 9 → i ≠ 10 → z11.2 40 i = M 40 i) ∧ ∀ k, k ≠ 40 → z11.2 k = M k) (fun _ => False))
      rw [if_neg (by simp (disch := omega) only [nI_leI, nI_ltI, nI_eq, nI_add, nI_clamp, pk_sub, pk_mul, nI_m1, nI_le0, nI_lt0, nI_0le, nI_0lt, nI_z, inb_nI, decide_eq_true_eq]; exact k43)]
      refine Ok.bindI (readsNumber_r hF x8 ot y2 (by omega)) ?_
      rintro ⟨v, M1⟩ ⟨s1, s2, s3, s4, s5⟩
      dsimp only at s1 s2 s3 s4 s5 ⊢
      by_cases n0 : nd t (rdA t p).2.1 = 0
      · rw [if_pos n0] at s1 eB
        rw [s1, if_pos (by decide), eB]
        refine Ok.inlI ⟨rfl, ?_, fun g => absurd g (by dsimp only; omega), ?_, fun i b1 b2 b3 => ?_, fun k b1 => ?_⟩
        · dsimp only
          rw [s2, n0, Nat.add_zero]
        · dsimp only
          rw [s4 9 (by omega) (by omega)]
          exact y4
        · dsimp only
          rw [s4 i b1 b3]
          exact y5 i b1 b2 b3
        · dsimp only
          rw [s5 k b1]
          exact y6 k b1
      have hnd2 := nd_le t (rdA t p).2.1
      rw [if_neg n0] at s1 eB
      rw [s1, if_neg (by decide)]
      have x9 : TxR M1 t := x8.keep (s4 6 (by omega) (by omega)) (s5 45 (by omega))
      refine Ok.bindI (reads_r (p := (rdA t p).2.1 + nd t (rdA t p).2.1) (a := 59) x9 ot s2 (by omega) (by omega)) ?_
      rintro ⟨v2, M2⟩ ⟨w1, w2, w3, w4⟩
      dsimp only at w1 w2 w3 w4 ⊢
      refine inl01 b1 ?_ ⟨rfl, ?_, fun g _ => ?_, ?_, fun i b1 b2 b3 => ?_, fun k b1 => ?_⟩
      · rw [w1, eB]
        by_cases c5 : cc t ((rdA t p).2.1 + nd t (rdA t p).2.1) 59 = true
        · rw [if_pos c5, if_pos c5]
        · rw [if_neg c5, if_neg c5]
      · dsimp only
        rw [w2, eB]
        by_cases c5 : cc t ((rdA t p).2.1 + nd t (rdA t p).2.1) 59 = true
        · rw [if_pos c5, if_pos c5]
        · rw [if_neg c5, if_neg c5, Nat.add_zero]
      · dsimp only
        rw [w3 10 (by omega), s3 n0]
        rw [eB] at g ⊢
        by_cases c5 : cc t ((rdA t p).2.1 + nd t (rdA t p).2.1) 59 = true
        · rw [if_pos c5]
        · rw [if_neg c5] at g
          exact absurd g (by dsimp only; omega)
      · dsimp only
        rw [w3 9 (by omega), s4 9 (by omega) (by omega)]
        exact y4
      · dsimp only
        rw [w3 i b1, s4 i b1 b3]
        exact y5 i b1 b2 b3
      · dsimp only
        rw [w4 k b1, s5 k b1]
        exact y6 k b1
  clear y1 y4 y5 y6 x8
  rintro ⟨vB, MB⟩ ⟨y1, z2, z3, y4, y5, y6⟩
  dsimp only at y1 z2 z3 y4 y5 y6 ⊢
  have xB : TxR MB t := h.keep (y5 6 (by omega) (by omega) (by omega)) (y6 45 (by omega))
  have sB : SqP (MB 41) 0 r := by
    rw [y6 41 (by omega)]
    exact hr
  unfold stp
  by_cases hf : fst0 t p = 1
  · obtain ⟨c1, c2, c3, c4, c5, c6, c7⟩ := f4 hf
    obtain ⟨k1, k2⟩ := okK_in c1
    have r1 : (rdA t p).1 = 1 := by
      by_cases h0 : (rdA t p).1 = 0
      · have eF : fst0 t p = 0 := if_pos h0
        omega
      · omega
    obtain ⟨e1, e2, e9⟩ := doE_f t (t.2 p) (edA t p) (edB t p) (edQ t p) ho (fun g => (c7 g).1)
    rw [if_pos hf, y1, hf, if_neg (by decide), y3 r1]
    dsimp only
    rw [if_neg e9]
    by_cases k43 : t.2 p = 43
    · obtain ⟨d1, d2⟩ := c7 k43
      have eE : MB 40 7 - nI 1 = nI (edQ t p + edB t p) := by
        rw [z2, d2]
        simp (disch := omega) only [nI_leI, nI_ltI, nI_eq, nI_add, nI_clamp, pk_sub, pk_mul, nI_m1, nI_le0, nI_lt0, nI_0le, nI_0lt, nI_z, inb_nI, decide_eq_true_eq]
        rfl
      rw [if_pos (by rw [k43]), k43, y2, eE]
      refine Ok.bindI (putsAll_r hF xB ot sB ho ⟨c4, c5⟩ (by omega) d1) ?_
      rintro ⟨v, M1⟩ ⟨s1, s2, s3, s4⟩
      refine ⟨s1, ?_, fun _ => ?_, s2, fun i b1 b2 b3 => ?_, fun k b1 b2 => ?_⟩
      · dsimp only at s3 ⊢
        rw [s3]
        exact y4
      · dsimp only at s3 ⊢
        rw [s3]
        exact z2
      · dsimp only at s3 ⊢
        rw [s3]
        exact y5 i b1 b2 b3
      · dsimp only at s4 ⊢
        rw [s4 k b1 b2]
        exact y6 k b1
    rw [if_neg (by simp (disch := omega) only [nI_leI, nI_ltI, nI_eq, nI_add, nI_clamp, pk_sub, pk_mul, nI_m1, nI_le0, nI_lt0, nI_0le, nI_0lt, nI_z, inb_nI, decide_eq_true_eq]; exact k43), z3 hf k43]
    have fin : ∀ (v : Int32) (M1 : Mm), (v = nI (doE t (t.2 p) (edA t p) (edB t p) (edQ t p) r).1 ∧ SqP (M1 41) 0 (doE t (t.2 p) (edA t p) (edB t p) (edQ t p) r).2 ∧ ∀ k, k ≠ 41 → M1 k = MB k) → v = nI (doE t (t.2 p) (edA t p) (edB t p) (edQ t p) r).1 ∧ M1 40 9 = -1000004 ∧ ((doE t (t.2 p) (edA t p) (edB t p) (edQ t p) r).1 = 0 → M1 40 7 = nI (endE t p)) ∧ SqP (M1 41) 0 (doE t (t.2 p) (edA t p) (edB t p) (edQ t p) r).2 ∧ (∀ i, i ≠ 7 → i ≠ 9 → i ≠ 10 → M1 40 i = M 40 i) ∧ ∀ k, k ≠ 40 → k ≠ 41 → M1 k = M k := by
      rintro v M1 ⟨s1, s2, s3⟩
      have s4 := s3 40 (by omega)
      refine ⟨s1, by rw [s4]; exact y4, fun _ => by rw [s4]; exact z2, s2, fun i b1 b2 b3 => by rw [s4]; exact y5 i b1 b2 b3, fun k b1 b2 => by rw [s3 k b2]; exact y6 k b1⟩
    by_cases k45 : t.2 p = 45
    · rw [if_pos (by rw [k45])]
      refine Ok.bindI (takesAll_r (t := t) (q := edQ t p) hF sB ho ⟨c4, c5⟩) ?_
      rintro ⟨v, M1⟩ g
      rw [← k45] at g
      exact fin v M1 g
    rw [if_neg (by simp (disch := omega) only [nI_leI, nI_ltI, nI_eq, nI_add, nI_clamp, pk_sub, pk_mul, nI_m1, nI_le0, nI_lt0, nI_0le, nI_0lt, nI_z, inb_nI, decide_eq_true_eq]; exact k45)]
    by_cases k120 : t.2 p = 120
    · rw [if_pos (by rw [k120])]
      refine (swapsE_r (t := t) (q := edQ t p) sB ho ⟨c4, c5⟩).mono ?_
      rintro ⟨v, M1⟩ g
      rw [← k120] at g
      exact fin v M1 g
    · rw [if_neg (by simp (disch := omega) only [nI_leI, nI_ltI, nI_eq, nI_add, nI_clamp, pk_sub, pk_mul, nI_m1, nI_le0, nI_lt0, nI_0le, nI_0lt, nI_z, inb_nI, decide_eq_true_eq]; exact k120)]
      refine (turnsE_r (t := t) (q := edQ t p) (k := t.2 p) hF ⟨k43, k45, k120⟩ sB ho ⟨c4, c5⟩).mono ?_
      rintro ⟨v, M1⟩ g
      exact fin v M1 g
  · have hf0 : fst0 t p = 0 := by omega
    rw [if_neg hf, y1, hf0, if_pos (by decide), z2, e]
    dsimp only
    rw [if_pos rfl]
    refine ⟨rfl, ?_, fun g => absurd g (by omega), ?_, fun i b1 b2 b3 => ?_, fun k b1 b2 => ?_⟩
    · dsimp only
      rw [up_ss]
      simp (disch := omega) only [nI_leI, nI_ltI, nI_eq, nI_add, nI_clamp, pk_sub, pk_mul, nI_m1, nI_le0, nI_lt0, nI_0le, nI_0lt, nI_z, inb_nI, decide_eq_true_eq]
    · dsimp only
      rw [up_n (by omega)]
      exact sB
    · dsimp only
      rw [up_sn b2]
      exact y5 i b1 b2 b3
    · dsimp only
      rw [up_n b1]
      exact y6 k b1
