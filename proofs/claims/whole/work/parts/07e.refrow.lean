theorem cl0 : Int32.toNatClampNeg (nI 0) = 0 := by decide
theorem in0 {n : Nat} (h : 0 < n) : inb (nI 0) n = true := by rw [inb_nI (by omega)]; exact h
theorem puts_t {F : Nat} {M : Mm} {r : Rw} {j b : Nat} (hF : 100 ≤ F) (h : SqP (M 41) 0 r) (hn : r.1 < 60) (hj : j ≤ r.1) (hb : b < 16) : Ok (f_X7_puts F (nI j) (nI b) M) (fun z => z.1 = nI (r.1 + 1) ∧ SqP (z.2 41) 0 (r.1 + 1, insF r.2 j b) ∧ ∀ k, k ≠ 41 → z.2 k = M k) := by
  obtain ⟨n, f⟩ := r
  dsimp only at hn hj ⊢
  have h0 : M 41 0 = nI n := h.1
  have hel : ∀ i, i < n → M 41 (1 + i) = nI (f i) := fun i hi => h.el hi
  unfold f_X7_puts
  rw [cl0, h0, if_pos (in0 (by omega)), in_t (by omega) (by omega) hj, Option.bind_some, if_neg (by decide), in_t (by omega) (by omega) (by omega), Option.bind_some, if_neg (by decide), if_pos (in0 (by omega)), if_neg (by simp (disch := omega) only [nI_leI, nI_ltI, nI_eq, nI_add, nI_clamp, pk_sub, pk_mul, nI_m1, nI_le0, nI_lt0, nI_0le, nI_0lt, nI_z, inb_nI, decide_eq_true_eq]; omega), if_pos (in0 (by omega))]
  refine Ok.lpN (m0 := n - j) (fun m z => z.1 = nI (j + m) ∧ j + m ≤ n ∧ z.2 41 0 = nI n ∧ (∀ i, i < n + 1 → i ≠ j + m → z.2 41 (1 + i) = nI (if i < j + m then f i else f (i - 1))) ∧ ∀ k', k' ≠ 41 → z.2 k' = M k') ?_ ?_ (by omega)
  · rintro m ⟨a, M1⟩ ⟨h1, hm, h2, h3, h4⟩
    dsimp only at h1 h2 h3 h4 ⊢
    subst h1
    have e0 : ∀ x : Int32, up M1 41 (1 + j) x 41 0 = nI n := fun x => by
      rw [up_sn (by omega)]
      exact h2
    simp (disch := omega) only [nI_leI, nI_ltI, nI_eq, nI_add, nI_clamp, pk_sub, pk_mul, nI_m1, nI_le0, nI_lt0, nI_0le, nI_0lt, nI_z, inb_nI, decide_eq_true_eq, e0]
    by_cases hc : j + m ≤ j
    · rw [if_pos hc, if_pos (by omega), if_pos (by omega)]
      have hm0 : m = 0 := by omega
      subst hm0
      refine ⟨?_, ⟨?_, fun i hi => ?_⟩, fun k' g1 => ?_⟩
      · show up (up M1 41 (1 + j) (nI b)) 41 0 _ 41 0 = _
        exact up_ss
      · show up (up M1 41 (1 + j) (nI b)) 41 0 _ 41 0 = _
        exact up_ss
      · show up (up M1 41 (1 + j) (nI b)) 41 0 _ 41 (0 + 1 + i) = _
        dsimp only at hi ⊢
        rw [show 0 + 1 + i = 1 + i by omega, up_sn (by omega)]
        by_cases hi2 : i = j
        · subst hi2
          rw [up_ss]
          simp [insF]
        · rw [up_sn (by omega), h3 i hi (by omega)]
          simp [insF, hi2]
      · show up (up M1 41 (1 + j) (nI b)) 41 0 _ k' = _
        rw [up_n g1, up_n g1]
        exact h4 k' g1
    · rw [if_neg hc, if_pos (by omega), if_pos (by omega)]
      refine ⟨m - 1, by omega, ?_, by omega, ?_, fun i hi hne => ?_, fun k' g1 => ?_⟩
      · show nI (j + m - 1) = _
        rw [show j + m - 1 = j + (m - 1) by omega]
      · show up M1 41 _ _ 41 0 = _
        rw [up_sn (by omega)]
        exact h2
      · show up M1 41 (1 + (j + m)) _ 41 (1 + i) = _
        by_cases hi2 : i = j + m
        · subst hi2
          rw [up_ss, show 1 + (j + m) - 1 = 1 + (j + m - 1) by omega, h3 (j + m - 1) (by omega) (by omega), if_pos (by omega), if_neg (by omega)]
        · rw [up_sn (by omega), h3 i hi hi2]
          by_cases hlt : i < j + m
          · rw [if_pos hlt, if_pos (by omega)]
          · rw [if_neg hlt, if_neg (by omega)]
      · show up M1 41 _ _ k' = _
        rw [up_n g1]
        exact h4 k' g1
  · refine ⟨by rw [show j + (n - j) = n by omega], by omega, h0, fun i hi hne => ?_, fun k' _ => rfl⟩
    rw [if_pos (by omega)]
    exact hel i (by omega)
theorem takes_t {F : Nat} {M : Mm} {r : Rw} {j : Nat} (hF : 100 ≤ F) (h : SqP (M 41) 0 r) (hn : r.1 ≤ 60) (hj : j < r.1) : Ok (f_X7_takes F (nI j) M) (fun z => z.1 = nI (r.2 j) ∧ SqP (z.2 41) 0 (r.1 - 1, remF r.2 j) ∧ ∀ k, k ≠ 41 → z.2 k = M k) := by
  unfold f_X7_takes
  rw [isPlace_t h hn hj, Option.bind_some, if_neg (by decide)]
  obtain ⟨n, f⟩ := r
  dsimp only at hn hj ⊢
  have h0 : M 41 0 = nI n := h.1
  have hel : ∀ i, i < n → M 41 (1 + i) = nI (f i) := fun i hi => h.el hi
  simp (disch := omega) only [nI_leI, nI_ltI, nI_eq, nI_add, nI_clamp, pk_sub, pk_mul, nI_m1, nI_le0, nI_lt0, nI_0le, nI_0lt, nI_z, inb_nI, decide_eq_true_eq, h0]
  rw [if_pos (by omega), if_pos (by omega), if_pos (by omega)]
  refine Ok.lpN (m0 := n - 1 - j) (fun m z => z.1 = nI (n - 1 - m) ∧ m ≤ n - 1 - j ∧ z.2 41 0 = nI (n - 1) ∧ (∀ i, i < n → z.2 41 (1 + i) = nI (if i < j then f i else if i < n - 1 - m then f (i + 1) else f i)) ∧ ∀ k', k' ≠ 41 → z.2 k' = M k') ?_ ?_ (by omega)
  · rintro m ⟨a, M1⟩ ⟨h1, hm, h2, h3, h4⟩
    dsimp only at h1 h2 h3 h4 ⊢
    subst h1
    simp (disch := omega) only [nI_leI, nI_ltI, nI_eq, nI_add, nI_clamp, pk_sub, pk_mul, nI_m1, nI_le0, nI_lt0, nI_0le, nI_0lt, nI_z, inb_nI, decide_eq_true_eq, h2]
    rw [if_pos (by omega)]
    by_cases hc : n - 1 ≤ n - 1 - m
    · rw [if_pos hc]
      refine ⟨?_, ⟨h2, fun i hi => ?_⟩, h4⟩
      · show M 41 (1 + j) = _
        exact hel j hj
      · dsimp only at hi ⊢
        rw [show 0 + 1 + i = 1 + i by omega, h3 i (by omega)]
        unfold remF
        by_cases hij : i < j
        · rw [if_pos hij, if_pos hij]
        · rw [if_neg hij, if_neg hij, if_pos (by omega)]
    · rw [if_neg hc, if_pos (by omega), if_pos (by omega)]
      refine ⟨m - 1, by omega, ?_, by omega, ?_, fun i hi => ?_, fun k' g1 => ?_⟩
      · show nI (n - 1 - m + 1) = _
        rw [show n - 1 - m + 1 = n - 1 - (m - 1) by omega]
      · show up M1 41 _ _ 41 0 = _
        rw [up_sn (by omega)]
        exact h2
      · show up M1 41 (1 + (n - 1 - m)) _ 41 (1 + i) = _
        by_cases hi2 : i = n - 1 - m
        · subst hi2
          rw [up_ss, show 1 + (n - 1 - m) + 1 = 1 + (n - 1 - m + 1) by omega, h3 (n - 1 - m + 1) (by omega), if_neg (by omega), if_neg (by omega), if_neg (by omega), if_pos (by omega)]
        · rw [up_sn (by omega), h3 i hi]
          by_cases hij : i < j
          · rw [if_pos hij, if_pos hij]
          · rw [if_neg hij, if_neg hij]
            by_cases hlt : i < n - 1 - m
            · rw [if_pos hlt, if_pos (by omega)]
            · rw [if_neg hlt, if_neg (by omega)]
      · show up M1 41 _ _ k' = _
        rw [up_n g1]
        exact h4 k' g1
  · refine ⟨?_, by omega, (show up M 41 0 _ 41 0 = _ from up_ss), fun i hi => ?_, fun k' g => up_n g⟩
    · show nI j = _
      rw [show n - 1 - (n - 1 - j) = j by omega]
    · show up M 41 0 _ 41 (1 + i) = _
      rw [up_sn (by omega), hel i hi]
      by_cases hij : i < j
      · rw [if_pos hij]
      · rw [if_neg hij, if_neg (by omega)]
theorem swaps_t {M : Mm} {r : Rw} {i j : Nat} (h : SqP (M 41) 0 r) (ho : okR r) (hi : i < r.1) (hj : j < r.1) : Ok (f_X7_swaps (nI i) (nI j) M) (fun z => z.1 = nI (if r.2 i = r.2 j then 0 else 1) ∧ SqP (z.2 41) 0 (r.1, swpF r.2 i j) ∧ ∀ k, k ≠ 41 → z.2 k = M k) := by
  have hn := ho.1
  unfold f_X7_swaps
  rw [isPlace_t h hn hi, Option.bind_some, if_neg (by decide), isPlace_t h hn hj, Option.bind_some, if_neg (by decide)]
  obtain ⟨n, f⟩ := r
  dsimp only at hn hi hj ⊢
  have h0 : M 41 0 = nI n := h.1
  have hel : ∀ i, i < n → M 41 (1 + i) = nI (f i) := fun i hi => h.el hi
  have hs : ∀ i, i < n → f i < 16 := ho.2
  have e2 : up (up M 41 (1 + i) (nI (f j))) 41 (1 + j) (nI (f i)) 41 (1 + i) = nI (f j) := by
    by_cases hij : i = j
    · subst hij
      rw [up_ss]
    · rw [up_sn (by omega), up_ss]
  have b1 := hs i hi
  have b2 := hs j hj
  simp (disch := omega) only [nI_leI, nI_ltI, nI_eq, nI_add, nI_clamp, pk_sub, pk_mul, nI_m1, nI_le0, nI_lt0, nI_0le, nI_0lt, nI_z, inb_nI, decide_eq_true_eq, hel i hi, hel j hj, e2]
  rw [if_pos (by omega), if_pos (by omega), if_pos (by omega), if_pos (by omega), if_pos (by omega)]
  have fin : SqP ((up (up M 41 (1 + i) (nI (f j))) 41 (1 + j) (nI (f i))) 41) 0 (n, swpF f i j) ∧ ∀ k, k ≠ 41 → (up (up M 41 (1 + i) (nI (f j))) 41 (1 + j) (nI (f i))) k = M k := by
    refine ⟨⟨?_, fun a ha => ?_⟩, fun k g => ?_⟩
    · rw [up_sn (by omega), up_sn (by omega)]
      exact h0
    · dsimp only at ha ⊢
      rw [show 0 + 1 + a = 1 + a by omega]
      unfold swpF
      by_cases h1 : a = j
      · subst h1
        rw [up_ss, if_pos rfl]
      · rw [up_sn (by omega), if_neg h1]
        by_cases h2 : a = i
        · subst h2
          rw [up_ss, if_pos rfl]
        · rw [up_sn (by omega), if_neg h2]
          exact hel a ha
    · rw [up_n g, up_n g]
  by_cases hf : f i = f j
  · rw [if_pos hf, if_pos hf]
    exact ⟨rfl, fin⟩
  · rw [if_neg hf, if_neg hf]
    exact ⟨rfl, fin⟩
