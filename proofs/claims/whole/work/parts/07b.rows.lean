theorem Ok.lpN {σ ρ : Type} {body : σ → Option (σ ⊕ ρ)} {P : ρ → Prop} (I : Nat → σ → Prop) (hs : ∀ m s, I m s → Ok (body s) (Sum.elim (fun s' => ∃ m', m' < m ∧ I m' s') P)) {F m0 : Nat} {s0 : σ} (h0 : I m0 s0) (hF : m0 < F) : Ok (lpf body F s0) P := by
  induction F generalizing s0 m0 with
  | zero => omega
  | succ n ih =>
    show Ok ((body s0).bind (Sum.elim (lpf body n) some)) P
    refine Ok.bindI (hs m0 s0 h0) ?_
    intro a ha
    cases a with
    | inl s' =>
      obtain ⟨m', h1, h2⟩ := ha
      exact ih h2 (by omega)
    | inr r => exact ha
theorem copyFrom_t {F : Nat} {M : Mm} {k0 k1 n : Nat} {f : Nat → Nat} (hF : 100 ≤ F) (h : RwP M k1 n f) (hn : n ≤ 60) (e1 : k1 ≠ k0) (e2 : k1 ≠ k0 + 1) (e3 : k1 + 1 ≠ k0) : Ok (f_X3_copyFrom F k0 k1 M) (fun M' => RwP M' k0 n f ∧ ∀ k, k ≠ k0 → k ≠ k0 + 1 → M' k = M k) := by
  unfold f_X3_copyFrom
  refine Ok.lpN (m0 := n) (fun m z => ∃ i, i + m = n ∧ z.1 = nI i ∧ z.2 k0 1 = nI n ∧ (∀ j, j < i → z.2 (k0 + 1) j = nI (f j)) ∧ ∀ k, k ≠ k0 → k ≠ k0 + 1 → z.2 k = M k) ?_ ?_ (by omega)
  · rintro m ⟨a, M1⟩ ⟨i, hi, h1, h2, h3, h4⟩
    dsimp only at h1 h2 h3 h4 ⊢
    subst h1
    simp (disch := omega) only [nI_leI, nI_ltI, nI_eq, nI_add, nI_clamp, pk_sub, pk_mul, nI_m1, nI_le0, nI_lt0, nI_0le, nI_0lt, nI_z, inb_nI, decide_eq_true_eq, h2]
    by_cases hc : n ≤ i
    · rw [if_pos hc]
      exact ⟨⟨h2, fun j hj => h3 j (by omega)⟩, h4⟩
    · rw [if_neg hc, if_pos (by omega), if_pos (by omega)]
      have e : M1 (k1 + 1) i = nI (f i) := by
        rw [h4 (k1 + 1) e3 (by omega)]
        exact h.2 i (by omega)
      refine ⟨m - 1, by omega, i + 1, by omega, rfl, ?_, fun j hj => ?_, fun k g1 g2 => ?_⟩
      · show up M1 (k0 + 1) i _ k0 1 = _
        rw [up_n (by omega)]
        exact h2
      · show up M1 (k0 + 1) i _ (k0 + 1) j = _
        by_cases hj2 : j = i
        · subst hj2
          rw [up_ss]
          exact e
        · rw [up_sn hj2]
          exact h3 j (by omega)
      · show up M1 (k0 + 1) i _ k = _
        rw [up_n g2]
        exact h4 k g1 g2
  · refine ⟨0, by omega, rfl, ?_, fun j hj => by omega, fun k g1 g2 => ?_⟩
    · show up M k0 1 _ k0 1 = _
      rw [up_ss]
      exact h.1
    · exact up_n g1
/-- insert, remove: what a row is then -/
def insF (f : Nat → Nat) (j b : Nat) : Nat → Nat := fun i => if i < j then f i else if i = j then b else f (i - 1)
def remF (f : Nat → Nat) (j : Nat) : Nat → Nat := fun i => if i < j then f i else f (i + 1)
def setF (f : Nat → Nat) (j b : Nat) : Nat → Nat := fun i => if i = j then b else f i
def swpF (f : Nat → Nat) (i j : Nat) : Nat → Nat := fun k => if k = j then f i else if k = i then f j else f k
theorem insert_t {F : Nat} {M : Mm} {k n j b : Nat} {f : Nat → Nat} (hF : 100 ≤ F) (h : RwP M k n f) (hn : n < 60) (hj : j ≤ n) : Ok (f_X3_insert F k (nI j) (nI b) M) (fun M' => RwP M' k (n + 1) (insF f j b) ∧ ∀ k', k' ≠ k → k' ≠ k + 1 → M' k' = M k') := by
  unfold f_X3_insert
  rw [h.1, isAtMost_t (by omega) hj, Option.bind_some, if_neg (by decide), if_pos (by simp (disch := omega) only [nI_leI, nI_ltI, nI_eq, nI_add, nI_clamp, pk_sub, pk_mul, nI_m1, nI_le0, nI_lt0, nI_0le, nI_0lt, nI_z, inb_nI, decide_eq_true_eq]; omega)]
  refine Ok.lpN (m0 := n - j) (fun m z => z.1 = nI (j + m) ∧ j + m ≤ n ∧ z.2 k = M k ∧ (∀ i, i < n + 1 → i ≠ j + m → z.2 (k + 1) i = nI (if i < j + m then f i else f (i - 1))) ∧ ∀ k', k' ≠ k → k' ≠ k + 1 → z.2 k' = M k') ?_ ?_ (by omega)
  · rintro m ⟨a, M1⟩ ⟨h1, hm, h2, h3, h4⟩
    dsimp only at h1 h2 h3 h4 ⊢
    subst h1
    simp (disch := omega) only [nI_leI, nI_ltI, nI_eq, nI_add, nI_clamp, pk_sub, pk_mul, nI_m1, nI_le0, nI_lt0, nI_0le, nI_0lt, nI_z, inb_nI, decide_eq_true_eq]
    by_cases hc : j + m ≤ j
    · rw [if_pos hc, if_pos (by omega)]
      have hm0 : m = 0 := by omega
      subst hm0
      refine ⟨⟨?_, fun i hi => ?_⟩, fun k' g1 g2 => ?_⟩
      · show up (up M1 (k + 1) j (nI b)) k 1 _ k 1 = _
        rw [up_ss, up_n (by omega), h2, h.1, nI_add]
      · show up (up M1 (k + 1) j (nI b)) k 1 _ (k + 1) i = _
        rw [up_n (by omega)]
        by_cases hi2 : i = j
        · subst hi2
          rw [up_ss]
          simp [insF]
        · rw [up_sn hi2, h3 i hi (by omega)]
          simp [insF, hi2]
      · show up (up M1 (k + 1) j (nI b)) k 1 _ k' = _
        rw [up_n g1, up_n g2]
        exact h4 k' g1 g2
    · rw [if_neg hc, if_pos (by omega), if_pos (by omega)]
      refine ⟨m - 1, by omega, ?_, by omega, ?_, fun i hi hne => ?_, fun k' g1 g2 => ?_⟩
      · show nI (j + m - 1) = _
        rw [show j + m - 1 = j + (m - 1) by omega]
      · show up M1 (k + 1) _ _ k = _
        rw [up_n (by omega)]
        exact h2
      · show up M1 (k + 1) (j + m) _ (k + 1) i = _
        by_cases hi2 : i = j + m
        · subst hi2
          rw [up_ss, h3 (j + m - 1) (by omega) (by omega), if_pos (by omega), if_neg (by omega)]
        · rw [up_sn hi2, h3 i hi hi2]
          by_cases hlt : i < j + m
          · rw [if_pos hlt, if_pos (by omega)]
          · rw [if_neg hlt, if_neg (by omega)]
      · show up M1 (k + 1) _ _ k' = _
        rw [up_n g2]
        exact h4 k' g1 g2
  · refine ⟨by rw [show j + (n - j) = n by omega], by omega, rfl, fun i hi hne => ?_, fun k' _ _ => rfl⟩
    rw [if_pos (by omega)]
    exact h.2 i (by omega)
theorem remove_t {F : Nat} {M : Mm} {k n j : Nat} {f : Nat → Nat} (hF : 100 ≤ F) (h : RwP M k n f) (hn : n ≤ 60) (hj : j < n) : Ok (f_X3_remove F k (nI j) M) (fun M' => RwP M' k (n - 1) (remF f j) ∧ ∀ k', k' ≠ k → k' ≠ k + 1 → M' k' = M k') := by
  unfold f_X3_remove
  rw [hasPlace_t h hn hj, Option.bind_some, if_neg (by decide)]
  refine Ok.lpN (m0 := n - 1 - j) (fun m z => z.1 = nI (n - m) ∧ m ≤ n - 1 - j ∧ z.2 k = M k ∧ (∀ i, i < n → z.2 (k + 1) i = nI (if i < j then f i else if i + 1 < n - m then f (i + 1) else f i)) ∧ ∀ k', k' ≠ k → k' ≠ k + 1 → z.2 k' = M k') ?_ ?_ (by omega)
  · rintro m ⟨a, M1⟩ ⟨h1, hm, h2, h3, h4⟩
    dsimp only at h1 h2 h3 h4 ⊢
    subst h1
    simp (disch := omega) only [nI_leI, nI_ltI, nI_eq, nI_add, nI_clamp, pk_sub, pk_mul, nI_m1, nI_le0, nI_lt0, nI_0le, nI_0lt, nI_z, inb_nI, decide_eq_true_eq, h2, h.1]
    by_cases hc : n ≤ n - m
    · rw [if_pos hc]
      have hm0 : m = 0 := by omega
      subst hm0
      refine ⟨⟨?_, fun i hi => ?_⟩, fun k' g1 g2 => ?_⟩
      · exact up_ss
      · show up M1 k 1 _ (k + 1) i = _
        rw [up_n (by omega), h3 i (by omega)]
        unfold remF
        by_cases hij : i < j
        · rw [if_pos hij, if_pos hij]
        · rw [if_neg hij, if_neg hij, if_pos (by omega)]
      · show up M1 k 1 _ k' = _
        rw [up_n g1]
        exact h4 k' g1 g2
    · rw [if_neg hc, if_pos (by omega), if_pos (by omega)]
      refine ⟨m - 1, by omega, ?_, by omega, ?_, fun i hi => ?_, fun k' g1 g2 => ?_⟩
      · show nI (n - m + 1) = _
        rw [show n - m + 1 = n - (m - 1) by omega]
      · show up M1 (k + 1) _ _ k = _
        rw [up_n (by omega)]
        exact h2
      · show up M1 (k + 1) (n - m - 1) _ (k + 1) i = _
        by_cases hi2 : i = n - m - 1
        · subst hi2
          rw [up_ss, h3 (n - m) (by omega), if_neg (by omega), if_neg (by omega), if_neg (by omega), if_pos (by omega), show n - m - 1 + 1 = n - m by omega]
        · rw [up_sn hi2, h3 i hi]
          by_cases hij : i < j
          · rw [if_pos hij, if_pos hij]
          · rw [if_neg hij, if_neg hij]
            by_cases hlt : i + 1 < n - m
            · rw [if_pos hlt, if_pos (by omega)]
            · rw [if_neg hlt, if_neg (by omega)]
      · show up M1 (k + 1) _ _ k' = _
        rw [up_n g2]
        exact h4 k' g1 g2
  · refine ⟨?_, by omega, rfl, fun i hi => ?_, fun k' _ _ => rfl⟩
    · show nI j + nI 1 = _
      rw [nI_add, show j + 1 = n - (n - 1 - j) by omega]
    · show M (k + 1) i = _
      rw [h.2 i hi]
      by_cases hij : i < j
      · rw [if_pos hij]
      · rw [if_neg hij, if_neg (by omega)]
theorem replace_t {M : Mm} {k n j b : Nat} {f : Nat → Nat} (h : RwP M k n f) (hn : n ≤ 60) (hj : j < n) : Ok (f_X3_replace k (nI j) (nI b) M) (fun M' => RwP M' k n (setF f j b) ∧ ∀ k', k' ≠ k → k' ≠ k + 1 → M' k' = M k') := by
  unfold f_X3_replace
  rw [hasPlace_t h hn hj, Option.bind_some, if_neg (by decide)]
  simp (disch := omega) only [nI_leI, nI_ltI, nI_eq, nI_add, nI_clamp, pk_sub, pk_mul, nI_m1, nI_le0, nI_lt0, nI_0le, nI_0lt, nI_z, inb_nI, decide_eq_true_eq]
  rw [if_pos (by omega)]
  refine ⟨⟨?_, fun i hi => ?_⟩, fun k' g1 g2 => up_n g2⟩
  · show up M (k + 1) j _ k 1 = _
    rw [up_n (by omega)]
    exact h.1
  · show up M (k + 1) j _ (k + 1) i = _
    unfold setF
    by_cases hi2 : i = j
    · subst hi2
      rw [up_ss, if_pos rfl]
    · rw [up_sn hi2, if_neg hi2]
      exact h.2 i hi
theorem exchange_t {M : Mm} {k n i j : Nat} {f : Nat → Nat} (h : RwP M k n f) (hn : n ≤ 60) (hi : i < n) (hj : j < n) : Ok (f_X3_exchange k (nI i) (nI j) M) (fun M' => RwP M' k n (swpF f i j) ∧ ∀ k', k' ≠ k → k' ≠ k + 1 → M' k' = M k') := by
  unfold f_X3_exchange
  rw [at_t h hn hi, Option.bind_some, hasPlace_t h hn hi, Option.bind_some, if_neg (by decide), hasPlace_t h hn hj, Option.bind_some, if_neg (by decide)]
  simp (disch := omega) only [nI_leI, nI_ltI, nI_eq, nI_add, nI_clamp, pk_sub, pk_mul, nI_m1, nI_le0, nI_lt0, nI_0le, nI_0lt, nI_z, inb_nI, decide_eq_true_eq]
  rw [if_pos (by omega), if_pos (by omega), if_pos (by omega)]
  refine ⟨⟨?_, fun a ha => ?_⟩, fun k' g1 g2 => ?_⟩
  · show up (up M (k + 1) i _) (k + 1) j _ k 1 = _
    rw [up_n (by omega), up_n (by omega)]
    exact h.1
  · show up (up M (k + 1) i _) (k + 1) j _ (k + 1) a = _
    unfold swpF
    by_cases h1 : a = j
    · subst h1
      rw [up_ss, if_pos rfl]
    · rw [up_sn h1, if_neg h1]
      by_cases h2 : a = i
      · subst h2
        rw [up_ss, if_pos rfl]
        exact h.2 j hj
      · rw [up_sn h2, if_neg h2]
        exact h.2 a ha
  · show up (up M (k + 1) i _) (k + 1) j _ k' = _
    rw [up_n g2, up_n g2]
