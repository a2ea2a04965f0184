/-! one edit's doing -/
def insK (t : Rw) (a q : Nat) (r : Rw) : Nat → Rw
  | 0 => r
  | j + 1 => ((insK t a q r j).1 + 1, insF (insK t a q r j).2 (a + j) (sv t (q + j)))
def remK (a : Nat) (r : Rw) : Nat → Rw
  | 0 => r
  | j + 1 => ((remK a r j).1 - 1, remF (remK a r j).2 a)
theorem insK_1 {t : Rw} {a q : Nat} {r : Rw} : ∀ j, (insK t a q r j).1 = r.1 + j
  | 0 => rfl
  | j + 1 => by
    show (insK t a q r j).1 + 1 = _
    rw [insK_1 j, Nat.add_assoc]
theorem remK_1 {a : Nat} {r : Rw} : ∀ j, (remK a r j).1 = r.1 - j
  | 0 => rfl
  | j + 1 => by
    show (remK a r j).1 - 1 = _
    rw [remK_1 j, Nat.sub_sub]
theorem insK_ok {t : Rw} {a q n : Nat} {r : Rw} (ho : okR r) (ha : a ≤ r.1) (hn : r.1 + n ≤ 60) (hs : ∀ j, j < n → isS t (q + j) = true) : ∀ j, j ≤ n → okR (insK t a q r j)
  | 0, _ => ho
  | j + 1, hj => by
    have h1 := insK_ok ho ha hn hs j (by omega)
    have h2 := insK_1 (t := t) (a := a) (q := q) (r := r) j
    exact h1.ins (by omega) (by omega) (sv_lt (hs j (by omega)))
theorem remK_ok {a n : Nat} {r : Rw} (ho : okR r) (hn : a + n ≤ r.1) : ∀ j, j ≤ n → okR (remK a r j)
  | 0, _ => ho
  | j + 1, hj => by
    have h1 := remK_ok ho hn j (by omega)
    have h2 := remK_1 (a := a) (r := r) j
    exact h1.rem (by omega)
def doE (t : Rw) (k a b q : Nat) (r : Rw) : Nat × Rw :=
  if k = 43 then (if r.1 < a then (2, r) else if 60 < r.1 + b then (3, r) else (0, insK t a q r b))
  else if k = 45 then (if r.1 < a + b then (2, r) else (0, remK a r b))
  else if k = 120 then (if a < r.1 ∧ b < r.1 then (0, (r.1, swpF r.2 a b)) else (2, r))
  else (if a ≤ b ∧ b ≤ r.1 then (0, (r.1, rvF r.2 a b ((b - a) / 2))) else (2, r))
theorem doE_f (t : Rw) (k a b q : Nat) {r : Rw} (ho : okR r) (hs : k = 43 → ∀ j, j < b → isS t (q + j) = true) : (doE t k a b q r).1 ≤ 3 ∧ okR (doE t k a b q r).2 ∧ (doE t k a b q r).1 ≠ 1 := by
  unfold doE
  by_cases h1 : k = 43
  · rw [if_pos h1]
    by_cases h2 : r.1 < a
    · rw [if_pos h2]
      exact ⟨by dsimp only; omega, ho, by dsimp only; omega⟩
    · rw [if_neg h2]
      by_cases h3 : 60 < r.1 + b
      · rw [if_pos h3]
        exact ⟨by dsimp only; omega, ho, by dsimp only; omega⟩
      · rw [if_neg h3]
        exact ⟨by dsimp only; omega, insK_ok ho (by omega) (by omega) (hs h1) b (by omega), by dsimp only; omega⟩
  · rw [if_neg h1]
    by_cases h2 : k = 45
    · rw [if_pos h2]
      by_cases h3 : r.1 < a + b
      · rw [if_pos h3]
        exact ⟨by dsimp only; omega, ho, by dsimp only; omega⟩
      · rw [if_neg h3]
        exact ⟨by dsimp only; omega, remK_ok (n := b) ho (by omega) b (by omega), by dsimp only; omega⟩
    · rw [if_neg h2]
      by_cases h3 : k = 120
      · rw [if_pos h3]
        by_cases h4 : a < r.1 ∧ b < r.1
        · rw [if_pos h4]
          exact ⟨by dsimp only; omega, ho.swp h4.1 h4.2, by dsimp only; omega⟩
        · rw [if_neg h4]
          exact ⟨by dsimp only; omega, ho, by dsimp only; omega⟩
      · rw [if_neg h3]
        by_cases h4 : a ≤ b ∧ b ≤ r.1
        · rw [if_pos h4]
          exact ⟨by dsimp only; omega, rvF_ok (f := r.2) ho h4.2 _ (Nat.le_refl _), by dsimp only; omega⟩
        · rw [if_neg h4]
          exact ⟨by dsimp only; omega, ho, by dsimp only; omega⟩
theorem rdA_f (t : Rw) (p : Nat) : (rdA t p).1 ≤ 1 ∧ p ≤ (rdA t p).2.1 ∧ (rdA t p).2.1 ≤ p + 4 ∧ ((rdA t p).1 = 1 → okK t p = true ∧ p < (rdA t p).2.1 ∧ (rdA t p).2.2 ≤ 99 ∧ (rdA t p).2.1 ≤ t.1) := by
  have h0 := nd_le t (p + 1)
  unfold rdA
  by_cases h1 : okK t p = true
  · rw [if_pos h1]
    by_cases h2 : nd t (p + 1) = 0
    · rw [if_pos h2]
      exact ⟨by dsimp only; omega, by dsimp only; omega, by dsimp only; omega, fun h => absurd h (by dsimp only; omega)⟩
    · have hv := nv_lt (t := t) (p := p + 1) (by omega)
      rw [if_neg h2]
      by_cases h3 : cc t (p + 1 + nd t (p + 1)) 44 = true
      · have h4 := cc_iff.mp h3
        rw [if_pos h3]
        exact ⟨by dsimp only; omega, by dsimp only; omega, by dsimp only; omega, fun h => ⟨h1, by dsimp only; omega, hv, by dsimp only; omega⟩⟩
      · rw [if_neg h3]
        exact ⟨by dsimp only; omega, by dsimp only; omega, by dsimp only; omega, fun h => absurd h (by dsimp only; omega)⟩
  · rw [if_neg h1]
    exact ⟨by dsimp only; omega, by dsimp only; omega, by dsimp only; omega, fun h => absurd h (by dsimp only; omega)⟩
theorem rdB_f (t : Rw) (k q : Nat) : (rdB t k q).1 ≤ 1 ∧ q ≤ (rdB t k q).2.1 ∧ (rdB t k q).2.1 ≤ q + 61 ∧ ((rdB t k q).1 = 1 → q < (rdB t k q).2.1 ∧ (rdB t k q).2.1 ≤ t.1 ∧ (rdB t k q).2.2 ≤ 99 ∧ (k = 43 → (rdB t k q).2.2 = psy t 60 q ∧ (rdB t k q).2.1 = q + psy t 60 q + 1)) := by
  have h0 := nd_le t q
  have h9 := psy_le (t := t) 60 q
  unfold rdB
  by_cases h1 : k = 43
  · rw [if_pos h1]
    by_cases h2 : psy t 60 q = 0
    · rw [if_pos h2]
      exact ⟨by dsimp only; omega, by dsimp only; omega, by dsimp only; omega, fun h => absurd h (by dsimp only; omega)⟩
    · rw [if_neg h2]
      by_cases h3 : cc t (q + psy t 60 q) 59 = true
      · have h4 := cc_iff.mp h3
        rw [if_pos h3]
        exact ⟨by dsimp only; omega, by dsimp only; omega, by dsimp only; omega, fun h => ⟨by dsimp only; omega, by dsimp only; omega, by dsimp only; omega, fun _ => ⟨rfl, rfl⟩⟩⟩
      · rw [if_neg h3]
        exact ⟨by dsimp only; omega, by dsimp only; omega, by dsimp only; omega, fun h => absurd h (by dsimp only; omega)⟩
  · rw [if_neg h1]
    by_cases h2 : nd t q = 0
    · rw [if_pos h2]
      exact ⟨by dsimp only; omega, by dsimp only; omega, by dsimp only; omega, fun h => absurd h (by dsimp only; omega)⟩
    · have hv := nv_lt (t := t) (p := q) (by omega)
      rw [if_neg h2]
      by_cases h3 : cc t (q + nd t q) 59 = true
      · have h4 := cc_iff.mp h3
        rw [if_pos h3]
        exact ⟨by dsimp only; omega, by dsimp only; omega, by dsimp only; omega, fun h => ⟨by dsimp only; omega, by dsimp only; omega, by dsimp only; omega, fun g => absurd g h1⟩⟩
      · rw [if_neg h3]
        exact ⟨by dsimp only; omega, by dsimp only; omega, by dsimp only; omega, fun h => absurd h (by dsimp only; omega)⟩
abbrev edQ (t : Rw) (p : Nat) : Nat := (rdA t p).2.1
abbrev edA (t : Rw) (p : Nat) : Nat := (rdA t p).2.2
abbrev edB (t : Rw) (p : Nat) : Nat := (rdB t (t.2 p) (rdA t p).2.1).2.2
theorem ed_f (t : Rw) (p : Nat) : fst0 t p ≤ 1 ∧ p ≤ endE t p ∧ endE t p ≤ p + 65 ∧ (fst0 t p = 1 → okK t p = true ∧ p < endE t p ∧ endE t p ≤ t.1 ∧ edA t p ≤ 99 ∧ edB t p ≤ 99 ∧ edQ t p ≤ t.1 ∧ (t.2 p = 43 → (∀ j, j < edB t p → isS t (edQ t p + j) = true) ∧ endE t p = edQ t p + edB t p + 1)) := by
  obtain ⟨a1, a2, a3, a4⟩ := rdA_f t p
  obtain ⟨b1, b2, b3, b4⟩ := rdB_f t (t.2 p) (rdA t p).2.1
  unfold fst0 endE
  by_cases h1 : (rdA t p).1 = 0
  · rw [if_pos h1, if_pos h1]
    exact ⟨by omega, a2, by omega, fun h => absurd h (by omega)⟩
  · rw [if_neg h1, if_neg h1]
    obtain ⟨c1, c2, c3, c4⟩ := a4 (by omega)
    refine ⟨b1, by omega, by omega, fun h => ?_⟩
    obtain ⟨d1, d2, d3, d4⟩ := b4 h
    refine ⟨c1, by omega, d2, c3, d3, c4, fun g => ?_⟩
    obtain ⟨e1, e2⟩ := d4 g
    show (∀ j, j < (rdB t (t.2 p) (rdA t p).2.1).2.2 → isS t ((rdA t p).2.1 + j) = true) ∧ (rdB t (t.2 p) (rdA t p).2.1).2.1 = (rdA t p).2.1 + (rdB t (t.2 p) (rdA t p).2.1).2.2 + 1
    rw [e1, e2]
    exact ⟨fun j hj => psy_s 60 _ j hj, rfl⟩
def stp (t : Rw) (p : Nat) (r : Rw) : Nat × Nat × Nat × Rw :=
  if fst0 t p = 1 then ((doE t (t.2 p) (edA t p) (edB t p) (edQ t p) r).1, 0, endE t p, (doE t (t.2 p) (edA t p) (edB t p) (edQ t p) r).2) else (1, endE t p - p, endE t p, r)
def pl (t : Rw) : Nat → Nat → Rw → Nat × Nat × Nat × Rw
  | 0, p, r => (0, p, 0, r)
  | m + 1, p, r => if p < t.1 then (if (stp t p r).1 = 0 then pl t m (stp t p r).2.2.1 (stp t p r).2.2.2 else ((stp t p r).1, p, (stp t p r).2.1, r)) else (0, p, 0, r)
theorem stp_f (t : Rw) (p : Nat) {r : Rw} (ho : okR r) : (stp t p r).1 ≤ 3 ∧ (stp t p r).2.1 ≤ 65 ∧ okR (stp t p r).2.2.2 ∧ ((stp t p r).1 = 0 → p < (stp t p r).2.2.1 ∧ (stp t p r).2.2.1 ≤ t.1) := by
  obtain ⟨a1, a2, a3, a4⟩ := ed_f t p
  unfold stp
  by_cases h : fst0 t p = 1
  · rw [if_pos h]
    obtain ⟨c1, c2, c3, c4, c5, c6, c7⟩ := a4 h
    obtain ⟨d1, d2, d3⟩ := doE_f t (t.2 p) (edA t p) (edB t p) (edQ t p) ho (fun g => (c7 g).1)
    exact ⟨d1, by dsimp only; omega, d2, fun _ => ⟨c2, c3⟩⟩
  · rw [if_neg h]
    exact ⟨by dsimp only; omega, by dsimp only; omega, ho, fun g => absurd g (by dsimp only; omega)⟩
theorem pl_f (t : Rw) : ∀ m p r, okR r → (pl t m p r).1 ≤ 3 ∧ (pl t m p r).2.2.1 ≤ 65 ∧ okR (pl t m p r).2.2.2
  | 0, p, r, ho => ⟨by show 0 ≤ 3; omega, by show 0 ≤ 65; omega, ho⟩
  | m + 1, p, r, ho => by
    obtain ⟨a1, a2, a3, a4⟩ := stp_f t p ho
    have e : pl t (m + 1) p r = if p < t.1 then (if (stp t p r).1 = 0 then pl t m (stp t p r).2.2.1 (stp t p r).2.2.2 else ((stp t p r).1, p, (stp t p r).2.1, r)) else (0, p, 0, r) := rfl
    rw [e]
    by_cases h1 : p < t.1
    · rw [if_pos h1]
      by_cases h2 : (stp t p r).1 = 0
      · rw [if_pos h2]
        exact pl_f t m _ _ a3
      · rw [if_neg h2]
        exact ⟨a1, a2, ho⟩
    · rw [if_neg h1]
      exact ⟨by dsimp only; omega, by dsimp only; omega, ho⟩
theorem pl_end {t : Rw} {p : Nat} {r : Rw} (h : ¬ p < t.1) : ∀ m, pl t m p r = (0, p, 0, r)
  | 0 => rfl
  | m + 1 => if_neg h
theorem pl_go {t : Rw} {p : Nat} {r : Rw} (h : p < t.1) (m : Nat) : pl t (m + 1) p r = if (stp t p r).1 = 0 then pl t m (stp t p r).2.2.1 (stp t p r).2.2.2 else ((stp t p r).1, p, (stp t p r).2.1, r) := if_pos h
/-- the class does it -/
theorem putSymbols_c {F : Nat} {M : Mm} {t r : Rw} {a b q : Nat} (hF : 100 ≤ F) (h : RwP M 37 t.1 t.2) (ot : okT t) (hr : RwP M 11 r.1 r.2) (ho : okR r) (ea : M 39 4 = nI a) (eb : M 39 5 = nI b) (eq : M 39 6 = nI q) (ha : a ≤ r.1) (hn : r.1 + b ≤ 60) (hq : q ≤ 100) (hs : ∀ j, j < b → isS t (q + j) = true) : Ok (f_X2_putSymbolsIn F M) (fun M' => RwP M' 11 (insK t a q r b).1 (insK t a q r b).2 ∧ ∀ k, k ≠ 11 → k ≠ 12 → M' k = M k) := by
  unfold f_X2_putSymbolsIn
  refine Ok.lpN (m0 := b) (fun m z => ∃ j, j + m = b ∧ z.1 = nI j ∧ RwP z.2 11 (insK t a q r j).1 (insK t a q r j).2 ∧ ∀ k, k ≠ 11 → k ≠ 12 → z.2 k = M k) ?_ ⟨0, by omega, rfl, hr, fun _ _ _ => rfl⟩ (by omega)
  rintro m ⟨x, M1⟩ ⟨j, hj, h1, h2, h3⟩
  dsimp only at h1 h2 h3 ⊢
  subst h1
  have e4 : M1 39 4 = nI a := by rw [h3 39 (by omega) (by omega), ea]
  have e5 : M1 39 5 = nI b := by rw [h3 39 (by omega) (by omega), eb]
  have e6 : M1 39 6 = nI q := by rw [h3 39 (by omega) (by omega), eq]
  simp only [e4, e5, e6]
  by_cases hc : b ≤ j
  · have e : b = j := by omega
    rw [if_pos (by simp (disch := omega) only [nI_leI, nI_ltI, nI_eq, nI_add, nI_clamp, pk_sub, pk_mul, nI_m1, nI_le0, nI_lt0, nI_0le, nI_0lt, nI_z, inb_nI, decide_eq_true_eq]; exact hc), e]
    exact ⟨h2, h3⟩
  · have e1 := insK_1 (t := t) (a := a) (q := q) (r := r) j
    have x1 : RwP M1 37 t.1 t.2 := h.keep (h3 37 (by omega) (by omega)) (h3 38 (by omega) (by omega))
    rw [if_neg (by simp (disch := omega) only [nI_leI, nI_ltI, nI_eq, nI_add, nI_clamp, pk_sub, pk_mul, nI_m1, nI_le0, nI_lt0, nI_0le, nI_0lt, nI_z, inb_nI, decide_eq_true_eq]; exact hc), nI_add, symV_t x1 ot (by omega), Option.bind_some, if_pos (hs j (by omega)), nI_add]
    refine Ok.bindI (insert_t hF h2 (by omega) (by omega)) ?_
    rintro M2 ⟨g1, g2⟩
    refine ⟨m - 1, by omega, j + 1, by omega, nI_add j 1, g1, fun k k1 k2 => ?_⟩
    dsimp only
    rw [g2 k k1 (by omega)]
    exact h3 k k1 k2
theorem takeSpan_c {F : Nat} {M : Mm} {r : Rw} {a b : Nat} (hF : 100 ≤ F) (hr : RwP M 11 r.1 r.2) (ho : okR r) (ea : M 39 4 = nI a) (eb : M 39 5 = nI b) (hn : a + b ≤ r.1) : Ok (f_X2_takeSpanOut F M) (fun M' => RwP M' 11 (remK a r b).1 (remK a r b).2 ∧ ∀ k, k ≠ 11 → k ≠ 12 → M' k = M k) := by
  unfold f_X2_takeSpanOut
  have h60 := ho.1
  refine Ok.lpN (m0 := b) (fun m z => ∃ j, j + m = b ∧ z.1 = nI j ∧ RwP z.2 11 (remK a r j).1 (remK a r j).2 ∧ ∀ k, k ≠ 11 → k ≠ 12 → z.2 k = M k) ?_ ⟨0, by omega, rfl, hr, fun _ _ _ => rfl⟩ (by omega)
  rintro m ⟨x, M1⟩ ⟨j, hj, h1, h2, h3⟩
  dsimp only at h1 h2 h3 ⊢
  subst h1
  have e4 : M1 39 4 = nI a := by rw [h3 39 (by omega) (by omega), ea]
  have e5 : M1 39 5 = nI b := by rw [h3 39 (by omega) (by omega), eb]
  simp only [e4, e5]
  by_cases hc : b ≤ j
  · have e : b = j := by omega
    rw [if_pos (by simp (disch := omega) only [nI_leI, nI_ltI, nI_eq, nI_add, nI_clamp, pk_sub, pk_mul, nI_m1, nI_le0, nI_lt0, nI_0le, nI_0lt, nI_z, inb_nI, decide_eq_true_eq]; exact hc), e]
    exact ⟨h2, h3⟩
  · have e1 := remK_1 (a := a) (r := r) j
    rw [if_neg (by simp (disch := omega) only [nI_leI, nI_ltI, nI_eq, nI_add, nI_clamp, pk_sub, pk_mul, nI_m1, nI_le0, nI_lt0, nI_0le, nI_0lt, nI_z, inb_nI, decide_eq_true_eq]; exact hc)]
    refine Ok.bindI (remove_t hF h2 (by omega) (by omega)) ?_
    rintro M2 ⟨g1, g2⟩
    refine ⟨m - 1, by omega, j + 1, by omega, nI_add j 1, g1, fun k k1 k2 => ?_⟩
    dsimp only
    rw [g2 k k1 (by omega)]
    exact h3 k k1 k2
theorem perform_c {F : Nat} {M : Mm} {t r : Rw} {k a b q : Nat} (hF : 100 ≤ F) (h : RwP M 37 t.1 t.2) (ot : okT t) (hr : RwP M 11 r.1 r.2) (ho : okR r) (hk : k = 43 ∨ k = 45 ∨ k = 120 ∨ k = 114) (ek : M 39 3 = nI k) (ea : M 39 4 = nI a) (eb : M 39 5 = nI b) (eq : k = 43 → M 39 6 = nI q) (hq : q ≤ 100) (hab : a ≤ 99 ∧ b ≤ 99) (hs : k = 43 → ∀ j, j < b → isS t (q + j) = true) (h0 : (doE t k a b q r).1 = 0) : Ok (f_X2_perform F M) (fun M' => RwP M' 11 (doE t k a b q r).2.1 (doE t k a b q r).2.2 ∧ ∀ k, k ≠ 11 → k ≠ 12 → M' k = M k) := by
  have h60 := ho.1
  unfold f_X2_perform
  unfold doE at h0 ⊢
  rw [ek]
  by_cases h1 : k = 43
  · rw [if_pos h1] at h0 ⊢
    by_cases h2 : r.1 < a
    · rw [if_pos h2] at h0
      exact absurd h0 (by dsimp only; omega)
    rw [if_neg h2] at h0 ⊢
    by_cases h3 : 60 < r.1 + b
    · rw [if_pos h3] at h0
      exact absurd h0 (by dsimp only; omega)
    rw [if_neg h3, if_pos (by rw [h1])]
    refine Ok.bindI (putSymbols_c hF h ot hr ho ea eb (eq h1) (by omega) (by omega) hq (hs h1)) ?_
    intro M1 g
    exact g
  rw [if_neg h1] at h0 ⊢
  rw [if_neg (by simp (disch := omega) only [nI_leI, nI_ltI, nI_eq, nI_add, nI_clamp, pk_sub, pk_mul, nI_m1, nI_le0, nI_lt0, nI_0le, nI_0lt, nI_z, inb_nI, decide_eq_true_eq]; exact h1)]
  by_cases h2 : k = 45
  · rw [if_pos h2] at h0 ⊢
    by_cases h3 : r.1 < a + b
    · rw [if_pos h3] at h0
      exact absurd h0 (by dsimp only; omega)
    rw [if_neg h3, if_pos (by rw [h2])]
    refine Ok.bindI (takeSpan_c hF hr ho ea eb (by omega)) ?_
    intro M1 g
    exact g
  rw [if_neg h2] at h0 ⊢
  rw [if_neg (by simp (disch := omega) only [nI_leI, nI_ltI, nI_eq, nI_add, nI_clamp, pk_sub, pk_mul, nI_m1, nI_le0, nI_lt0, nI_0le, nI_0lt, nI_z, inb_nI, decide_eq_true_eq]; exact h2), ea, eb]
  by_cases h3 : k = 120
  · rw [if_pos h3] at h0 ⊢
    by_cases h4 : a < r.1 ∧ b < r.1
    · rw [if_pos h4, if_pos (by rw [h3])]
      refine Ok.bindI (exchange_t hr h60 h4.1 h4.2) ?_
      intro M1 g
      exact ⟨g.1, fun k k1 k2 => g.2 k k1 k2⟩
    · rw [if_neg h4] at h0
      exact absurd h0 (by dsimp only; omega)
  · rw [if_neg h3] at h0 ⊢
    rw [if_neg (by simp (disch := omega) only [nI_leI, nI_ltI, nI_eq, nI_add, nI_clamp, pk_sub, pk_mul, nI_m1, nI_le0, nI_lt0, nI_0le, nI_0lt, nI_z, inb_nI, decide_eq_true_eq]; exact h3)]
    by_cases h4 : a ≤ b ∧ b ≤ r.1
    · rw [if_pos h4]
      refine Ok.bindI (reverse_t hF hr ho h4.1 h4.2) ?_
      rintro ⟨v, M1⟩ g
      exact ⟨g.2.1, fun k k1 k2 => g.2.2 k k1 k2⟩
    · rw [if_neg h4] at h0
      exact absurd h0 (by dsimp only; omega)
theorem isB_1 : isB (nI 1) = true := by decide
theorem isB_0 : isB (nI 0) = true := by decide
theorem reason_c {M : Mm} {t r : Rw} {k a b q : Nat} (hr : RwP M 11 r.1 r.2) (ho : okR r) (ek : M 39 3 = nI k) (ea : M 39 4 = nI a) (eb : M 39 5 = nI b) (hk : k = 43 ∨ k = 45 ∨ k = 120 ∨ k = 114) (hab : a ≤ 99 ∧ b ≤ 99) : f_X2_reasonAgainst M = some (nI (doE t k a b q r).1) := by
  have h60 := ho.1
  unfold f_X2_reasonAgainst f_X2_hasPlaces doE
  rw [ek, ea, eb]
  by_cases h1 : k = 43
  · rw [if_pos (show nI k = nI 43 by rw [h1]), if_pos (show nI k = nI 43 by rw [h1]), if_pos h1, size_t hr, Option.bind_some]
    by_cases h2 : r.1 < a
    · rw [isAtMost_f (Or.inr (by simp (disch := omega) only [nI_leI, nI_ltI, nI_eq, nI_add, nI_clamp, pk_sub, pk_mul, nI_m1, nI_le0, nI_lt0, nI_0le, nI_0lt, nI_z, inb_nI, decide_eq_true_eq]; exact h2)), Option.bind_some, if_pos isB_0, Option.bind_some, if_pos (by decide), if_pos h2]
    · rw [isAtMost_t (by omega) (by omega), Option.bind_some, if_pos isB_1, Option.bind_some, if_neg (by decide), if_neg h2, Option.bind_some]
      by_cases h3 : 60 < r.1 + b
      · rw [if_neg (by simp (disch := omega) only [nI_leI, nI_ltI, nI_eq, nI_add, nI_clamp, pk_sub, pk_mul, nI_m1, nI_le0, nI_lt0, nI_0le, nI_0lt, nI_z, inb_nI, decide_eq_true_eq]; omega), if_pos h3]
      · rw [if_pos (by simp (disch := omega) only [nI_leI, nI_ltI, nI_eq, nI_add, nI_clamp, pk_sub, pk_mul, nI_m1, nI_le0, nI_lt0, nI_0le, nI_0lt, nI_z, inb_nI, decide_eq_true_eq]; omega), if_neg h3]
  rw [if_neg (show ¬ nI k = nI 43 by simp (disch := omega) only [nI_leI, nI_ltI, nI_eq, nI_add, nI_clamp, pk_sub, pk_mul, nI_m1, nI_le0, nI_lt0, nI_0le, nI_0lt, nI_z, inb_nI, decide_eq_true_eq]; exact h1), if_neg (show ¬ nI k = nI 43 by simp (disch := omega) only [nI_leI, nI_ltI, nI_eq, nI_add, nI_clamp, pk_sub, pk_mul, nI_m1, nI_le0, nI_lt0, nI_0le, nI_0lt, nI_z, inb_nI, decide_eq_true_eq]; exact h1), if_neg h1]
  by_cases h2 : k = 45
  · rw [if_pos (show nI k = nI 45 by rw [h2]), if_pos h2, nI_add]
    by_cases h3 : r.1 < a + b
    · rw [hasSpan_f hr (Or.inr (Or.inr (by simp (disch := omega) only [nI_leI, nI_ltI, nI_eq, nI_add, nI_clamp, pk_sub, pk_mul, nI_m1, nI_le0, nI_lt0, nI_0le, nI_0lt, nI_z, inb_nI, decide_eq_true_eq]; exact h3))), Option.bind_some, if_pos isB_0, Option.bind_some, if_pos (by decide), if_pos h3]
    · rw [hasSpan_t hr h60 (by omega) (by omega), Option.bind_some, if_pos isB_1, Option.bind_some, if_neg (by decide), if_neg h3]
  rw [if_neg (show ¬ nI k = nI 45 by simp (disch := omega) only [nI_leI, nI_ltI, nI_eq, nI_add, nI_clamp, pk_sub, pk_mul, nI_m1, nI_le0, nI_lt0, nI_0le, nI_0lt, nI_z, inb_nI, decide_eq_true_eq]; exact h2), if_neg h2]
  by_cases h3 : k = 120
  · rw [if_pos (show nI k = nI 120 by rw [h3]), if_pos h3]
    by_cases h4 : a < r.1
    · rw [hasPlace_t hr h60 h4, Option.bind_some, if_neg (by decide)]
      by_cases h5 : b < r.1
      · rw [hasPlace_t hr h60 h5, Option.bind_some, if_neg (by decide), Option.bind_some, if_neg (by decide), if_pos ⟨h4, h5⟩]
      · rw [hasPlace_f hr (Or.inr (by simp (disch := omega) only [nI_leI, nI_ltI, nI_eq, nI_add, nI_clamp, pk_sub, pk_mul, nI_m1, nI_le0, nI_lt0, nI_0le, nI_0lt, nI_z, inb_nI, decide_eq_true_eq]; omega)), Option.bind_some, if_pos (by decide), Option.bind_some, if_pos (by decide), if_neg (fun g => h5 g.2)]
    · rw [hasPlace_f hr (Or.inr (by simp (disch := omega) only [nI_leI, nI_ltI, nI_eq, nI_add, nI_clamp, pk_sub, pk_mul, nI_m1, nI_le0, nI_lt0, nI_0le, nI_0lt, nI_z, inb_nI, decide_eq_true_eq]; omega)), Option.bind_some, if_pos (by decide), Option.bind_some, if_pos (by decide), if_neg (fun g => h4 g.1)]
  · rw [if_neg (show ¬ nI k = nI 120 by simp (disch := omega) only [nI_leI, nI_ltI, nI_eq, nI_add, nI_clamp, pk_sub, pk_mul, nI_m1, nI_le0, nI_lt0, nI_0le, nI_0lt, nI_z, inb_nI, decide_eq_true_eq]; exact h3), if_neg h3]
    by_cases h4 : a ≤ b ∧ b ≤ r.1
    · rw [hasSpan_t hr h60 h4.1 h4.2, Option.bind_some, if_pos isB_1, Option.bind_some, if_neg (by decide), if_pos h4]
    · have h5 : nI a < 0 ∨ nI b < nI a ∨ nI r.1 < nI b := by
        right
        by_cases h6 : b < a
        · left
          simp (disch := omega) only [nI_leI, nI_ltI, nI_eq, nI_add, nI_clamp, pk_sub, pk_mul, nI_m1, nI_le0, nI_lt0, nI_0le, nI_0lt, nI_z, inb_nI, decide_eq_true_eq]
          exact h6
        · right
          simp (disch := omega) only [nI_leI, nI_ltI, nI_eq, nI_add, nI_clamp, pk_sub, pk_mul, nI_m1, nI_le0, nI_lt0, nI_0le, nI_0lt, nI_z, inb_nI, decide_eq_true_eq]
          omega
      rw [hasSpan_f hr h5, Option.bind_some, if_pos isB_0, Option.bind_some, if_pos (by decide), if_neg h4]
theorem playEdit_c {F : Nat} {M : Mm} {t r : Rw} {p : Nat} (hF : 100 ≤ F) (h : RwP M 37 t.1 t.2) (ot : okT t) (hr : RwP M 11 r.1 r.2) (ho : okR r) (e : M 39 2 = nI p) (hp : p ≤ 60) : Ok (f_X2_playEdit F M) (fun M' => M' 39 8 = nI (stp t p r).1 ∧ M' 39 7 = nI p ∧ ((stp t p r).1 = 1 → M' 39 9 = nI (stp t p r).2.1) ∧ ((stp t p r).1 = 0 → M' 39 2 = nI (stp t p r).2.2.1 ∧ RwP M' 11 (stp t p r).2.2.2.1 (stp t p r).2.2.2.2) ∧ ∀ k, k ≠ 11 → k ≠ 12 → k ≠ 39 → M' k = M k) := by
  unfold f_X2_playEdit
  rw [e]
  have x0 : RwP (up M 39 7 (nI p)) 37 t.1 t.2 := h.keep (up_n (by omega)) (up_n (by omega))
  refine Ok.bindI (readEdit_c (p := p) hF x0 ot (by rw [up_sn (by omega)]; exact e) hp) ?_
  rintro ⟨v, M1⟩ ⟨p1, p2, p3, p4, p5⟩
  dsimp only at p1 p2 p3 p4 p5 ⊢
  obtain ⟨a1, a2, a3, a4⟩ := ed_f t p
  have q7 : M1 39 7 = nI p := by rw [p4 7 (by omega), up_ss]
  have qk : ∀ k, k ≠ 39 → M1 k = M k := fun k hk => by rw [p5 k hk, up_n hk]
  unfold stp
  by_cases hf : fst0 t p = 1
  · obtain ⟨c1, c2, c3, c4, c5, c6, c7⟩ := a4 hf
    obtain ⟨d1, d2, d3, d4⟩ := p3 hf
    obtain ⟨k1, k2⟩ := okK_in c1
    have x1 : RwP M1 11 r.1 r.2 := hr.keep (qk 11 (by omega)) (qk 12 (by omega))
    have x2 : RwP M1 37 t.1 t.2 := h.keep (qk 37 (by omega)) (qk 38 (by omega))
    have g6 := ot.1
    rw [if_pos hf, p1, hf, if_neg (by decide), reason_c (t := t) (q := edQ t p) x1 ho d1 d2 d3 k2 ⟨c4, c5⟩, Option.bind_some, up_ss]
    obtain ⟨e1, e2, e3⟩ := doE_f t (t.2 p) (edA t p) (edB t p) (edQ t p) ho (fun g => (c7 g).1)
    dsimp only
    by_cases z0 : (doE t (t.2 p) (edA t p) (edB t p) (edQ t p) r).1 = 0
    · rw [if_pos (by rw [z0]; rfl)]
      generalize hX : nI (doE t (t.2 p) (edA t p) (edB t p) (edQ t p) r).1 = X
      refine Ok.bindI (perform_c (q := edQ t p) (k := t.2 p) (a := edA t p) (b := edB t p) hF (x2.keep (up_n (by omega)) (up_n (by omega))) ot (x1.keep (up_n (by omega)) (up_n (by omega))) ho k2 (by rw [up_sn (by omega)]; exact d1) (by rw [up_sn (by omega)]; exact d2) (by rw [up_sn (by omega)]; exact d3) (fun g => by rw [up_sn (by omega)]; exact d4 g) (by omega) ⟨c4, c5⟩ (fun g => (c7 g).1) z0) ?_
      rintro M2 ⟨g1, g2⟩
      have g39 : ∀ i, M2 39 i = up M1 39 8 X 39 i := fun i => by rw [g2 39 (by omega) (by omega)]
      refine ⟨?_, ?_, fun g => absurd g e3, fun _ => ⟨?_, g1⟩, fun k b1 b2 b3 => ?_⟩
      · rw [g39, up_ss]
      · rw [g39, up_sn (by omega)]
        exact q7
      · rw [g39, up_sn (by omega)]
        exact p2
      · rw [g2 k b1 b2, up_n b3]
        exact qk k b3
    · rw [if_neg (show ¬ nI (doE t (t.2 p) (edA t p) (edB t p) (edQ t p) r).1 = 0 from fun g => z0 (by rwa [nI_z (by omega)] at g))]
      refine ⟨up_ss, ?_, fun g => absurd g e3, fun g => absurd g z0, fun k b1 b2 b3 => ?_⟩
      · rw [up_sn (by omega)]
        exact q7
      · rw [up_n b3]
        exact qk k b3
  · have hf0 : fst0 t p = 0 := by omega
    rw [if_neg hf, p1, hf0, if_pos (by decide), up_sn (by omega), up_sn (by omega), p2, q7]
    refine ⟨?_, ?_, fun _ => ?_, fun g => absurd g (by dsimp only; omega), fun k b1 b2 b3 => ?_⟩
    · rw [up_sn (by omega), up_ss]
    · rw [up_sn (by omega), up_sn (by omega)]
      exact q7
    · rw [up_ss]
      simp (disch := omega) only [nI_leI, nI_ltI, nI_eq, nI_add, nI_clamp, pk_sub, pk_mul, nI_m1, nI_le0, nI_lt0, nI_0le, nI_0lt, nI_z, inb_nI, decide_eq_true_eq]
    · rw [up_n b3, up_n b3]
      exact qk k b3
