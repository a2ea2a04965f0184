/-! one edit's reading -/
def cc (t : Rw) (p a : Nat) : Bool := decide (p < t.1) && decide (t.2 p = a)
theorem cc_iff {t : Rw} {p a : Nat} : cc t p a = true ↔ p < t.1 ∧ t.2 p = a := by
  unfold cc
  simp only [Bool.and_eq_true, decide_eq_true_eq]
theorem ch_cc {t : Rw} (ot : okT t) {p a : Nat} (ha : a < 200) : chI t p = nI a ↔ cc t p a = true := by
  rw [cc_iff]
  unfold chI
  by_cases hc : p < t.1
  · have h1 := ch_nn ot hc
    rw [if_pos hc]
    simp (disch := omega) only [nI_leI, nI_ltI, nI_eq, nI_add, nI_clamp, pk_sub, pk_mul, nI_m1, nI_le0, nI_lt0, nI_0le, nI_0lt, nI_z, inb_nI, decide_eq_true_eq]
    exact ⟨fun h => ⟨hc, h⟩, fun h => h.2⟩
  · rw [if_neg hc]
    exact ⟨fun h => absurd h.symm (nI_nm1 (by omega)), fun h => absurd h.1 hc⟩
def okK (t : Rw) (p : Nat) : Bool := cc t p 43 || cc t p 45 || cc t p 120 || cc t p 114
theorem okK_iff {t : Rw} (ot : okT t) {p : Nat} : okK t p = true ↔ (chI t p = nI 43 ∨ chI t p = nI 45 ∨ chI t p = nI 120 ∨ chI t p = nI 114) := by
  rw [ch_cc ot (by omega), ch_cc ot (by omega), ch_cc ot (by omega), ch_cc ot (by omega)]
  unfold okK
  simp only [Bool.or_eq_true, or_assoc]
theorem okK_in {t : Rw} {p : Nat} (h : okK t p = true) : p < t.1 ∧ (t.2 p = 43 ∨ t.2 p = 45 ∨ t.2 p = 120 ∨ t.2 p = 114) := by
  unfold okK at h
  simp only [Bool.or_eq_true, cc_iff] at h
  omega
theorem kind4 {α : Type} {x : Int32} {A B : α} : (if x = nI 43 then A else (if x = nI 45 then A else (if x = nI 120 then A else (if x = nI 114 then A else B)))) = if (x = nI 43 ∨ x = nI 45 ∨ x = nI 120 ∨ x = nI 114) then A else B := by
  by_cases h1 : x = nI 43
  · rw [if_pos h1, if_pos (Or.inl h1)]
  by_cases h2 : x = nI 45
  · rw [if_neg h1, if_pos h2, if_pos (Or.inr (Or.inl h2))]
  by_cases h3 : x = nI 120
  · rw [if_neg h1, if_neg h2, if_pos h3, if_pos (Or.inr (Or.inr (Or.inl h3)))]
  by_cases h4 : x = nI 114
  · rw [if_neg h1, if_neg h2, if_neg h3, if_pos h4, if_pos (Or.inr (Or.inr (Or.inr h4)))]
  · rw [if_neg h1, if_neg h2, if_neg h3, if_neg h4, if_neg]
    intro h
    rcases h with h | h | h | h <;> contradiction
theorem psy_le {t : Rw} : ∀ m p, psy t m p ≤ m
  | 0, _ => Nat.le_refl 0
  | m + 1, p => by
    have h1 := psy_le (t := t) m (p + 1)
    show (if isS t p = true then psy t m (p + 1) + 1 else 0) ≤ m + 1
    split <;> omega
theorem psy_end {t : Rw} : ∀ m p, psy t m p < m → ¬ isS t (p + psy t m p) = true
  | 0, p, h => absurd h (Nat.not_lt_zero _)
  | m + 1, p, h => by
    have e : psy t (m + 1) p = if isS t p = true then psy t m (p + 1) + 1 else 0 := rfl
    rw [e] at h ⊢
    by_cases hs : isS t p = true
    · rw [if_pos hs] at h ⊢
      have := psy_end (t := t) m (p + 1) (by omega)
      rw [show p + (psy t m (p + 1) + 1) = p + 1 + psy t m (p + 1) by omega]
      exact this
    · rw [if_neg hs]
      exact hs
def rdA (t : Rw) (p : Nat) : Nat × Nat × Nat :=
  if okK t p = true then (if nd t (p + 1) = 0 then (0, p + 1, 0) else if cc t (p + 1 + nd t (p + 1)) 44 = true then (1, p + 1 + nd t (p + 1) + 1, nv t (p + 1)) else (0, p + 1 + nd t (p + 1), 0)) else (0, p, 0)
def rdB (t : Rw) (k q : Nat) : Nat × Nat × Nat :=
  if k = 43 then (if psy t 60 q = 0 then (0, q, 0) else if cc t (q + psy t 60 q) 59 = true then (1, q + psy t 60 q + 1, psy t 60 q) else (0, q + psy t 60 q, 0))
  else (if nd t q = 0 then (0, q, 0) else if cc t (q + nd t q) 59 = true then (1, q + nd t q + 1, nv t q) else (0, q + nd t q, 0))
theorem readNumber_c {M : Mm} {t : Rw} {p : Nat} (h : RwP M 37 t.1 t.2) (ot : okT t) (e : M 39 2 = nI p) (hp : p ≤ 100) : Ok (f_X2_readNumber M) (fun z => z.1 = (if nd t p = 0 then -1 else nI (nv t p)) ∧ z.2 39 2 = nI (p + nd t p) ∧ (∀ i, i ≠ 2 → z.2 39 i = M 39 i) ∧ ∀ k, k ≠ 39 → z.2 k = M k) := by
  unfold f_X2_readNumber
  rw [e, nI_add, up_ss, digitAt_t h ot (by omega), Option.bind_some]
  by_cases h1 : isD t p = true
  · have g1 := isD_iff.mp h1
    have c1 := ch_nn ot g1.1
    have h' : RwP (up M 39 2 (nI (p + 1))) 37 t.1 t.2 := h.keep (up_n (by omega)) (up_n (by omega))
    rw [if_pos h1, if_neg (nI_nm1 (by omega)), digitAt_t h' ot (by omega), Option.bind_some]
    by_cases h2 : isD t (p + 1) = true
    · have g2 := isD_iff.mp h2
      have e1 : nd t p = 2 := by
        unfold nd
        rw [if_pos h1, if_pos h2]
      have e2 : nv t p = (t.2 p - 48) * 10 + (t.2 (p + 1) - 48) := by
        unfold nv
        rw [if_pos h2]
        omega
      rw [if_pos h2, if_neg (nI_nm1 (by omega)), e1, e2]
      refine ⟨?_, ?_, fun i hi => ?_, fun k hk => ?_⟩
      · rw [if_neg (by omega)]
        simp (disch := omega) only [nI_leI, nI_ltI, nI_eq, nI_add, nI_clamp, pk_sub, pk_mul, nI_m1, nI_le0, nI_lt0, nI_0le, nI_0lt, nI_z, inb_nI, decide_eq_true_eq]
      · dsimp only
        exact up_ss.trans (nI_add (p + 1) 1)
      · dsimp only
        rw [up_sn hi, up_sn hi]
      · dsimp only
        rw [up_n hk, up_n hk]
    · have e1 : nd t p = 1 := by
        unfold nd
        rw [if_pos h1, if_neg h2]
      have e2 : nv t p = t.2 p - 48 := by
        unfold nv
        rw [if_neg h2]
      rw [if_neg h2, if_pos rfl, e1, e2]
      exact ⟨rfl, by dsimp only; exact up_ss, fun i hi => by dsimp only; rw [up_sn hi], fun k hk => up_n hk⟩
  · have e1 : nd t p = 0 := by
      unfold nd
      rw [if_neg h1]
    rw [if_neg h1, if_pos rfl, e1]
    exact ⟨rfl, e, fun i hi => rfl, fun k hk => rfl⟩
theorem readSign_c {M : Mm} {t : Rw} {p a : Nat} (h : RwP M 37 t.1 t.2) (ot : okT t) (e : M 39 2 = nI p) (hp : p ≤ 200) (ha : a < 200) : Ok (f_X2_readSign (nI a) M) (fun z => z.1 = nI (if cc t p a = true then 1 else 0) ∧ z.2 39 2 = nI (p + if cc t p a = true then 1 else 0) ∧ (∀ i, i ≠ 2 → z.2 39 i = M 39 i) ∧ ∀ k, k ≠ 39 → z.2 k = M k) := by
  unfold f_X2_readSign
  rw [e, at5_t h ot.1 (by omega), Option.bind_some]
  by_cases hc : cc t p a = true
  · rw [if_pos ((ch_cc ot ha).mpr hc), if_pos hc]
    exact ⟨rfl, by dsimp only; exact up_ss.trans (nI_add p 1), fun i hi => by dsimp only; rw [up_sn hi], fun k hk => up_n hk⟩
  · rw [if_neg (fun x => hc ((ch_cc ot ha).mp x)), if_neg hc]
    exact ⟨rfl, e, fun i hi => rfl, fun k hk => rfl⟩
theorem readSymbols_c {F : Nat} {M : Mm} {t : Rw} {p : Nat} (hF : 100 ≤ F) (h : RwP M 37 t.1 t.2) (ot : okT t) (e : M 39 2 = nI p) (hp : p ≤ 200) : Ok (f_X2_readSymbols F M) (fun z => z.1 = (if psy t 60 p = 0 then -1 else nI (psy t 60 p)) ∧ z.2 39 2 = nI (p + psy t 60 p) ∧ z.2 39 6 = nI p ∧ (∀ i, i ≠ 2 → i ≠ 6 → z.2 39 i = M 39 i) ∧ ∀ k, k ≠ 39 → z.2 k = M k) := by
  unfold f_X2_readSymbols
  have hle := psy_le (t := t) 60 p
  have hend := psy_end (t := t) 60 p
  have hsy := psy_s (t := t) 60 p
  generalize psy t 60 p = n at hle hend hsy ⊢
  rw [e]
  refine Ok.lpN (m0 := n) (fun m z => ∃ i, i + m = n ∧ z.1 = nI i ∧ z.2 39 2 = nI (p + i) ∧ z.2 39 6 = nI p ∧ (∀ i, i ≠ 2 → i ≠ 6 → z.2 39 i = M 39 i) ∧ ∀ k, k ≠ 39 → z.2 k = M k) ?_ ?_ (by omega)
  · rintro m ⟨a, M1⟩ ⟨i, hi, h1, h2, h3, h4, h5⟩
    dsimp only at h1 h2 h3 h4 h5 ⊢
    subst h1
    have x1 : RwP M1 37 t.1 t.2 := h.keep (h5 37 (by omega)) (h5 38 (by omega))
    have fin : i = n → Ok (if (M1 39 2) ≤ (M1 39 6) then (some (Sum.inr ((-1 : Int32), M1))) else (some (Sum.inr (((M1 39 2) - (M1 39 6)), M1))) : Option ((Int32 × Mm) ⊕ (Int32 × Mm))) (Sum.elim (fun s' => ∃ m', m' < m ∧ ∃ i, i + m' = n ∧ s'.1 = nI i ∧ s'.2 39 2 = nI (p + i) ∧ s'.2 39 6 = nI p ∧ (∀ i, i ≠ 2 → i ≠ 6 → s'.2 39 i = M 39 i) ∧ ∀ k, k ≠ 39 → s'.2 k = M k) (fun z => z.1 = (if n = 0 then -1 else nI n) ∧ z.2 39 2 = nI (p + n) ∧ z.2 39 6 = nI p ∧ (∀ i, i ≠ 2 → i ≠ 6 → z.2 39 i = M 39 i) ∧ ∀ k, k ≠ 39 → z.2 k = M k)) := by
      intro ei
      subst ei
      rw [h2, h3]
      by_cases n0 : i = 0
      · rw [if_pos (by simp (disch := omega) only [nI_leI, nI_ltI, nI_eq, nI_add, nI_clamp, pk_sub, pk_mul, nI_m1, nI_le0, nI_lt0, nI_0le, nI_0lt, nI_z, inb_nI, decide_eq_true_eq]; omega), if_pos n0]
        exact ⟨rfl, h2, h3, h4, h5⟩
      · rw [if_neg (by simp (disch := omega) only [nI_leI, nI_ltI, nI_eq, nI_add, nI_clamp, pk_sub, pk_mul, nI_m1, nI_le0, nI_lt0, nI_0le, nI_0lt, nI_z, inb_nI, decide_eq_true_eq]; omega), if_neg n0]
        refine ⟨?_, h2, h3, h4, h5⟩
        dsimp only
        simp (disch := omega) only [nI_leI, nI_ltI, nI_eq, nI_add, nI_clamp, pk_sub, pk_mul, nI_m1, nI_le0, nI_lt0, nI_0le, nI_0lt, nI_z, inb_nI, decide_eq_true_eq]
        rw [Nat.add_sub_cancel_left]
    refine Ok.jnI ?_
    by_cases h60 : 60 ≤ i
    · rw [if_pos (by simp (disch := omega) only [nI_leI, nI_ltI, nI_eq, nI_add, nI_clamp, pk_sub, pk_mul, nI_m1, nI_le0, nI_lt0, nI_0le, nI_0lt, nI_z, inb_nI, decide_eq_true_eq]; omega)]
      exact fin (by omega)
    · rw [if_neg (by simp (disch := omega) only [nI_leI, nI_ltI, nI_eq, nI_add, nI_clamp, pk_sub, pk_mul, nI_m1, nI_le0, nI_lt0, nI_0le, nI_0lt, nI_z, inb_nI, decide_eq_true_eq]; omega), h2, symV_t x1 ot (by omega), Option.bind_some]
      by_cases hin : i < n
      · rw [if_pos (hsy i hin), if_neg (nI_nm1 (by have := sv_lt (hsy i hin); omega))]
        refine ⟨m - 1, by omega, i + 1, by omega, nI_add i 1, ?_, ?_, fun j g1 g2 => ?_, fun k hk => ?_⟩
        · dsimp only
          exact up_ss.trans (nI_add (p + i) 1)
        · dsimp only
          rw [up_sn (by omega)]
          exact h3
        · dsimp only
          rw [up_sn g1]
          exact h4 j g1 g2
        · dsimp only
          rw [up_n hk]
          exact h5 k hk
      · have ei : i = n := by omega
        rw [if_neg (show ¬ isS t (p + i) = true by rw [ei]; exact hend (by omega)), if_pos rfl]
        exact fin ei
  · refine ⟨0, by omega, rfl, ?_, by dsimp only; exact up_ss, fun j g1 g2 => by dsimp only; rw [up_sn g2], fun k hk => up_n hk⟩
    dsimp only
    rw [up_sn (by omega)]
    exact e
def fst0 (t : Rw) (p : Nat) : Nat := if (rdA t p).1 = 0 then 0 else (rdB t (t.2 p) (rdA t p).2.1).1
def endE (t : Rw) (p : Nat) : Nat := if (rdA t p).1 = 0 then (rdA t p).2.1 else (rdB t (t.2 p) (rdA t p).2.1).2.1
theorem Ok.jnL {τ ρ : Type} {c : Option (τ ⊕ ρ)} {f : τ → Option ρ} {P : ρ → Prop} (A : τ → Prop) (h : Ok c (Sum.elim A (fun _ => False))) (k : ∀ z, A z → Ok (f z) P) : Ok (jn c f) P := by
  refine Ok.jnI (h.mono ?_)
  intro a ha
  cases a with
  | inl z => exact k z ha
  | inr r => exact ha.elim
theorem readEdit_c {F : Nat} {M : Mm} {t : Rw} {p : Nat} (hF : 100 ≤ F) (h : RwP M 37 t.1 t.2) (ot : okT t) (e : M 39 2 = nI p) (hp : p ≤ 60) : Ok (f_X2_readEdit F M) (fun z => z.1 = nI (fst0 t p) ∧ z.2 39 2 = nI (endE t p) ∧ (fst0 t p = 1 → z.2 39 3 = nI (t.2 p) ∧ z.2 39 4 = nI (rdA t p).2.2 ∧ z.2 39 5 = nI (rdB t (t.2 p) (rdA t p).2.1).2.2 ∧ (t.2 p = 43 → z.2 39 6 = nI (rdA t p).2.1)) ∧ (∀ i, 7 ≤ i → z.2 39 i = M 39 i) ∧ ∀ k, k ≠ 39 → z.2 k = M k) := by
  unfold f_X2_readEdit
  rw [e, at5_t h ot.1 (by omega), Option.bind_some, up_ss, kind4]
  refine Ok.jnI ?_
  have hnd := nd_le t (p + 1)
  by_cases hk : ¬ okK t p = true
  · have eA : rdA t p = (0, p, 0) := by
      unfold rdA
      rw [if_neg hk]
    have eF : fst0 t p = 0 := by
      unfold fst0
      rw [eA, if_pos rfl]
    have eE : endE t p = p := by
      unfold endE
      rw [eA, if_pos rfl]
    rw [if_neg (fun x => hk ((okK_iff ot).mpr x)), eF, eE]
    refine ⟨rfl, ?_, fun h => absurd h (by omega), fun i hi => by dsimp only; rw [up_sn (by omega)], fun k hk => up_n hk⟩
    dsimp only
    rw [up_sn (by omega)]
    exact e
  · have hk : okK t p = true := Decidable.not_not.mp hk
    obtain ⟨hpt, hkk⟩ := okK_in hk
    rw [if_pos ((okK_iff ot).mp hk)]
    show Ok _ _
    have e2 : up M 39 3 (chI t p) 39 2 = nI p := by
      rw [up_sn (by omega)]
      exact e
    have e3 : chI t p = nI (t.2 p) := if_pos hpt
    rw [e2, nI_add, e3]
    have x1 : RwP (up (up M 39 3 (nI (t.2 p))) 39 2 (nI (p + 1))) 37 t.1 t.2 := h.keep (by rw [up_n (by omega), up_n (by omega)]) (by rw [up_n (by omega), up_n (by omega)])
    refine Ok.bindI (readNumber_c x1 ot up_ss (by omega)) ?_
    rintro ⟨v1, M1⟩ ⟨p1, p2, p3, p4⟩
    dsimp only at p1 p2 p3 p4 ⊢
    have q3 : M1 39 3 = nI (t.2 p) := by
      rw [p3 3 (by omega), up_sn (by omega), up_ss]
    have q7 : ∀ i, 7 ≤ i → M1 39 i = M 39 i := fun i hi => by rw [p3 i (by omega), up_sn (by omega), up_sn (by omega)]
    have qk : ∀ k, k ≠ 39 → M1 k = M k := fun k hk => by rw [p4 k hk, up_n hk, up_n hk]
    clear p3 p4
    rw [up_ss]
    by_cases n0 : nd t (p + 1) = 0
    · have eA : rdA t p = (0, p + 1, 0) := by
        unfold rdA
        rw [if_pos hk, if_pos n0]
      have eF : fst0 t p = 0 := by
        unfold fst0
        rw [eA, if_pos rfl]
      have eE : endE t p = p + 1 := by
        unfold endE
        rw [eA, if_pos rfl]
      rw [p1, if_pos n0, if_pos rfl, eF, eE]
      refine ⟨rfl, ?_, fun h => absurd h (by omega), fun i hi => ?_, fun k hk => ?_⟩
      · dsimp only
        rw [up_sn (by omega), p2, n0, Nat.add_zero]
      · dsimp only
        rw [up_sn (by omega)]
        exact q7 i hi
      · dsimp only
        rw [up_n hk]
        exact qk k hk
    have hv := nv_lt (t := t) (p := p + 1) (by omega)
    rw [if_neg n0] at p1
    rw [p1, if_neg (nI_nm1 (by omega))]
    have x2 : RwP (up M1 39 4 (nI (nv t (p + 1)))) 37 t.1 t.2 := h.keep (by rw [up_n (by omega), qk 37 (by omega)]) (by rw [up_n (by omega), qk 38 (by omega)])
    refine Ok.bindI (readSign_c (p := p + 1 + nd t (p + 1)) (a := 44) x2 ot (by rw [up_sn (by omega)]; exact p2) (by omega) (by omega)) ?_
    rintro ⟨v2, M2⟩ ⟨s1, s2, s3, s4⟩
    dsimp only at s1 s2 s3 s4 ⊢
    have w3 : M2 39 3 = nI (t.2 p) := by
      rw [s3 3 (by omega), up_sn (by omega)]
      exact q3
    have w4 : M2 39 4 = nI (nv t (p + 1)) := by rw [s3 4 (by omega), up_ss]
    have w7 : ∀ i, 7 ≤ i → M2 39 i = M 39 i := fun i hi => by rw [s3 i (by omega), up_sn (by omega), q7 i hi]
    have wk : ∀ k, k ≠ 39 → M2 k = M k := fun k hk => by rw [s4 k hk, up_n hk, qk k hk]
    clear s3 s4
    by_cases c4 : ¬ cc t (p + 1 + nd t (p + 1)) 44 = true
    · have eA : rdA t p = (0, p + 1 + nd t (p + 1), 0) := by
        unfold rdA
        rw [if_pos hk, if_neg n0, if_neg c4]
      have eF : fst0 t p = 0 := by
        unfold fst0
        rw [eA, if_pos rfl]
      have eE : endE t p = p + 1 + nd t (p + 1) := by
        unfold endE
        rw [eA, if_pos rfl]
      rw [if_neg c4] at s1 s2
      rw [s1, if_pos (by decide), eF, eE]
      exact ⟨rfl, s2, fun h => absurd h (by omega), w7, wk⟩
    have c4 : cc t (p + 1 + nd t (p + 1)) 44 = true := Decidable.not_not.mp c4
    rw [if_pos c4] at s1 s2
    rw [s1, if_neg (by decide)]
    generalize hq : p + 1 + nd t (p + 1) + 1 = q at s2
    have hq2 : q ≤ p + 4 := by omega
    have eA : rdA t p = (1, q, nv t (p + 1)) := by
      unfold rdA
      rw [if_pos hk, if_neg n0, if_pos c4, hq]
    have eF : fst0 t p = (rdB t (t.2 p) q).1 := by
      unfold fst0
      rw [eA, if_neg (by dsimp only; omega)]
    have eE : endE t p = (rdB t (t.2 p) q).2.1 := by
      unfold endE
      rw [eA, if_neg (by dsimp only; omega)]
    rw [eF, eE, eA]
    dsimp only
    simp only [w3]
    have x3 : RwP M2 37 t.1 t.2 := h.keep (by rw [wk 37 (by omega)]) (by rw [wk 38 (by omega)])
    have last : ∀ (v : Int32) (M3 : Mm) (n b : Nat), n ≤ 70 → (v = if n = 0 then -1 else nI b) → b < 200 → M3 39 2 = nI (q + n) → M3 39 3 = nI (t.2 p) → M3 39 4 = nI (nv t (p + 1)) → (t.2 p = 43 → M3 39 6 = nI q) → (∀ i, 7 ≤ i → M3 39 i = M 39 i) → (∀ k, k ≠ 39 → M3 k = M k) →
        rdB t (t.2 p) q = (if n = 0 then (0, q, 0) else if cc t (q + n) 59 = true then (1, q + n + 1, b) else (0, q + n, 0)) →
        Ok (if ((up M3 39 5 v) 39 5) = (-1 : Int32) then (some ((nI 0), (up M3 39 5 v))) else ((f_X2_readSign (nI 59) (up M3 39 5 v)).bind fun r13 => if r13.1 = 0 then (some ((nI 0), r13.2)) else (some ((nI 1), r13.2)))) (fun z => z.1 = nI (rdB t (t.2 p) q).1 ∧ z.2 39 2 = nI (rdB t (t.2 p) q).2.1 ∧ ((rdB t (t.2 p) q).1 = 1 → z.2 39 3 = nI (t.2 p) ∧ z.2 39 4 = nI (nv t (p + 1)) ∧ z.2 39 5 = nI (rdB t (t.2 p) q).2.2 ∧ (t.2 p = 43 → z.2 39 6 = nI q)) ∧ (∀ i, 7 ≤ i → z.2 39 i = M 39 i) ∧ ∀ k, k ≠ 39 → z.2 k = M k) := by
      intro v M3 n b hn hv2 hb y2 y3 y4 y6 y7 yk eB
      rw [up_ss]
      by_cases n1 : n = 0
      · rw [if_pos n1] at hv2 eB
        rw [hv2, if_pos rfl, eB]
        refine ⟨rfl, ?_, fun h => absurd h (by dsimp only; omega), fun i hi => ?_, fun k hk => ?_⟩
        · dsimp only
          rw [up_sn (by omega), y2, n1, Nat.add_zero]
        · dsimp only
          rw [up_sn (by omega)]
          exact y7 i hi
        · dsimp only
          rw [up_n hk]
          exact yk k hk
      rw [if_neg n1] at hv2 eB
      rw [hv2, if_neg (nI_nm1 (by omega))]
      have x4 : RwP (up M3 39 5 (nI b)) 37 t.1 t.2 := h.keep (by rw [up_n (by omega), yk 37 (by omega)]) (by rw [up_n (by omega), yk 38 (by omega)])
      refine Ok.bindI (readSign_c (p := q + n) (a := 59) x4 ot (by rw [up_sn (by omega)]; exact y2) (by omega) (by omega)) ?_
      rintro ⟨v4, M4⟩ ⟨s1, s2, s3, s4⟩
      dsimp only at s1 s2 s3 s4 ⊢
      have u7 : ∀ i, 7 ≤ i → M4 39 i = M 39 i := fun i hi => by rw [s3 i (by omega), up_sn (by omega), y7 i hi]
      have uk : ∀ k, k ≠ 39 → M4 k = M k := fun k hk => by rw [s4 k hk, up_n hk, yk k hk]
      by_cases c5 : cc t (q + n) 59 = true
      · rw [if_pos c5] at s1 s2 eB
        rw [s1, if_neg (by decide), eB]
        refine ⟨rfl, s2, fun _ => ⟨?_, ?_, ?_, fun g => ?_⟩, u7, uk⟩
        · dsimp only
          rw [s3 3 (by omega), up_sn (by omega)]
          exact y3
        · dsimp only
          rw [s3 4 (by omega), up_sn (by omega)]
          exact y4
        · dsimp only
          rw [s3 5 (by omega), up_ss]
        · dsimp only
          rw [s3 6 (by omega), up_sn (by omega)]
          exact y6 g
      · rw [if_neg c5] at s1 s2 eB
        rw [s1, if_pos (by decide), eB]
        exact ⟨rfl, s2, fun h => absurd h (by dsimp only; omega), u7, uk⟩
    by_cases k43 : t.2 p = 43
    · rw [if_pos (by rw [k43])]
      refine Ok.jnI ?_
      refine Ok.bindI (readSymbols_c hF x3 ot s2 (by omega)) ?_
      rintro ⟨v3, M3⟩ ⟨y1, y2, y3, y4, y5⟩
      dsimp only at y1 y2 y3 y4 y5
      have hle := psy_le (t := t) 60 q
      refine last v3 M3 (psy t 60 q) (psy t 60 q) (by omega) y1 (by omega) y2 ?_ ?_ (fun _ => y3) (fun i hi => ?_) (fun k hk => ?_) ?_
      · rw [y4 3 (by omega) (by omega)]
        exact w3
      · rw [y4 4 (by omega) (by omega)]
        exact w4
      · rw [y4 i (by omega) (by omega)]
        exact w7 i hi
      · rw [y5 k hk]
        exact wk k hk
      · unfold rdB
        rw [if_pos k43]
    · rw [if_neg (by simp (disch := omega) only [nI_leI, nI_ltI, nI_eq, nI_add, nI_clamp, pk_sub, pk_mul, nI_m1, nI_le0, nI_lt0, nI_0le, nI_0lt, nI_z, inb_nI, decide_eq_true_eq]; exact k43)]
      refine Ok.jnI ?_
      refine Ok.bindI (readNumber_c x3 ot s2 (by omega)) ?_
      rintro ⟨v3, M3⟩ ⟨y1, y2, y4, y5⟩
      dsimp only at y1 y2 y4 y5
      have hle := nd_le t q
      have eB : rdB t (t.2 p) q = (if nd t q = 0 then (0, q, 0) else if cc t (q + nd t q) 59 = true then (1, q + nd t q + 1, nv t q) else (0, q + nd t q, 0)) := by
        unfold rdB
        rw [if_neg k43]
      by_cases n1 : nd t q = 0
      · refine last v3 M3 (nd t q) 0 (by omega) (by rw [y1, if_pos n1, if_pos n1]) (by omega) y2 ?_ ?_ (fun g => absurd g k43) (fun i hi => ?_) (fun k hk => ?_) (by rw [eB, if_pos n1, if_pos n1])
        · rw [y4 3 (by omega)]
          exact w3
        · rw [y4 4 (by omega)]
          exact w4
        · rw [y4 i (by omega)]
          exact w7 i hi
        · rw [y5 k hk]
          exact wk k hk
      · have hv2 := nv_lt (t := t) (p := q) (by omega)
        refine last v3 M3 (nd t q) (nv t q) (by omega) y1 (by omega) y2 ?_ ?_ (fun g => absurd g k43) (fun i hi => ?_) (fun k hk => ?_) eB
        · rw [y4 3 (by omega)]
          exact w3
        · rw [y4 4 (by omega)]
          exact w4
        · rw [y4 i (by omega)]
          exact w7 i hi
        · rw [y5 k hk]
          exact wk k hk
