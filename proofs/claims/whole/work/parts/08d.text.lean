/-! texts: what both sides read -/
def chI (t : Rw) (p : Nat) : Int32 := if p < t.1 then nI (t.2 p) else -1
def isD (t : Rw) (p : Nat) : Bool := decide (p < t.1) && (decide (48 ≤ t.2 p) && decide (t.2 p ≤ 57))
def isS (t : Rw) (p : Nat) : Bool := decide (p < t.1) && ((decide (48 ≤ t.2 p) && decide (t.2 p ≤ 57)) || (decide (97 ≤ t.2 p) && decide (t.2 p ≤ 102)))
def sv (t : Rw) (p : Nat) : Nat := if t.2 p ≤ 57 then t.2 p - 48 else t.2 p - 97 + 10
def nd (t : Rw) (p : Nat) : Nat := if isD t p then (if isD t (p + 1) then 2 else 1) else 0
def nv (t : Rw) (p : Nat) : Nat := if isD t (p + 1) then 10 * (t.2 p - 48) + (t.2 (p + 1) - 48) else t.2 p - 48
def psy (t : Rw) : Nat → Nat → Nat
  | 0, _ => 0
  | m + 1, p => if isS t p then psy t m (p + 1) + 1 else 0
theorem isD_iff {t : Rw} {p : Nat} : isD t p = true ↔ p < t.1 ∧ 48 ≤ t.2 p ∧ t.2 p ≤ 57 := by
  unfold isD
  simp only [Bool.and_eq_true, decide_eq_true_eq]
theorem isS_iff {t : Rw} {p : Nat} : isS t p = true ↔ p < t.1 ∧ ((48 ≤ t.2 p ∧ t.2 p ≤ 57) ∨ (97 ≤ t.2 p ∧ t.2 p ≤ 102)) := by
  unfold isS
  simp only [Bool.and_eq_true, Bool.or_eq_true, decide_eq_true_eq]
theorem sv_lt {t : Rw} {p : Nat} (h : isS t p = true) : sv t p < 16 := by
  have := isS_iff.mp h
  unfold sv
  split <;> omega
theorem nd_le (t : Rw) (p : Nat) : nd t p ≤ 2 := by
  unfold nd
  split
  · split <;> omega
  · omega
theorem nd_in {t : Rw} {p : Nat} (h : 0 < nd t p) : p + nd t p ≤ t.1 := by
  unfold nd at h ⊢
  by_cases h1 : isD t p = true
  · have g1 := isD_iff.mp h1
    rw [if_pos h1]
    by_cases h2 : isD t (p + 1) = true
    · have g2 := isD_iff.mp h2
      rw [if_pos h2]
      omega
    · rw [if_neg h2]
      omega
  · rw [if_neg h1] at h
    omega
theorem nv_lt {t : Rw} {p : Nat} (h : 0 < nd t p) : nv t p ≤ 99 := by
  unfold nd at h
  unfold nv
  by_cases h1 : isD t p = true
  · have g1 := isD_iff.mp h1
    by_cases h2 : isD t (p + 1) = true
    · have g2 := isD_iff.mp h2
      rw [if_pos h2]
      omega
    · rw [if_neg h2]
      omega
  · rw [if_neg h1] at h
    omega
theorem psy_eq {t : Rw} : ∀ m p i, (∀ j, j < i → isS t (p + j) = true) → i ≤ m → (i = m ∨ isS t (p + i) = false) → psy t m p = i
  | 0, p, i, _, h2, _ => by
    have e : i = 0 := by omega
    rw [e]
    rfl
  | m + 1, p, 0, _, _, h3 => by
    have e : isS t p = false := by
      rcases h3 with h | h
      · omega
      · exact h
    show (if isS t p = true then psy t m (p + 1) + 1 else 0) = 0
    rw [e]
    rfl
  | m + 1, p, i + 1, h1, h2, h3 => by
    have e : isS t p = true := h1 0 (by omega)
    show (if isS t p = true then psy t m (p + 1) + 1 else 0) = i + 1
    have g1 : ∀ j, j < i → isS t (p + 1 + j) = true := fun j hj => by
      rw [show p + 1 + j = p + (j + 1) by omega]
      exact h1 _ (by omega)
    have g2 : i = m ∨ isS t (p + 1 + i) = false := by
      rcases h3 with h | h
      · exact Or.inl (by omega)
      · right
        rw [show p + 1 + i = p + (i + 1) by omega]
        exact h
    rw [if_pos e, psy_eq m (p + 1) i g1 (by omega) g2]
theorem psy_s {t : Rw} : ∀ m p j, j < psy t m p → isS t (p + j) = true
  | 0, p, j, h => absurd h (Nat.not_lt_zero j)
  | m + 1, p, j, h => by
    have e : psy t (m + 1) p = if isS t p = true then psy t m (p + 1) + 1 else 0 := rfl
    rw [e] at h
    by_cases hs : isS t p = true
    · rw [if_pos hs] at h
      cases j with
      | zero => exact hs
      | succ j =>
        have := psy_s (t := t) m (p + 1) j (by omega)
        rw [show p + 1 + j = p + (j + 1) by omega] at this
        exact this
    · rw [if_neg hs] at h
      omega
theorem psy_in {t : Rw} {m p : Nat} (h : 0 < psy t m p) : p + psy t m p ≤ t.1 := by
  have h1 := (isS_iff.mp (psy_s (t := t) m p (psy t m p - 1) (by omega))).1
  omega
/-- the class's text -/
theorem at5_t {M : Mm} {t : Rw} {p : Nat} (h : RwP M 37 t.1 t.2) (ht : t.1 ≤ 60) (hp : p < 1000) : f_X5_at (nI p) M = some (chI t p) := by
  unfold f_X5_at chI
  rw [h.1, if_neg (show ¬ nI p < 0 from nI_pos (by omega))]
  simp (disch := omega) only [nI_leI, nI_ltI, nI_eq, nI_add, nI_clamp, pk_sub, pk_mul, nI_m1, nI_le0, nI_lt0, nI_0le, nI_0lt, nI_z, inb_nI, decide_eq_true_eq]
  by_cases hc : p < t.1
  · rw [if_neg (by omega), if_pos (by omega), if_pos hc, h.2 p hc]
  · rw [if_pos (by omega), if_neg hc]
theorem ch_nn {t : Rw} (ot : okT t) {p : Nat} (h : p < t.1) : 32 ≤ t.2 p ∧ t.2 p ≤ 126 := ot.2 p h
theorem digitOf_t {t : Rw} (ot : okT t) (p : Nat) : f_X5_digitOf (chI t p) = some (if isD t p then nI (t.2 p - 48) else -1) := by
  unfold f_X5_digitOf chI
  by_cases hc : p < t.1
  · have h1 := ch_nn ot hc
    rw [if_pos hc]
    by_cases hd : isD t p = true
    · have h2 := isD_iff.mp hd
      rw [if_pos hd]
      simp (disch := omega) only [nI_leI, nI_ltI, nI_eq, nI_add, nI_clamp, pk_sub, pk_mul, nI_m1, nI_le0, nI_lt0, nI_0le, nI_0lt, nI_z, inb_nI, decide_eq_true_eq]
      rw [if_neg (by omega), if_neg (by omega)]
    · have h2 : ¬ (48 ≤ t.2 p ∧ t.2 p ≤ 57) := fun h => hd (isD_iff.mpr ⟨hc, h⟩)
      rw [if_neg hd]
      simp (disch := omega) only [nI_leI, nI_ltI, nI_eq, nI_add, nI_clamp, pk_sub, pk_mul, nI_m1, nI_le0, nI_lt0, nI_0le, nI_0lt, nI_z, inb_nI, decide_eq_true_eq]
      by_cases h3 : t.2 p < 48
      · rw [if_pos h3]
      · rw [if_neg h3, if_pos (by omega)]
  · have hd : ¬ isD t p = true := fun h => hc (isD_iff.mp h).1
    rw [if_neg hc, if_neg hd]
    rfl
theorem digitAt_t {M : Mm} {t : Rw} {p : Nat} (h : RwP M 37 t.1 t.2) (ot : okT t) (hp : p < 1000) : f_X5_digitAt (nI p) M = some (if isD t p then nI (t.2 p - 48) else -1) := by
  unfold f_X5_digitAt
  rw [at5_t h ot.1 hp, Option.bind_some, digitOf_t ot, Option.bind_some]
theorem symV_t {M : Mm} {t : Rw} {p : Nat} (h : RwP M 37 t.1 t.2) (ot : okT t) (hp : p < 1000) : f_X5_symbolValueAt (nI p) M = some (if isS t p then nI (sv t p) else -1) := by
  unfold f_X5_symbolValueAt
  rw [at5_t h ot.1 hp, Option.bind_some, digitOf_t ot]
  by_cases hc : p < t.1
  · have h1 := ch_nn ot hc
    have e : chI t p = nI (t.2 p) := if_pos hc
    rw [e]
    unfold sv
    simp (disch := omega) only [nI_leI, nI_ltI, nI_eq, nI_add, nI_clamp, pk_sub, pk_mul, nI_m1, nI_le0, nI_lt0, nI_0le, nI_0lt, nI_z, inb_nI, decide_eq_true_eq]
    by_cases hd : isD t p = true
    · have h2 := isD_iff.mp hd
      have hs : isS t p = true := isS_iff.mpr ⟨hc, Or.inl h2.2⟩
      rw [if_pos (show t.2 p < 97 by omega), if_pos hd, if_pos hs, if_pos (by omega)]
      rfl
    · have h2 : ¬ (48 ≤ t.2 p ∧ t.2 p ≤ 57) := fun h => hd (isD_iff.mpr ⟨hc, h⟩)
      rw [if_neg hd]
      by_cases h3 : t.2 p < 97
      · have hs : ¬ isS t p = true := fun h => by
          have := isS_iff.mp h
          omega
        rw [if_pos h3, if_neg hs]
        rfl
      · by_cases h4 : 102 < t.2 p
        · have hs : ¬ isS t p = true := fun h => by
            have := isS_iff.mp h
            omega
          rw [if_neg h3, if_pos h4, if_neg hs]
          rfl
        · have hs : isS t p = true := isS_iff.mpr ⟨hc, Or.inr ⟨by omega, by omega⟩⟩
          rw [if_neg h3, if_neg h4, if_pos hs, if_neg (by omega)]
  · have e : chI t p = -1 := if_neg hc
    have hd : ¬ isD t p = true := fun h => hc (isD_iff.mp h).1
    have hs : ¬ isS t p = true := fun h => hc (isS_iff.mp h).1
    rw [e, if_neg hd, if_neg hs, if_pos (by decide)]
    rfl
/-- the reference's text -/
def TxR (M : Mm) (t : Rw) : Prop := M 40 6 = nI t.1 ∧ ∀ i, i < t.1 → M 45 i = nI (t.2 i)
theorem sign_t {M : Mm} {t : Rw} {p : Nat} (h : TxR M t) (ht : t.1 ≤ 60) (e : M 40 7 = nI p) (hp : p < 1000) : f_X7_sign M = some (chI t p) := by
  unfold f_X7_sign chI
  rw [h.1, e]
  simp (disch := omega) only [nI_leI, nI_ltI, nI_eq, nI_add, nI_clamp, pk_sub, pk_mul, nI_m1, nI_le0, nI_lt0, nI_0le, nI_0lt, nI_z, inb_nI, decide_eq_true_eq]
  by_cases hc : p < t.1
  · rw [if_neg (by omega), if_pos (by omega), if_pos hc, h.2 p hc]
  · rw [if_pos (by omega), if_neg hc]
theorem in_dig {t : Rw} (ot : okT t) (p : Nat) : f_X7_in (chI t p) (nI 48) (nI 57) = some (if isD t p then nI 1 else nI 0) := by
  unfold chI
  by_cases hc : p < t.1
  · have h1 := ch_nn ot hc
    rw [if_pos hc]
    by_cases hd : isD t p = true
    · have h2 := isD_iff.mp hd
      rw [if_pos hd, in_t (by omega) (by omega) (by omega)]
    · have h2 : ¬ (48 ≤ t.2 p ∧ t.2 p ≤ 57) := fun h => hd (isD_iff.mpr ⟨hc, h⟩)
      rw [if_neg hd, in_f]
      by_cases h3 : t.2 p < 48
      · left
        simp (disch := omega) only [nI_leI, nI_ltI, nI_eq, nI_add, nI_clamp, pk_sub, pk_mul, nI_m1, nI_le0, nI_lt0, nI_0le, nI_0lt, nI_z, inb_nI, decide_eq_true_eq]
        exact h3
      · right
        simp (disch := omega) only [nI_leI, nI_ltI, nI_eq, nI_add, nI_clamp, pk_sub, pk_mul, nI_m1, nI_le0, nI_lt0, nI_0le, nI_0lt, nI_z, inb_nI, decide_eq_true_eq]
        omega
  · have hd : ¬ isD t p = true := fun h => hc (isD_iff.mp h).1
    rw [if_neg hc, if_neg hd]
    rfl
theorem symR_t {M : Mm} {t : Rw} {p : Nat} (h : TxR M t) (ot : okT t) (e : M 40 7 = nI p) (hp : p < 1000) : f_X7_symbol M = some (if isS t p then nI (sv t p) else -1) := by
  unfold f_X7_symbol
  rw [sign_t h ot.1 e hp, Option.bind_some, in_dig ot, Option.bind_some]
  by_cases hc : p < t.1
  · have h1 := ch_nn ot hc
    have e : chI t p = nI (t.2 p) := if_pos hc
    rw [e]
    unfold sv
    by_cases hd : isD t p = true
    · have h2 := isD_iff.mp hd
      have hs : isS t p = true := isS_iff.mpr ⟨hc, Or.inl h2.2⟩
      rw [if_pos hd, if_neg (by decide), if_pos hs, if_pos (by omega)]
      simp (disch := omega) only [nI_leI, nI_ltI, nI_eq, nI_add, nI_clamp, pk_sub, pk_mul, nI_m1, nI_le0, nI_lt0, nI_0le, nI_0lt, nI_z, inb_nI, decide_eq_true_eq]
    · have h2 : ¬ (48 ≤ t.2 p ∧ t.2 p ≤ 57) := fun h => hd (isD_iff.mpr ⟨hc, h⟩)
      rw [if_neg hd, if_pos (by decide)]
      by_cases h3 : t.2 p < 97
      · have hs : ¬ isS t p = true := fun h => by
          have := isS_iff.mp h
          omega
        rw [in_f (Or.inl (by simp (disch := omega) only [nI_leI, nI_ltI, nI_eq, nI_add, nI_clamp, pk_sub, pk_mul, nI_m1, nI_le0, nI_lt0, nI_0le, nI_0lt, nI_z, inb_nI, decide_eq_true_eq]; exact h3)), Option.bind_some, if_pos (by decide), if_neg hs]
      · by_cases h4 : 102 < t.2 p
        · have hs : ¬ isS t p = true := fun h => by
            have := isS_iff.mp h
            omega
          rw [in_f (Or.inr (by simp (disch := omega) only [nI_leI, nI_ltI, nI_eq, nI_add, nI_clamp, pk_sub, pk_mul, nI_m1, nI_le0, nI_lt0, nI_0le, nI_0lt, nI_z, inb_nI, decide_eq_true_eq]; exact h4)), Option.bind_some, if_pos (by decide), if_neg hs]
        · have hs : isS t p = true := isS_iff.mpr ⟨hc, Or.inr ⟨by omega, by omega⟩⟩
          rw [in_t (by omega) (by omega) (by omega), Option.bind_some, if_neg (by decide), if_pos hs, if_neg (by omega)]
          simp (disch := omega) only [nI_leI, nI_ltI, nI_eq, nI_add, nI_clamp, pk_sub, pk_mul, nI_m1, nI_le0, nI_lt0, nI_0le, nI_0lt, nI_z, inb_nI, decide_eq_true_eq]
  · have e : chI t p = -1 := if_neg hc
    have hd : ¬ isD t p = true := fun h => hc (isD_iff.mp h).1
    have hs : ¬ isS t p = true := fun h => hc (isS_iff.mp h).1
    rw [e, if_neg hd, if_neg hs, if_pos (by decide)]
    rfl
