def unl (c : Nat → Nat) : Nat → Nat
  | 0 => 0
  | v + 1 => unl c v + (if 0 < c v then 1 else 0)
def mfq (c : Nat → Nat) : Nat → Nat
  | 0 => 0
  | v + 1 => if c (mfq c v) < c v then v else mfq c v
def sm (f : Nat → Nat) (a : Nat) : Nat → Nat
  | 0 => 0
  | m + 1 => sm f a m + f (a + m)
def wrJ (f : Nat → Nat) (p : Nat) : Nat → Nat
  | 0 => 0
  | m + 1 => wrJ f p m + (if f p ≤ f (p + 1 + m) then 0 else 1)
def wr (f : Nat → Nat) (a b : Nat) : Nat → Nat
  | 0 => 0
  | m + 1 => wr f a b m + wrJ f (a + m) (b - (a + m) - 1)
theorem mfq_lt (c : Nat → Nat) : ∀ v, mfq c v ≤ v
  | 0 => Nat.le_refl 0
  | v + 1 => by
    have := mfq_lt c v
    unfold mfq
    split <;> omega
theorem mfq_lt16 (c : Nat → Nat) {v : Nat} (h : 0 < v) : mfq c v < v := by
  induction v with
  | zero => omega
  | succ v ih =>
    unfold mfq
    split
    · omega
    · by_cases h1 : v = 0
      · subst h1
        show (0 : Nat) < 1
        omega
      · have := ih (by omega)
        omega
theorem mfq_max (c : Nat → Nat) : ∀ v u, u < v → c u ≤ c (mfq c v)
  | 0, u, h => absurd h (Nat.not_lt_zero u)
  | v + 1, u, h => by
    unfold mfq
    by_cases h1 : c (mfq c v) < c v
    · rw [if_pos h1]
      by_cases h2 : u = v
      · rw [h2]
        exact Nat.le_refl _
      · have := mfq_max c v u (by omega)
        omega
    · rw [if_neg h1]
      by_cases h2 : u = v
      · rw [h2]
        omega
      · exact mfq_max c v u (by omega)
theorem unlike_t {F : Nat} {M : Mm} {k : Nat} {c : Nat → Nat} (hF : 100 ≤ F) (h : Tl (M (k + 1)) c) (hc : ∀ v, c v ≤ 60) : f_X4_unlike F k M = some (nI (unl c 16)) := by
  apply Ok.eq
  unfold f_X4_unlike
  refine Ok.lpN (m0 := 16) (fun m z => ∃ v, v + m = 16 ∧ z = (nI (unl c v), nI v)) ?_ ?_ (by omega)
  · rintro m z ⟨v, hv, rfl⟩
    dsimp only
    by_cases hd : 16 ≤ v
    · rw [if_pos (by simp (disch := omega) only [nI_leI, nI_ltI, nI_eq, nI_add, nI_clamp, pk_sub, pk_mul, nI_m1, nI_le0, nI_lt0, nI_0le, nI_0lt, nI_z, inb_nI, decide_eq_true_eq]; omega)]
      have e : v = 16 := by omega
      subst e
      rfl
    · have hcv := hc v
      rw [if_neg (by simp (disch := omega) only [nI_leI, nI_ltI, nI_eq, nI_add, nI_clamp, pk_sub, pk_mul, nI_m1, nI_le0, nI_lt0, nI_0le, nI_0lt, nI_z, inb_nI, decide_eq_true_eq]; omega), if_pos (by simp (disch := omega) only [nI_leI, nI_ltI, nI_eq, nI_add, nI_clamp, pk_sub, pk_mul, nI_m1, nI_le0, nI_lt0, nI_0le, nI_0lt, nI_z, inb_nI, decide_eq_true_eq]; omega), nI_clamp (by omega)]
      simp only [h v (by omega)]
      have e0 : unl c (v + 1) = unl c v + (if 0 < c v then 1 else 0) := rfl
      by_cases hq : 0 < c v
      · rw [if_neg (by simp (disch := omega) only [nI_leI, nI_ltI, nI_eq, nI_add, nI_clamp, pk_sub, pk_mul, nI_m1, nI_le0, nI_lt0, nI_0le, nI_0lt, nI_z, inb_nI, decide_eq_true_eq]; omega)]
        rw [if_pos hq] at e0
        exact ⟨m - 1, by omega, v + 1, by omega, by rw [e0, nI_add, nI_add]⟩
      · rw [if_pos (by simp (disch := omega) only [nI_leI, nI_ltI, nI_eq, nI_add, nI_clamp, pk_sub, pk_mul, nI_m1, nI_le0, nI_lt0, nI_0le, nI_0lt, nI_z, inb_nI, decide_eq_true_eq]; omega)]
        rw [if_neg hq] at e0
        exact ⟨m - 1, by omega, v + 1, by omega, by rw [e0, nI_add]; rfl⟩
  · exact ⟨0, by omega, rfl⟩
theorem unlikeR_t {F : Nat} {M : Mm} {c : Nat → Nat} (hF : 100 ≤ F) (h : Tl (M 48) c) (hc : ∀ v, c v ≤ 60) : f_X7_unlike F M = some (nI (unl c 16)) := by
  apply Ok.eq
  unfold f_X7_unlike
  refine Ok.lpN (m0 := 16) (fun m z => ∃ v, v + m = 16 ∧ z = (nI (unl c v), nI v)) ?_ ?_ (by omega)
  · rintro m z ⟨v, hv, rfl⟩
    dsimp only
    by_cases hd : 16 ≤ v
    · rw [if_pos (by simp (disch := omega) only [nI_leI, nI_ltI, nI_eq, nI_add, nI_clamp, pk_sub, pk_mul, nI_m1, nI_le0, nI_lt0, nI_0le, nI_0lt, nI_z, inb_nI, decide_eq_true_eq]; omega)]
      have e : v = 16 := by omega
      subst e
      rfl
    · have hcv := hc v
      rw [if_neg (by simp (disch := omega) only [nI_leI, nI_ltI, nI_eq, nI_add, nI_clamp, pk_sub, pk_mul, nI_m1, nI_le0, nI_lt0, nI_0le, nI_0lt, nI_z, inb_nI, decide_eq_true_eq]; omega), if_pos (by simp (disch := omega) only [nI_leI, nI_ltI, nI_eq, nI_add, nI_clamp, pk_sub, pk_mul, nI_m1, nI_le0, nI_lt0, nI_0le, nI_0lt, nI_z, inb_nI, decide_eq_true_eq]; omega), nI_clamp (by omega)]
      simp only [h v (by omega)]
      have e0 : unl c (v + 1) = unl c v + (if 0 < c v then 1 else 0) := rfl
      by_cases hq : 0 < c v
      · rw [if_neg (by simp (disch := omega) only [nI_leI, nI_ltI, nI_eq, nI_add, nI_clamp, pk_sub, pk_mul, nI_m1, nI_le0, nI_lt0, nI_0le, nI_0lt, nI_z, inb_nI, decide_eq_true_eq]; omega)]
        rw [if_pos hq] at e0
        exact ⟨m - 1, by omega, v + 1, by omega, by rw [e0, nI_add, nI_add]⟩
      · rw [if_pos (by simp (disch := omega) only [nI_leI, nI_ltI, nI_eq, nI_add, nI_clamp, pk_sub, pk_mul, nI_m1, nI_le0, nI_lt0, nI_0le, nI_0lt, nI_z, inb_nI, decide_eq_true_eq]; omega)]
        rw [if_neg hq] at e0
        exact ⟨m - 1, by omega, v + 1, by omega, by rw [e0, nI_add, nI_add]⟩
  · exact ⟨0, by omega, rfl⟩
theorem times_f {M : Mm} {k : Nat} : f_X4_times k (-1) M = some (nI 0) := by
  unfold f_X4_times
  rw [isSymbol_f (Or.inl (by decide)), Option.bind_some, if_pos (by decide)]
def mfB (c : Nat → Nat) (v : Nat) : Int32 := if v = 0 ∨ c (mfq c v) = 0 then -1 else nI (mfq c v)
theorem mostFrequent_t {F : Nat} {M : Mm} {k : Nat} {c : Nat → Nat} (hF : 100 ≤ F) (h : Tl (M (k + 1)) c) (hc : ∀ v, c v ≤ 60) : f_X4_mostFrequent F k M = some (mfB c 16) := by
  apply Ok.eq
  unfold f_X4_mostFrequent
  refine Ok.lpN (m0 := 16) (fun m z => ∃ v, v + m = 16 ∧ z = (mfB c v, nI v)) ?_ ?_ (by omega)
  · rintro m z ⟨v, hv, rfl⟩
    dsimp only
    by_cases hd : 16 ≤ v
    · rw [if_pos (by simp (disch := omega) only [nI_leI, nI_ltI, nI_eq, nI_add, nI_clamp, pk_sub, pk_mul, nI_m1, nI_le0, nI_lt0, nI_0le, nI_0lt, nI_z, inb_nI, decide_eq_true_eq]; omega)]
      have e : v = 16 := by omega
      subst e
      rfl
    · have hcv := hc v
      rw [if_neg (by simp (disch := omega) only [nI_leI, nI_ltI, nI_eq, nI_add, nI_clamp, pk_sub, pk_mul, nI_m1, nI_le0, nI_lt0, nI_0le, nI_0lt, nI_z, inb_nI, decide_eq_true_eq]; omega), if_pos (by simp (disch := omega) only [nI_leI, nI_ltI, nI_eq, nI_add, nI_clamp, pk_sub, pk_mul, nI_m1, nI_le0, nI_lt0, nI_0le, nI_0lt, nI_z, inb_nI, decide_eq_true_eq]; omega), nI_clamp (by omega)]
      have e0 : mfq c (v + 1) = if c (mfq c v) < c v then v else mfq c v := rfl
      by_cases hb : v = 0 ∨ c (mfq c v) = 0
      · have e1 : mfB c v = -1 := if_pos hb
        rw [e1, times_f, Option.bind_some]
        simp only [h v (by omega)]
        by_cases hq : 0 < c v
        · rw [if_neg (by simp (disch := omega) only [nI_leI, nI_ltI, nI_eq, nI_add, nI_clamp, pk_sub, pk_mul, nI_m1, nI_le0, nI_lt0, nI_0le, nI_0lt, nI_z, inb_nI, decide_eq_true_eq]; omega)]
          refine ⟨m - 1, by omega, v + 1, by omega, ?_⟩
          have e2 : mfq c (v + 1) = v := by
            rw [e0]
            rcases hb with rfl | hb
            · have : mfq c 0 = 0 := rfl
              rw [this, if_neg (by omega)]
            · rw [if_pos (by omega)]
          have e3 : mfB c (v + 1) = nI v := by
            unfold mfB
            rw [e2, if_neg (by omega)]
          rw [e3, nI_add]
        · rw [if_pos (by simp (disch := omega) only [nI_leI, nI_ltI, nI_eq, nI_add, nI_clamp, pk_sub, pk_mul, nI_m1, nI_le0, nI_lt0, nI_0le, nI_0lt, nI_z, inb_nI, decide_eq_true_eq]; omega)]
          refine ⟨m - 1, by omega, v + 1, by omega, ?_⟩
          have e3 : mfB c (v + 1) = -1 := by
            unfold mfB
            rw [if_pos]
            right
            rw [e0]
            rcases hb with rfl | hb
            · have : mfq c 0 = 0 := rfl
              rw [this, if_neg (by omega)]
              omega
            · rw [if_neg (by omega)]
              exact hb
          rw [e3, nI_add]
      · have e1 : mfB c v = nI (mfq c v) := if_neg hb
        have hl := mfq_lt c v
        have hcm := hc (mfq c v)
        rw [e1, times_t h (by omega), Option.bind_some]
        simp only [h v (by omega)]
        by_cases hq : c (mfq c v) < c v
        · rw [if_neg (by simp (disch := omega) only [nI_leI, nI_ltI, nI_eq, nI_add, nI_clamp, pk_sub, pk_mul, nI_m1, nI_le0, nI_lt0, nI_0le, nI_0lt, nI_z, inb_nI, decide_eq_true_eq]; omega)]
          rw [if_pos hq] at e0
          refine ⟨m - 1, by omega, v + 1, by omega, ?_⟩
          have e3 : mfB c (v + 1) = nI v := by
            unfold mfB
            rw [e0, if_neg (by omega)]
          rw [e3, nI_add]
        · rw [if_pos (by simp (disch := omega) only [nI_leI, nI_ltI, nI_eq, nI_add, nI_clamp, pk_sub, pk_mul, nI_m1, nI_le0, nI_lt0, nI_0le, nI_0lt, nI_z, inb_nI, decide_eq_true_eq]; omega)]
          rw [if_neg hq] at e0
          refine ⟨m - 1, by omega, v + 1, by omega, ?_⟩
          have e3 : mfB c (v + 1) = nI (mfq c v) := by
            unfold mfB
            rw [e0, if_neg (by omega)]
          rw [e3, nI_add]
  · exact ⟨0, by omega, rfl⟩
theorem mostFrequentR_t {F : Nat} {M : Mm} {c : Nat → Nat} (hF : 100 ≤ F) (h : Tl (M 48) c) (hc : ∀ v, c v ≤ 60) : f_X7_mostFrequent F M = some (nI (mfq c 16)) := by
  apply Ok.eq
  unfold f_X7_mostFrequent
  refine Ok.lpN (m0 := 15) (fun m z => ∃ v, v + m = 16 ∧ z = (nI (mfq c v), nI v)) ?_ ?_ (by omega)
  · rintro m z ⟨v, hv, rfl⟩
    dsimp only
    by_cases hd : 16 ≤ v
    · rw [if_pos (by simp (disch := omega) only [nI_leI, nI_ltI, nI_eq, nI_add, nI_clamp, pk_sub, pk_mul, nI_m1, nI_le0, nI_lt0, nI_0le, nI_0lt, nI_z, inb_nI, decide_eq_true_eq]; omega)]
      have e : v = 16 := by omega
      subst e
      rfl
    · have hcv := hc v
      have hl := mfq_lt c v
      have hcm := hc (mfq c v)
      rw [if_neg (by simp (disch := omega) only [nI_leI, nI_ltI, nI_eq, nI_add, nI_clamp, pk_sub, pk_mul, nI_m1, nI_le0, nI_lt0, nI_0le, nI_0lt, nI_z, inb_nI, decide_eq_true_eq]; omega), if_pos (by simp (disch := omega) only [nI_leI, nI_ltI, nI_eq, nI_add, nI_clamp, pk_sub, pk_mul, nI_m1, nI_le0, nI_lt0, nI_0le, nI_0lt, nI_z, inb_nI, decide_eq_true_eq]; omega), if_pos (by simp (disch := omega) only [nI_leI, nI_ltI, nI_eq, nI_add, nI_clamp, pk_sub, pk_mul, nI_m1, nI_le0, nI_lt0, nI_0le, nI_0lt, nI_z, inb_nI, decide_eq_true_eq]; omega), nI_clamp (by omega), nI_clamp (by omega)]
      simp only [h v (by omega), h (mfq c v) (by omega)]
      have e0 : mfq c (v + 1) = if c (mfq c v) < c v then v else mfq c v := rfl
      by_cases hq : c (mfq c v) < c v
      · rw [if_neg (by simp (disch := omega) only [nI_leI, nI_ltI, nI_eq, nI_add, nI_clamp, pk_sub, pk_mul, nI_m1, nI_le0, nI_lt0, nI_0le, nI_0lt, nI_z, inb_nI, decide_eq_true_eq]; omega)]
        rw [if_pos hq] at e0
        exact ⟨m - 1, by omega, v + 1, by omega, by rw [e0, nI_add]⟩
      · rw [if_pos (by simp (disch := omega) only [nI_leI, nI_ltI, nI_eq, nI_add, nI_clamp, pk_sub, pk_mul, nI_m1, nI_le0, nI_lt0, nI_0le, nI_0lt, nI_z, inb_nI, decide_eq_true_eq]; omega)]
        rw [if_neg hq] at e0
        exact ⟨m - 1, by omega, v + 1, by omega, by rw [e0, nI_add]⟩
  · have e1 : mfq c 1 = 0 := by
      show (if c 0 < c 0 then 0 else 0) = 0
      rw [if_neg (Nat.lt_irrefl _)]
    exact ⟨1, by omega, by rw [e1]⟩
theorem sum_t {F : Nat} {M : Mm} {k a b : Nat} {r : Rw} (hF : 100 ≤ F) (h : RwP M k r.1 r.2) (hn : r.1 ≤ 60) (hab : a ≤ b) (hb : b ≤ r.1) : f_X3_sum F k (nI a) (nI b) M = some (nI (sm r.2 a (b - a))) := by
  apply Ok.eq
  unfold f_X3_sum
  refine Ok.lpN (m0 := b - a) (fun m z => ∃ j, j + m = b - a ∧ z = (nI (sm r.2 a j), nI (a + j))) ?_ ?_ (by omega)
  · rintro m z ⟨j, hj, rfl⟩
    dsimp only
    by_cases hd : b ≤ a + j
    · rw [if_pos (by simp (disch := omega) only [nI_leI, nI_ltI, nI_eq, nI_add, nI_clamp, pk_sub, pk_mul, nI_m1, nI_le0, nI_lt0, nI_0le, nI_0lt, nI_z, inb_nI, decide_eq_true_eq]; omega)]
      have e : b - a = j := by omega
      rw [e]
      rfl
    · rw [if_neg (by simp (disch := omega) only [nI_leI, nI_ltI, nI_eq, nI_add, nI_clamp, pk_sub, pk_mul, nI_m1, nI_le0, nI_lt0, nI_0le, nI_0lt, nI_z, inb_nI, decide_eq_true_eq]; omega), at_t h hn (by omega), Option.bind_some]
      exact ⟨m - 1, by omega, j + 1, by omega, by rw [nI_add, nI_add, Nat.add_assoc]; rfl⟩
  · exact ⟨0, by omega, rfl⟩
theorem sumR_t {F : Nat} {M : Mm} {a b : Nat} {r : Rw} (hF : 100 ≤ F) (h : SqP (M 41) 0 r) (hn : r.1 ≤ 60) (hab : a ≤ b) (hb : b ≤ r.1) : f_X7_sum F (nI a) (nI b) M = some (nI (sm r.2 a (b - a))) := by
  apply Ok.eq
  unfold f_X7_sum
  refine Ok.lpN (m0 := b - a) (fun m z => ∃ j, j + m = b - a ∧ z = (nI (sm r.2 a j), nI (a + j))) ?_ ?_ (by omega)
  · rintro m z ⟨j, hj, rfl⟩
    dsimp only
    by_cases hd : b ≤ a + j
    · rw [if_pos (by simp (disch := omega) only [nI_leI, nI_ltI, nI_eq, nI_add, nI_clamp, pk_sub, pk_mul, nI_m1, nI_le0, nI_lt0, nI_0le, nI_0lt, nI_z, inb_nI, decide_eq_true_eq]; omega)]
      have e : b - a = j := by omega
      rw [e]
      rfl
    · have e3 : nI 1 + nI (a + j) = nI (1 + (a + j)) := nI_add _ _
      have e4 : Int32.toNatClampNeg (nI (1 + (a + j))) = 1 + (a + j) := nI_clamp (by omega)
      rw [if_neg (by simp (disch := omega) only [nI_leI, nI_ltI, nI_eq, nI_add, nI_clamp, pk_sub, pk_mul, nI_m1, nI_le0, nI_lt0, nI_0le, nI_0lt, nI_z, inb_nI, decide_eq_true_eq]; omega)]
      simp only [e3, e4, h.el (show a + j < r.1 by omega)]
      rw [if_pos (by simp (disch := omega) only [nI_leI, nI_ltI, nI_eq, nI_add, nI_clamp, pk_sub, pk_mul, nI_m1, nI_le0, nI_lt0, nI_0le, nI_0lt, nI_z, inb_nI, decide_eq_true_eq]; omega)]
      exact ⟨m - 1, by omega, j + 1, by omega, by rw [nI_add, nI_add, Nat.add_assoc]; rfl⟩
  · exact ⟨0, by omega, rfl⟩
theorem wrong_t {F : Nat} {M : Mm} {k a b : Nat} {r : Rw} (hF : 100 ≤ F) (h : RwP M k r.1 r.2) (ho : okR r) (hab : a ≤ b) (hb : b ≤ r.1) : f_X3_wrongPairs F k (nI a) (nI b) M = some (nI (wr r.2 a b (b - a))) := by
  have hn := ho.1
  apply Ok.eq
  unfold f_X3_wrongPairs
  refine Ok.lpN (m0 := b - a) (fun m z => ∃ j, j + m = b - a ∧ z = (nI (wr r.2 a b j), nI (a + j))) ?_ ?_ (by omega)
  · rintro m z ⟨j, hj, rfl⟩
    dsimp only
    by_cases hd : b ≤ a + j
    · rw [if_pos (by simp (disch := omega) only [nI_leI, nI_ltI, nI_eq, nI_add, nI_clamp, pk_sub, pk_mul, nI_m1, nI_le0, nI_lt0, nI_0le, nI_0lt, nI_z, inb_nI, decide_eq_true_eq]; omega)]
      have e : b - a = j := by omega
      rw [e]
      rfl
    · rw [if_neg (by simp (disch := omega) only [nI_leI, nI_ltI, nI_eq, nI_add, nI_clamp, pk_sub, pk_mul, nI_m1, nI_le0, nI_lt0, nI_0le, nI_0lt, nI_z, inb_nI, decide_eq_true_eq]; omega)]
      refine Ok.lpN (m0 := b - (a + j) - 1) (fun m z => ∃ i, i + m = b - (a + j) - 1 ∧ z = (nI (wr r.2 a b j + wrJ r.2 (a + j) i), nI (a + j + 1 + i))) ?_ ?_ (by omega)
      · rintro m' z ⟨i, hi, rfl⟩
        dsimp only
        by_cases hd2 : b ≤ a + j + 1 + i
        · rw [if_pos (by simp (disch := omega) only [nI_leI, nI_ltI, nI_eq, nI_add, nI_clamp, pk_sub, pk_mul, nI_m1, nI_le0, nI_lt0, nI_0le, nI_0lt, nI_z, inb_nI, decide_eq_true_eq]; omega)]
          have e : b - (a + j) - 1 = i := by omega
          refine ⟨m - 1, by omega, j + 1, by omega, ?_⟩
          rw [nI_add, ← e]
          rfl
        · have s1 := ho.2 (a + j) (by omega)
          have s2 := ho.2 (a + j + 1 + i) (by omega)
          rw [if_neg (by simp (disch := omega) only [nI_leI, nI_ltI, nI_eq, nI_add, nI_clamp, pk_sub, pk_mul, nI_m1, nI_le0, nI_lt0, nI_0le, nI_0lt, nI_z, inb_nI, decide_eq_true_eq]; omega), at_t h hn (by omega), Option.bind_some, at_t h hn (by omega), Option.bind_some]
          have e0 : wrJ r.2 (a + j) (i + 1) = wrJ r.2 (a + j) i + (if r.2 (a + j) ≤ r.2 (a + j + 1 + i) then 0 else 1) := rfl
          by_cases hq : r.2 (a + j) ≤ r.2 (a + j + 1 + i)
          · rw [if_pos (by simp (disch := omega) only [nI_leI, nI_ltI, nI_eq, nI_add, nI_clamp, pk_sub, pk_mul, nI_m1, nI_le0, nI_lt0, nI_0le, nI_0lt, nI_z, inb_nI, decide_eq_true_eq]; omega)]
            rw [if_pos hq] at e0
            exact ⟨m' - 1, by omega, i + 1, by omega, by rw [e0, nI_add, Nat.add_assoc (a + j + 1)]; rfl⟩
          · rw [if_neg (by simp (disch := omega) only [nI_leI, nI_ltI, nI_eq, nI_add, nI_clamp, pk_sub, pk_mul, nI_m1, nI_le0, nI_lt0, nI_0le, nI_0lt, nI_z, inb_nI, decide_eq_true_eq]; omega)]
            rw [if_neg hq] at e0
            exact ⟨m' - 1, by omega, i + 1, by omega, by rw [e0, nI_add, nI_add, Nat.add_assoc, Nat.add_assoc (a + j + 1)]⟩
      · exact ⟨0, by omega, by rw [nI_add]; rfl⟩
  · exact ⟨0, by omega, rfl⟩
theorem wrongR_t {F : Nat} {M : Mm} {a b : Nat} {r : Rw} (hF : 100 ≤ F) (h : SqP (M 41) 0 r) (ho : okR r) (hab : a ≤ b) (hb : b ≤ r.1) : f_X7_wrong F (nI a) (nI b) M = some (nI (wr r.2 a b (b - a))) := by
  have hn := ho.1
  apply Ok.eq
  unfold f_X7_wrong
  refine Ok.lpN (m0 := b - a) (fun m z => ∃ j, j + m = b - a ∧ z = (nI (wr r.2 a b j), nI (a + j))) ?_ ?_ (by omega)
  · rintro m z ⟨j, hj, rfl⟩
    dsimp only
    by_cases hd : b ≤ a + j
    · rw [if_pos (by simp (disch := omega) only [nI_leI, nI_ltI, nI_eq, nI_add, nI_clamp, pk_sub, pk_mul, nI_m1, nI_le0, nI_lt0, nI_0le, nI_0lt, nI_z, inb_nI, decide_eq_true_eq]; omega)]
      have e : b - a = j := by omega
      rw [e]
      rfl
    · rw [if_neg (by simp (disch := omega) only [nI_leI, nI_ltI, nI_eq, nI_add, nI_clamp, pk_sub, pk_mul, nI_m1, nI_le0, nI_lt0, nI_0le, nI_0lt, nI_z, inb_nI, decide_eq_true_eq]; omega)]
      refine Ok.lpN (m0 := b - (a + j) - 1) (fun m z => ∃ i, i + m = b - (a + j) - 1 ∧ z = (nI (wr r.2 a b j + wrJ r.2 (a + j) i), nI (a + j + 1 + i))) ?_ ?_ (by omega)
      · rintro m' z ⟨i, hi, rfl⟩
        dsimp only
        by_cases hd2 : b ≤ a + j + 1 + i
        · rw [if_pos (by simp (disch := omega) only [nI_leI, nI_ltI, nI_eq, nI_add, nI_clamp, pk_sub, pk_mul, nI_m1, nI_le0, nI_lt0, nI_0le, nI_0lt, nI_z, inb_nI, decide_eq_true_eq]; omega)]
          have e : b - (a + j) - 1 = i := by omega
          refine ⟨m - 1, by omega, j + 1, by omega, ?_⟩
          rw [nI_add, ← e]
          rfl
        · have s1 := ho.2 (a + j) (by omega)
          have s2 := ho.2 (a + j + 1 + i) (by omega)
          have e3 : nI 1 + nI (a + j) = nI (1 + (a + j)) := nI_add _ _
          have e4 : Int32.toNatClampNeg (nI (1 + (a + j))) = 1 + (a + j) := nI_clamp (by omega)
          have e5 : nI 1 + nI (a + j + 1 + i) = nI (1 + (a + j + 1 + i)) := nI_add _ _
          have e6 : Int32.toNatClampNeg (nI (1 + (a + j + 1 + i))) = 1 + (a + j + 1 + i) := nI_clamp (by omega)
          rw [if_neg (by simp (disch := omega) only [nI_leI, nI_ltI, nI_eq, nI_add, nI_clamp, pk_sub, pk_mul, nI_m1, nI_le0, nI_lt0, nI_0le, nI_0lt, nI_z, inb_nI, decide_eq_true_eq]; omega)]
          simp only [e3, e4, e5, e6, h.el (show a + j < r.1 by omega), h.el (show a + j + 1 + i < r.1 by omega)]
          rw [if_pos (by simp (disch := omega) only [nI_leI, nI_ltI, nI_eq, nI_add, nI_clamp, pk_sub, pk_mul, nI_m1, nI_le0, nI_lt0, nI_0le, nI_0lt, nI_z, inb_nI, decide_eq_true_eq]; omega), if_pos (by simp (disch := omega) only [nI_leI, nI_ltI, nI_eq, nI_add, nI_clamp, pk_sub, pk_mul, nI_m1, nI_le0, nI_lt0, nI_0le, nI_0lt, nI_z, inb_nI, decide_eq_true_eq]; omega)]
          have e0 : wrJ r.2 (a + j) (i + 1) = wrJ r.2 (a + j) i + (if r.2 (a + j) ≤ r.2 (a + j + 1 + i) then 0 else 1) := rfl
          by_cases hq : r.2 (a + j) ≤ r.2 (a + j + 1 + i)
          · rw [if_pos (by simp (disch := omega) only [nI_leI, nI_ltI, nI_eq, nI_add, nI_clamp, pk_sub, pk_mul, nI_m1, nI_le0, nI_lt0, nI_0le, nI_0lt, nI_z, inb_nI, decide_eq_true_eq]; omega)]
            rw [if_pos hq] at e0
            exact ⟨m' - 1, by omega, i + 1, by omega, by rw [e0, nI_add, nI_add, Nat.add_assoc (a + j + 1)]; rfl⟩
          · rw [if_neg (by simp (disch := omega) only [nI_leI, nI_ltI, nI_eq, nI_add, nI_clamp, pk_sub, pk_mul, nI_m1, nI_le0, nI_lt0, nI_0le, nI_0lt, nI_z, inb_nI, decide_eq_true_eq]; omega)]
            rw [if_neg hq] at e0
            exact ⟨m' - 1, by omega, i + 1, by omega, by rw [e0, nI_add, nI_add, Nat.add_assoc, Nat.add_assoc (a + j + 1)]⟩
      · exact ⟨0, by omega, by rw [nI_add]; rfl⟩
  · exact ⟨0, by omega, rfl⟩
