theorem sm_le {f : Nat → Nat} {a n : Nat} (ho : ∀ i, i < n → f i < 16) : ∀ m, a + m ≤ n → sm f a m ≤ 15 * m
  | 0, _ => Nat.le_refl 0
  | m + 1, h => by
    have h1 := sm_le (a := a) (n := n) ho m (by omega)
    have h2 := ho (a + m) (by omega)
    have h3 : sm f a (m + 1) = sm f a m + f (a + m) := rfl
    omega
/-- the best beginning among the first k beginnings, k ≥ 1 -/
def hvK (f : Nat → Nat) (w : Nat) : Nat → Nat
  | 0 => 0
  | k + 1 => if sm f k w ≤ sm f (hvK f w k) w then hvK f w k else k
theorem hvK_1 (f : Nat → Nat) (w : Nat) : hvK f w 1 = 0 := by
  show (if sm f 0 w ≤ sm f 0 w then 0 else 0) = 0
  rw [if_pos (Nat.le_refl _)]
theorem hvK_lt (f : Nat → Nat) (w : Nat) : ∀ {k}, 0 < k → hvK f w k < k
  | 0, h => absurd h (Nat.lt_irrefl 0)
  | k + 1, h => by
    have e : hvK f w (k + 1) = if sm f k w ≤ sm f (hvK f w k) w then hvK f w k else k := rfl
    rw [e]
    by_cases hk : k = 0
    · subst hk
      have : hvK f w 0 = 0 := rfl
      rw [this]
      split <;> omega
    · have := hvK_lt f w (k := k) (by omega)
      split <;> omega
theorem size_t {M : Mm} {k n : Nat} {f : Nat → Nat} (h : RwP M k n f) : f_X3_size k M = some (nI n) := by
  unfold f_X3_size
  rw [h.1]
theorem ge1_cases (a : Int32) {n : Nat} (hn : n < 2 ^ 31) : a < nI 1 ∨ nI n < a ∨ ∃ m, a = nI m ∧ 1 ≤ m ∧ m ≤ n := by
  rcases le_cases a hn with (hi | hi) | ⟨m, rfl, hm⟩
  · left
    exact Int32.lt_trans hi (by decide)
  · right
    left
    exact hi
  · by_cases h : m = 0
    · subst h
      left
      decide
    · right
      right
      exact ⟨m, rfl, by omega, hm⟩
theorem op_heaviest {F : Nat} {r : Rw} {h : Nat} {H : Nat → Rw} {t : Rw} (hF : 300 ≤ F) (ho : okR r) (ot : okT t) (a i : Int32) : Op (rd (f_X6_heaviest F a i)) (rd (f_X7_heaviest F a i)) r h H t := by
  have hn := ho.1
  rcases ge1_cases a (n := 60) (by omega) with ha | ha | ⟨w, rfl, hw1, hw⟩
  · refine Op.err (-1000001) ho ot (fun M x => ?_) (fun M x => ?_)
    · unfold rd f_X6_heaviest
      rw [if_pos ha]
      rfl
    · unfold rd f_X7_heaviest
      rw [in_f (Or.inl ha), Option.bind_some, if_pos (by decide)]
      rfl
  · refine Op.err (-1000001) ho ot (fun M x => ?_) (fun M x => ?_)
    · unfold rd f_X6_heaviest
      by_cases hb : a < nI 1
      · rw [if_pos hb]
        rfl
      · rw [if_neg hb, if_pos ha]
        rfl
    · unfold rd f_X7_heaviest
      rw [in_f (Or.inr ha), Option.bind_some, if_pos (by decide)]
      rfl
  rcases le_cases i (n := 1) (by omega) with hi | ⟨i, rfl, hi⟩
  · refine Op.err (-1000001) ho ot (fun M x => ?_) (fun M x => ?_)
    · unfold rd f_X6_heaviest
      rw [if_neg (by simp (disch := omega) only [nI_leI, nI_ltI, nI_eq, nI_add, nI_clamp, pk_sub, pk_mul, nI_m1, nI_le0, nI_lt0, nI_0le, nI_0lt, nI_z, inb_nI, decide_eq_true_eq]; omega), if_neg (by simp (disch := omega) only [nI_leI, nI_ltI, nI_eq, nI_add, nI_clamp, pk_sub, pk_mul, nI_m1, nI_le0, nI_lt0, nI_0le, nI_0lt, nI_z, inb_nI, decide_eq_true_eq]; omega), isAtMost_f hi, Option.bind_some, if_pos (by decide)]
      rfl
    · unfold rd f_X7_heaviest
      rw [in_t (by omega) (by omega) (by omega), Option.bind_some, if_neg (by decide), in_f0 hi, Option.bind_some, if_pos (by decide)]
      rfl
  have hsm : ∀ k, k + w ≤ r.1 → sm r.2 k w ≤ 900 := fun k hk => by
    have := sm_le (f := r.2) (a := k) (n := r.1) ho.2 w hk
    omega
  generalize hV : (if r.1 < w then (-1000004 : Int32) else if i = 0 then nI (hvK r.2 w (r.1 - w + 1)) else nI (sm r.2 (hvK r.2 w (r.1 - w + 1)) w)) = V
  refine Op.same V ho ot (fun M x => rd_ok (v := V) ?_ ⟨rfl, fun _ _ => rfl⟩) (fun M x => rd_ok (v := V) ?_ ⟨rfl, rfl, rfl, fun _ _ => rfl⟩)
  · unfold f_X6_heaviest
    rw [if_neg (by simp (disch := omega) only [nI_leI, nI_ltI, nI_eq, nI_add, nI_clamp, pk_sub, pk_mul, nI_m1, nI_le0, nI_lt0, nI_0le, nI_0lt, nI_z, inb_nI, decide_eq_true_eq]; omega), if_neg (by simp (disch := omega) only [nI_leI, nI_ltI, nI_eq, nI_add, nI_clamp, pk_sub, pk_mul, nI_m1, nI_le0, nI_lt0, nI_0le, nI_0lt, nI_z, inb_nI, decide_eq_true_eq]; omega), isAtMost_t (by omega) hi, Option.bind_some, if_neg (by decide), size_t x.1, Option.bind_some]
    by_cases hs : r.1 < w
    · rw [if_neg (by simp (disch := omega) only [nI_leI, nI_ltI, nI_eq, nI_add, nI_clamp, pk_sub, pk_mul, nI_m1, nI_le0, nI_lt0, nI_0le, nI_0lt, nI_z, inb_nI, decide_eq_true_eq]; omega), ← hV, if_pos hs]
    · rw [if_neg hs] at hV
      rw [if_pos (by simp (disch := omega) only [nI_leI, nI_ltI, nI_eq, nI_add, nI_clamp, pk_sub, pk_mul, nI_m1, nI_le0, nI_lt0, nI_0le, nI_0lt, nI_z, inb_nI, decide_eq_true_eq]; omega), show nI 0 = nI 0 from rfl, sum_t (by omega) x.1 hn (by omega) (by omega), Option.bind_some]
      apply Ok.eq
      refine Ok.lpN (m0 := r.1 - w) (fun m z => ∃ k, 1 ≤ k ∧ k + m = r.1 - w + 1 ∧ z.1 = nI (hvK r.2 w k) ∧ z.2.1 = nI (sm r.2 (hvK r.2 w k) w) ∧ z.2.2 = nI k) ?_ ?_ (by omega)
      · intro m z hz
        obtain ⟨z1, z2, z3⟩ := z
        obtain ⟨k, hk1, hk, h1, h2, h3⟩ := hz
        dsimp only at h1 h2 h3 ⊢
        subst h3
        have hl := hvK_lt r.2 w (k := k) (by omega)
        have hs1 := hsm (hvK r.2 w k) (by omega)
        rw [Option.bind_some]
        by_cases hd : r.1 < k + w
        · rw [if_pos (by simp (disch := omega) only [nI_leI, nI_ltI, nI_eq, nI_add, nI_clamp, pk_sub, pk_mul, nI_m1, nI_le0, nI_lt0, nI_0le, nI_0lt, nI_z, inb_nI, decide_eq_true_eq]; omega)]
          have e : r.1 - w + 1 = k := by omega
          rw [e] at hV
          by_cases hi0 : i = 0
          · rw [if_pos hi0] at hV
            rw [if_pos (by simp (disch := omega) only [nI_leI, nI_ltI, nI_eq, nI_add, nI_clamp, pk_sub, pk_mul, nI_m1, nI_le0, nI_lt0, nI_0le, nI_0lt, nI_z, inb_nI, decide_eq_true_eq]; omega), h1, hV]
            rfl
          · rw [if_neg hi0] at hV
            rw [if_neg (by simp (disch := omega) only [nI_leI, nI_ltI, nI_eq, nI_add, nI_clamp, pk_sub, pk_mul, nI_m1, nI_le0, nI_lt0, nI_0le, nI_0lt, nI_z, inb_nI, decide_eq_true_eq]; omega), h2, hV]
            rfl
        · have hs2 := hsm k (by omega)
          have e0 : hvK r.2 w (k + 1) = if sm r.2 k w ≤ sm r.2 (hvK r.2 w k) w then hvK r.2 w k else k := rfl
          rw [if_neg (by simp (disch := omega) only [nI_leI, nI_ltI, nI_eq, nI_add, nI_clamp, pk_sub, pk_mul, nI_m1, nI_le0, nI_lt0, nI_0le, nI_0lt, nI_z, inb_nI, decide_eq_true_eq]; omega), nI_add, sum_t (by omega) x.1 hn (by omega) (by omega), Option.bind_some, Nat.add_sub_cancel_left, h2]
          by_cases hq : sm r.2 k w ≤ sm r.2 (hvK r.2 w k) w
          · rw [if_pos hq] at e0
            rw [if_pos (by simp (disch := omega) only [nI_leI, nI_ltI, nI_eq, nI_add, nI_clamp, pk_sub, pk_mul, nI_m1, nI_le0, nI_lt0, nI_0le, nI_0lt, nI_z, inb_nI, decide_eq_true_eq]; omega)]
            refine Ok.inlI ⟨m - 1, by omega, k + 1, by omega, by omega, ?_, ?_, nI_add k 1⟩
            · rw [e0]
              exact h1
            · rw [e0]
          · rw [if_neg hq] at e0
            rw [if_neg (by simp (disch := omega) only [nI_leI, nI_ltI, nI_eq, nI_add, nI_clamp, pk_sub, pk_mul, nI_m1, nI_le0, nI_lt0, nI_0le, nI_0lt, nI_z, inb_nI, decide_eq_true_eq]; omega)]
            refine Ok.inlI ⟨m - 1, by omega, k + 1, by omega, by omega, ?_, ?_, nI_add k 1⟩
            · rw [e0]
            · rw [e0]
      · refine ⟨1, by omega, by omega, ?_, ?_, rfl⟩
        · rw [hvK_1]
        · rw [hvK_1]
          rfl
  · unfold f_X7_heaviest
    rw [in_t (by omega) (by omega) (by omega), Option.bind_some, if_neg (by decide), in_t (by omega) (by omega) hi, Option.bind_some, if_neg (by decide)]
    apply Ok.eq
    refine Ok.lpN (m0 := r.1 + 1 - w) (fun m z => ∃ k, k + m = r.1 + 1 - w ∧ z.2.2 = nI k ∧ (k = 0 → z.1 = (-1000004 : Int32) ∧ z.2.1 = (-1 : Int32)) ∧ (0 < k → z.1 = nI (hvK r.2 w k) ∧ z.2.1 = nI (sm r.2 (hvK r.2 w k) w))) ?_ ?_ (by omega)
    · intro m z hz
      obtain ⟨z1, z2, z3⟩ := z
      obtain ⟨k, hk, h3, h0, h1⟩ := hz
      dsimp only at h0 h1 h3 ⊢
      subst h3
      have e9 : Int32.toNatClampNeg (nI 0) = 0 := nI_clamp (by omega)
      rw [if_pos (in0 (by omega)), e9, x.1.1]
      by_cases hd : r.1 < k + w
      · rw [if_pos (by simp (disch := omega) only [nI_leI, nI_ltI, nI_eq, nI_add, nI_clamp, pk_sub, pk_mul, nI_m1, nI_le0, nI_lt0, nI_0le, nI_0lt, nI_z, inb_nI, decide_eq_true_eq]; omega)]
        by_cases hk0 : k = 0
        · obtain ⟨g1, g2⟩ := h0 hk0
          rw [if_pos (show r.1 < w by omega)] at hV
          rw [g1, hV]
          by_cases hi0 : i = 0
          · rw [if_pos (by simp (disch := omega) only [nI_leI, nI_ltI, nI_eq, nI_add, nI_clamp, pk_sub, pk_mul, nI_m1, nI_le0, nI_lt0, nI_0le, nI_0lt, nI_z, inb_nI, decide_eq_true_eq]; omega)]
            rfl
          · rw [if_neg (by simp (disch := omega) only [nI_leI, nI_ltI, nI_eq, nI_add, nI_clamp, pk_sub, pk_mul, nI_m1, nI_le0, nI_lt0, nI_0le, nI_0lt, nI_z, inb_nI, decide_eq_true_eq]; omega), if_neg (by rw [← hV]; decide)]
            rfl
        · obtain ⟨g1, g2⟩ := h1 (by omega)
          have e : r.1 - w + 1 = k := by omega
          have hl := hvK_lt r.2 w (k := k) (by omega)
          rw [if_neg (show ¬ r.1 < w by omega), e] at hV
          rw [g1, g2]
          by_cases hi0 : i = 0
          · rw [if_pos hi0] at hV
            rw [if_pos (by simp (disch := omega) only [nI_leI, nI_ltI, nI_eq, nI_add, nI_clamp, pk_sub, pk_mul, nI_m1, nI_le0, nI_lt0, nI_0le, nI_0lt, nI_z, inb_nI, decide_eq_true_eq]; omega), hV]
            rfl
          · rw [if_neg hi0] at hV
            rw [if_neg (by simp (disch := omega) only [nI_leI, nI_ltI, nI_eq, nI_add, nI_clamp, pk_sub, pk_mul, nI_m1, nI_le0, nI_lt0, nI_0le, nI_0lt, nI_z, inb_nI, decide_eq_true_eq]; omega), if_pos (by rw [nI_0le (by omega)]; trivial), hV]
            rfl
      · have hs2 := hsm k (by omega)
        have e0 : hvK r.2 w (k + 1) = if sm r.2 k w ≤ sm r.2 (hvK r.2 w k) w then hvK r.2 w k else k := rfl
        rw [if_neg (by simp (disch := omega) only [nI_leI, nI_ltI, nI_eq, nI_add, nI_clamp, pk_sub, pk_mul, nI_m1, nI_le0, nI_lt0, nI_0le, nI_0lt, nI_z, inb_nI, decide_eq_true_eq]; omega), nI_add, sumR_t (by omega) x.1 hn (by omega) (by omega), Option.bind_some, Nat.add_sub_cancel_left]
        by_cases hk0 : k = 0
        · obtain ⟨g1, g2⟩ := h0 hk0
          have hneg : ¬ nI (sm r.2 k w) ≤ z2 := by
            rw [g2]
            intro hc
            have h5 : (0 : Int32) ≤ nI (sm r.2 k w) := by
              rw [nI_0le (by omega)]
              trivial
            exact absurd (Int32.le_trans h5 hc) (by decide)
          rw [if_neg hneg]
          refine Ok.jnI (Ok.inlI ?_)
          rw [if_neg hneg]
          subst hk0
          refine Ok.inlI ⟨m - 1, by omega, 1, by omega, rfl, fun h => by omega, fun _ => ?_⟩
          rw [hvK_1]
          exact ⟨rfl, rfl⟩
        · obtain ⟨g1, g2⟩ := h1 (by omega)
          have hl := hvK_lt r.2 w (k := k) (by omega)
          have hs1 := hsm (hvK r.2 w k) (by omega)
          rw [g2]
          by_cases hq : sm r.2 k w ≤ sm r.2 (hvK r.2 w k) w
          · rw [if_pos hq] at e0
            rw [if_pos (by simp (disch := omega) only [nI_leI, nI_ltI, nI_eq, nI_add, nI_clamp, pk_sub, pk_mul, nI_m1, nI_le0, nI_lt0, nI_0le, nI_0lt, nI_z, inb_nI, decide_eq_true_eq]; omega)]
            refine Ok.jnI (Ok.inlI ?_)
            rw [if_pos (by simp (disch := omega) only [nI_leI, nI_ltI, nI_eq, nI_add, nI_clamp, pk_sub, pk_mul, nI_m1, nI_le0, nI_lt0, nI_0le, nI_0lt, nI_z, inb_nI, decide_eq_true_eq]; omega)]
            refine Ok.inlI ⟨m - 1, by omega, k + 1, by omega, nI_add k 1, fun h => by omega, fun _ => ?_⟩
            rw [e0]
            exact ⟨g1, rfl⟩
          · rw [if_neg hq] at e0
            rw [if_neg (by simp (disch := omega) only [nI_leI, nI_ltI, nI_eq, nI_add, nI_clamp, pk_sub, pk_mul, nI_m1, nI_le0, nI_lt0, nI_0le, nI_0lt, nI_z, inb_nI, decide_eq_true_eq]; omega)]
            refine Ok.jnI (Ok.inlI ?_)
            rw [if_neg (by simp (disch := omega) only [nI_leI, nI_ltI, nI_eq, nI_add, nI_clamp, pk_sub, pk_mul, nI_m1, nI_le0, nI_lt0, nI_0le, nI_0lt, nI_z, inb_nI, decide_eq_true_eq]; omega)]
            refine Ok.inlI ⟨m - 1, by omega, k + 1, by omega, nI_add k 1, fun h => by omega, fun _ => ?_⟩
            rw [e0]
            exact ⟨rfl, rfl⟩
    · exact ⟨0, by omega, rfl, fun _ => ⟨rfl, rfl⟩, fun h => by omega⟩
