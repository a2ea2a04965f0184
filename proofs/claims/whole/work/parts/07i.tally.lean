/-- how often a symbol stands in the m symbols from a on -/
def cnt (f : Nat → Nat) (a : Nat) : Nat → Nat → Nat
  | 0, _ => 0
  | m + 1, v => cnt f a m v + (if f (a + m) = v then 1 else 0)
def pre (c : Nat → Nat) : Nat → Nat
  | 0 => 0
  | v + 1 => pre c v + c v
def bel (f : Nat → Nat) (a b : Nat) : Nat → Nat
  | 0 => 0
  | m + 1 => bel f a b m + (if f (a + m) < b then 1 else 0)
def sasG (c : Nat → Nat) : Nat → Nat → Nat → Nat
  | 0, _, _ => 16
  | m + 1, v, l => if l < c v then v else sasG c m (v + 1) (l - c v)
theorem cnt_le (f : Nat → Nat) (a : Nat) (v : Nat) : ∀ m, cnt f a m v ≤ m
  | 0 => Nat.le_refl 0
  | m + 1 => by
    have := cnt_le f a v m
    unfold cnt
    split <;> omega
theorem bel_le (f : Nat → Nat) (a b : Nat) : ∀ m, bel f a b m ≤ m
  | 0 => Nat.le_refl 0
  | m + 1 => by
    have := bel_le f a b m
    unfold bel
    split <;> omega
theorem pre_add (c d : Nat → Nat) (s : Nat) (h : ∀ v, d v = c v + (if s = v then 1 else 0)) : ∀ b, pre d b = pre c b + (if s < b then 1 else 0)
  | 0 => by simp [pre]
  | b + 1 => by
    have ih := pre_add c d s h b
    unfold pre
    rw [ih, h b]
    by_cases h1 : s = b
    · rw [if_pos h1, if_neg (by omega), if_pos (by omega)]
      omega
    · by_cases h2 : s < b
      · rw [if_neg h1, if_pos h2, if_pos (by omega)]
        omega
      · rw [if_neg h1, if_neg h2, if_neg (by omega)]
        omega
theorem pre_cnt (f : Nat → Nat) (a b : Nat) : ∀ m, pre (cnt f a m) b = bel f a b m
  | 0 => by
    have : ∀ b, pre (cnt f a 0) b = 0 := fun b => by
      induction b with
      | zero => rfl
      | succ b ih =>
        unfold pre
        rw [ih]
        rfl
    exact this b
  | m + 1 => by
    rw [pre_add (cnt f a m) (cnt f a (m + 1)) (f (a + m)) (fun v => rfl) b, pre_cnt f a b m]
    rfl
theorem bel_all {f : Nat → Nat} {a b : Nat} : ∀ m, (∀ i, i < m → f (a + i) < b) → bel f a b m = m
  | 0, _ => rfl
  | m + 1, h => by
    unfold bel
    rw [bel_all m (fun i hi => h i (by omega)), if_pos (h m (by omega))]
theorem pre_mono (c : Nat → Nat) {u v : Nat} (h : u ≤ v) : pre c u ≤ pre c v := by
  induction v with
  | zero =>
    rw [show u = 0 by omega]
    exact Nat.le_refl _
  | succ v ih =>
    by_cases h1 : u = v + 1
    · rw [h1]
      exact Nat.le_refl _
    · have := ih (by omega)
      show pre c u ≤ pre c v + c v
      omega
theorem sas_at {c : Nat → Nat} {v k : Nat} (hk : k < c v) : ∀ m u, u ≤ v → u + m = 16 → v < 16 → sasG c m u (pre c v - pre c u + k) = v
  | 0, u, h1, h2, h3 => by omega
  | m + 1, u, h1, h2, h3 => by
    unfold sasG
    by_cases h : u = v
    · subst h
      rw [Nat.sub_self, Nat.zero_add, if_pos hk]
    · have h4 := pre_mono c (show u + 1 ≤ v by omega)
      have h5 : pre c (u + 1) = pre c u + c u := rfl
      rw [if_neg (by omega), show pre c v - pre c u + k - c u = pre c v - pre c (u + 1) + k by omega]
      exact sas_at hk m (u + 1) (by omega) (by omega) h3
theorem pre_split {c : Nat → Nat} {i : Nat} : ∀ w, i < pre c w → ∃ v k, v < w ∧ k < c v ∧ i = pre c v + k
  | 0, h => absurd h (Nat.not_lt_zero _)
  | w + 1, h => by
    by_cases h1 : i < pre c w
    · obtain ⟨v, k, h2, h3, h4⟩ := pre_split w h1
      exact ⟨v, k, by omega, h3, h4⟩
    · have h5 : pre c (w + 1) = pre c w + c w := rfl
      exact ⟨w, i - pre c w, by omega, by omega, by omega⟩
theorem sas_lt {c : Nat → Nat} {i : Nat} (h : i < pre c 16) : sasG c 16 0 i < 16 := by
  obtain ⟨v, k, h1, h2, h3⟩ := pre_split 16 h
  have := sas_at h2 16 0 (by omega) (by omega) h1
  rw [show pre c v - pre c 0 + k = i by rw [h3]; rfl] at this
  omega
def Tl (g : Nat → Int32) (c : Nat → Nat) : Prop := ∀ v, v < 16 → g v = nI (c v)
theorem fill_t {F : Nat} {M : Mm} {k0 k1 a b : Nat} {r : Rw} (hF : 100 ≤ F) (h : RwP M k1 r.1 r.2) (ho : okR r) (hab : a ≤ b) (hb : b ≤ r.1) (e1 : k1 ≠ k0 + 1) (e2 : k1 ≠ k0) : Ok (f_X4_fill F k0 k1 (nI a) (nI b) M) (fun M' => Tl (M' (k0 + 1)) (cnt r.2 a (b - a)) ∧ ∀ k, k ≠ k0 + 1 → M' k = M k) := by
  obtain ⟨n, f⟩ := r
  have hn := ho.1
  dsimp only at h hn hb ⊢
  unfold f_X4_fill
  refine Ok.lpN (m0 := 16) (fun m z => ∃ j, j + m = 16 ∧ z.1 = nI j ∧ (∀ v, v < j → z.2 (k0 + 1) v = nI 0) ∧ ∀ k, k ≠ k0 + 1 → z.2 k = M k) ?_ ?_ (by omega)
  · rintro m ⟨x1, M1⟩ ⟨j, hj, h1, h2, h3⟩
    dsimp only at h1 h2 h3 ⊢
    subst h1
    by_cases hc : 16 ≤ j
    · rw [if_pos (by simp (disch := omega) only [nI_leI, nI_ltI, nI_eq, nI_add, nI_clamp, pk_sub, pk_mul, nI_m1, nI_le0, nI_lt0, nI_0le, nI_0lt, nI_z, inb_nI, decide_eq_true_eq]; omega)]
      refine Ok.lpN (m0 := b - a) (fun m z => ∃ j, j + m = b - a ∧ z.1 = nI (a + j) ∧ Tl (z.2 (k0 + 1)) (cnt f a j) ∧ ∀ k, k ≠ k0 + 1 → z.2 k = M k) ?_ ?_ (by omega)
      · rintro m ⟨x2, M2⟩ ⟨i, hi, g1, g2, g3⟩
        dsimp only at g1 g2 g3 ⊢
        subst g1
        by_cases hd : b ≤ a + i
        · rw [if_pos (by simp (disch := omega) only [nI_leI, nI_ltI, nI_eq, nI_add, nI_clamp, pk_sub, pk_mul, nI_m1, nI_le0, nI_lt0, nI_0le, nI_0lt, nI_z, inb_nI, decide_eq_true_eq]; omega)]
          have e : b - a = i := by omega
          rw [e]
          exact ⟨g2, g3⟩
        · have hr : RwP M2 k1 n f := h.keep (g3 _ e1) (g3 _ (by omega))
          have hs : f (a + i) < 16 := ho.2 (a + i) (by dsimp only; omega)
          have hle := cnt_le f a (f (a + i)) i
          rw [if_neg (by simp (disch := omega) only [nI_leI, nI_ltI, nI_eq, nI_add, nI_clamp, pk_sub, pk_mul, nI_m1, nI_le0, nI_lt0, nI_0le, nI_0lt, nI_z, inb_nI, decide_eq_true_eq]; omega), at_t hr hn (by omega), Option.bind_some, isSymbol_t hs, Option.bind_some, if_neg (by decide), if_pos (by simp (disch := omega) only [nI_leI, nI_ltI, nI_eq, nI_add, nI_clamp, pk_sub, pk_mul, nI_m1, nI_le0, nI_lt0, nI_0le, nI_0lt, nI_z, inb_nI, decide_eq_true_eq]; omega), if_pos (by simp (disch := omega) only [nI_leI, nI_ltI, nI_eq, nI_add, nI_clamp, pk_sub, pk_mul, nI_m1, nI_le0, nI_lt0, nI_0le, nI_0lt, nI_z, inb_nI, decide_eq_true_eq]; omega)]
          refine ⟨m - 1, by omega, i + 1, by omega, ?_, fun v hv => ?_, fun k hk => ?_⟩
          · show nI (a + i) + nI 1 = _
            rw [nI_add, Nat.add_assoc]
          · show up M2 (k0 + 1) _ _ (k0 + 1) v = nI (cnt f a i v + _)
            rw [nI_clamp (by omega)]
            by_cases hv2 : f (a + i) = v
            · subst hv2
              rw [up_ss, if_pos rfl, g2 _ hs, nI_add]
            · rw [up_sn (fun e => hv2 e.symm), if_neg hv2, Nat.add_zero]
              exact g2 v hv
          · show up M2 (k0 + 1) _ _ k = _
            rw [up_n hk]
            exact g3 k hk
      · exact ⟨0, by omega, rfl, fun v hv => h2 v (by omega), h3⟩
    · rw [if_neg (by simp (disch := omega) only [nI_leI, nI_ltI, nI_eq, nI_add, nI_clamp, pk_sub, pk_mul, nI_m1, nI_le0, nI_lt0, nI_0le, nI_0lt, nI_z, inb_nI, decide_eq_true_eq]; omega), if_pos (by simp (disch := omega) only [nI_leI, nI_ltI, nI_eq, nI_add, nI_clamp, pk_sub, pk_mul, nI_m1, nI_le0, nI_lt0, nI_0le, nI_0lt, nI_z, inb_nI, decide_eq_true_eq]; omega)]
      refine ⟨m - 1, by omega, j + 1, by omega, nI_add j 1, fun v hv => ?_, fun k hk => ?_⟩
      · show up M1 (k0 + 1) _ _ (k0 + 1) v = _
        rw [nI_clamp (by omega)]
        by_cases hv2 : v = j
        · subst hv2
          rw [up_ss]
        · rw [up_sn hv2]
          exact h2 v (by omega)
      · show up M1 (k0 + 1) _ _ k = _
        rw [up_n hk]
        exact h3 k hk
  · exact ⟨0, by omega, rfl, fun v hv => by omega, fun _ _ => rfl⟩
theorem counts_t {F : Nat} {M : Mm} {a b : Nat} {r : Rw} (hF : 100 ≤ F) (h : SqP (M 41) 0 r) (ho : okR r) (hab : a ≤ b) (hb : b ≤ r.1) : Ok (f_X7_counts F (nI a) (nI b) M) (fun M' => Tl (M' 48) (cnt r.2 a (b - a)) ∧ ∀ k, k ≠ 48 → M' k = M k) := by
  obtain ⟨n, f⟩ := r
  have hn := ho.1
  dsimp only at hn hb ⊢
  unfold f_X7_counts
  refine Ok.lpN (m0 := 16) (fun m z => ∃ j, j + m = 16 ∧ z.1 = nI j ∧ (∀ v, v < j → z.2 48 v = nI 0) ∧ ∀ k, k ≠ 48 → z.2 k = M k) ?_ ?_ (by omega)
  · rintro m ⟨x1, M1⟩ ⟨j, hj, h1, h2, h3⟩
    dsimp only at h1 h2 h3 ⊢
    subst h1
    by_cases hc : 16 ≤ j
    · rw [if_pos (by simp (disch := omega) only [nI_leI, nI_ltI, nI_eq, nI_add, nI_clamp, pk_sub, pk_mul, nI_m1, nI_le0, nI_lt0, nI_0le, nI_0lt, nI_z, inb_nI, decide_eq_true_eq]; omega)]
      refine Ok.lpN (m0 := b - a) (fun m z => ∃ j, j + m = b - a ∧ z.1 = nI (a + j) ∧ Tl (z.2 48) (cnt f a j) ∧ ∀ k, k ≠ 48 → z.2 k = M k) ?_ ?_ (by omega)
      · rintro m ⟨x2, M2⟩ ⟨i, hi, g1, g2, g3⟩
        dsimp only at g1 g2 g3 ⊢
        subst g1
        by_cases hd : b ≤ a + i
        · rw [if_pos (by simp (disch := omega) only [nI_leI, nI_ltI, nI_eq, nI_add, nI_clamp, pk_sub, pk_mul, nI_m1, nI_le0, nI_lt0, nI_0le, nI_0lt, nI_z, inb_nI, decide_eq_true_eq]; omega)]
          have e : b - a = i := by omega
          rw [e]
          exact ⟨g2, g3⟩
        · have he : M2 41 (1 + (a + i)) = nI (f (a + i)) := by
            rw [g3 41 (by omega)]
            exact h.el (by dsimp only; omega)
          have hs : f (a + i) < 16 := ho.2 (a + i) (by dsimp only; omega)
          have hle := cnt_le f a (f (a + i)) i
          have e3 : nI 1 + nI (a + i) = nI (1 + (a + i)) := nI_add _ _
          have e4 : Int32.toNatClampNeg (nI (1 + (a + i))) = 1 + (a + i) := nI_clamp (by omega)
          rw [if_neg (by simp (disch := omega) only [nI_leI, nI_ltI, nI_eq, nI_add, nI_clamp, pk_sub, pk_mul, nI_m1, nI_le0, nI_lt0, nI_0le, nI_0lt, nI_z, inb_nI, decide_eq_true_eq]; omega)]
          simp only [e3, e4, he]
          rw [if_pos (by simp (disch := omega) only [nI_leI, nI_ltI, nI_eq, nI_add, nI_clamp, pk_sub, pk_mul, nI_m1, nI_le0, nI_lt0, nI_0le, nI_0lt, nI_z, inb_nI, decide_eq_true_eq]; omega), if_pos (by simp (disch := omega) only [nI_leI, nI_ltI, nI_eq, nI_add, nI_clamp, pk_sub, pk_mul, nI_m1, nI_le0, nI_lt0, nI_0le, nI_0lt, nI_z, inb_nI, decide_eq_true_eq]; omega), if_pos (by simp (disch := omega) only [nI_leI, nI_ltI, nI_eq, nI_add, nI_clamp, pk_sub, pk_mul, nI_m1, nI_le0, nI_lt0, nI_0le, nI_0lt, nI_z, inb_nI, decide_eq_true_eq]; omega)]
          refine ⟨m - 1, by omega, i + 1, by omega, ?_, fun v hv => ?_, fun k hk => ?_⟩
          · show nI (a + i) + nI 1 = _
            rw [nI_add, Nat.add_assoc]
          · show up M2 48 _ _ 48 v = nI (cnt f a i v + _)
            rw [nI_clamp (by omega)]
            by_cases hv2 : f (a + i) = v
            · subst hv2
              rw [up_ss, if_pos rfl, g2 _ hs, nI_add]
            · rw [up_sn (fun e => hv2 e.symm), if_neg hv2, Nat.add_zero]
              exact g2 v hv
          · show up M2 48 _ _ k = _
            rw [up_n hk]
            exact g3 k hk
      · exact ⟨0, by omega, rfl, fun v hv => h2 v (by omega), h3⟩
    · rw [if_neg (by simp (disch := omega) only [nI_leI, nI_ltI, nI_eq, nI_add, nI_clamp, pk_sub, pk_mul, nI_m1, nI_le0, nI_lt0, nI_0le, nI_0lt, nI_z, inb_nI, decide_eq_true_eq]; omega), if_pos (by simp (disch := omega) only [nI_leI, nI_ltI, nI_eq, nI_add, nI_clamp, pk_sub, pk_mul, nI_m1, nI_le0, nI_lt0, nI_0le, nI_0lt, nI_z, inb_nI, decide_eq_true_eq]; omega)]
      refine ⟨m - 1, by omega, j + 1, by omega, nI_add j 1, fun v hv => ?_, fun k hk => ?_⟩
      · show up M1 48 _ _ 48 v = _
        rw [nI_clamp (by omega)]
        by_cases hv2 : v = j
        · subst hv2
          rw [up_ss]
        · rw [up_sn hv2]
          exact h2 v (by omega)
      · show up M1 48 _ _ k = _
        rw [up_n hk]
        exact h3 k hk
  · exact ⟨0, by omega, rfl, fun v hv => by omega, fun _ _ => rfl⟩
theorem sasG_le (c : Nat → Nat) : ∀ m v l, v + m = 16 → sasG c m v l ≤ 16
  | 0, _, _, _ => Nat.le_refl 16
  | m + 1, v, l, h => by
    unfold sasG
    split
    · omega
    · exact sasG_le c m (v + 1) _ (by omega)
theorem symbolAtSorted_t {F : Nat} {M : Mm} {k0 l : Nat} {c : Nat → Nat} (hF : 100 ≤ F) (h : Tl (M (k0 + 1)) c) (hc : ∀ v, c v ≤ 60) (hl : l < 2 ^ 31) : f_X4_symbolAtSorted F k0 (nI l) M = some (if sasG c 16 0 l < 16 then nI (sasG c 16 0 l) else -1) := by
  apply Ok.eq
  unfold f_X4_symbolAtSorted
  refine Ok.lpN (m0 := 16) (fun m z => ∃ v l', v + m = 16 ∧ z = (nI l', nI v) ∧ l' < 2 ^ 31 ∧ sasG c m v l' = sasG c 16 0 l) ?_ ?_ (by omega)
  · rintro m z ⟨v, l', hv, rfl, h1, h2⟩
    dsimp only
    by_cases hm : 16 ≤ v
    · have hm0 : m = 0 := by omega
      subst hm0
      have h3 : sasG c 16 0 l = 16 := h2.symm
      rw [if_pos (by simp (disch := omega) only [nI_leI, nI_ltI, nI_eq, nI_add, nI_clamp, pk_sub, pk_mul, nI_m1, nI_le0, nI_lt0, nI_0le, nI_0lt, nI_z, inb_nI, decide_eq_true_eq]; omega), h3]
      rfl
    · obtain ⟨m', rfl⟩ : ∃ m', m = m' + 1 := ⟨m - 1, by omega⟩
      have e := h v (by omega)
      have hcv := hc v
      rw [if_neg (by simp (disch := omega) only [nI_leI, nI_ltI, nI_eq, nI_add, nI_clamp, pk_sub, pk_mul, nI_m1, nI_le0, nI_lt0, nI_0le, nI_0lt, nI_z, inb_nI, decide_eq_true_eq]; omega), if_pos (by simp (disch := omega) only [nI_leI, nI_ltI, nI_eq, nI_add, nI_clamp, pk_sub, pk_mul, nI_m1, nI_le0, nI_lt0, nI_0le, nI_0lt, nI_z, inb_nI, decide_eq_true_eq]; omega), nI_clamp (by omega), e]
      have h3 : sasG c (m' + 1) v l' = if l' < c v then v else sasG c m' (v + 1) (l' - c v) := rfl
      rw [h3] at h2
      by_cases hq : l' < c v
      · rw [if_pos hq] at h2
        rw [if_neg (by simp (disch := omega) only [nI_leI, nI_ltI, nI_eq, nI_add, nI_clamp, pk_sub, pk_mul, nI_m1, nI_le0, nI_lt0, nI_0le, nI_0lt, nI_z, inb_nI, decide_eq_true_eq]; omega), ← h2]
        show nI v = _
        rw [if_pos (by omega)]
      · rw [if_neg hq] at h2
        rw [if_pos (by simp (disch := omega) only [nI_leI, nI_ltI, nI_eq, nI_add, nI_clamp, pk_sub, pk_mul, nI_m1, nI_le0, nI_lt0, nI_0le, nI_0lt, nI_z, inb_nI, decide_eq_true_eq]; omega), if_pos (by simp (disch := omega) only [nI_leI, nI_ltI, nI_eq, nI_add, nI_clamp, pk_sub, pk_mul, nI_m1, nI_le0, nI_lt0, nI_0le, nI_0lt, nI_z, inb_nI, decide_eq_true_eq]; omega)]
        refine ⟨m', by omega, v + 1, l' - c v, by omega, ?_, by omega, h2⟩
        rw [nI_add, pk_sub (by omega)]
  · exact ⟨0, l, by omega, rfl, hl, rfl⟩
