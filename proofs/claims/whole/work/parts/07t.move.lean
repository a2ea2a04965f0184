def nb (b : Nat → Nat) (v : Nat) : Nat → Nat
  | 0 => 0
  | i + 1 => nb b v i + (if b i = v then 1 else 0)
theorem nb_le (b : Nat → Nat) (v : Nat) : ∀ i, nb b v i ≤ i
  | 0 => Nat.le_refl 0
  | i + 1 => by
    have h1 := nb_le b v i
    have h2 : nb b v (i + 1) = nb b v i + (if b i = v then 1 else 0) := rfl
    rw [h2]
    split <;> omega
theorem nb_mono (b : Nat → Nat) (v : Nat) {i : Nat} : ∀ m, nb b v i ≤ nb b v (i + m)
  | 0 => Nat.le_refl _
  | m + 1 => by
    have h1 := nb_mono b v (i := i) m
    have h2 : nb b v (i + (m + 1)) = nb b v (i + m) + (if b (i + m) = v then 1 else 0) := rfl
    omega
theorem nb_lt {b : Nat → Nat} {v i n : Nat} (h : i < n) (e : b i = v) : nb b v i < nb b v n := by
  obtain ⟨m, rfl⟩ : ∃ m, n = i + 1 + m := ⟨n - i - 1, by omega⟩
  have h1 := nb_mono b v (i := i + 1) m
  have h2 : nb b v (i + 1) = nb b v i + (if b i = v then 1 else 0) := rfl
  rw [if_pos e] at h2
  omega
theorem nb_01 {b : Nat → Nat} : ∀ i, (∀ j, j < i → b j < 2) → nb b 0 i + nb b 1 i = i
  | 0, _ => rfl
  | i + 1, h => by
    have h1 := nb_01 (b := b) i (fun j hj => h j (by omega))
    have h2 : nb b 0 (i + 1) = nb b 0 i + (if b i = 0 then 1 else 0) := rfl
    have h3 : nb b 1 (i + 1) = nb b 1 i + (if b i = 1 then 1 else 0) := rfl
    have h4 := h i (by omega)
    by_cases e : b i = 0
    · rw [if_pos e] at h2
      rw [if_neg (by omega)] at h3
      omega
    · rw [if_neg e] at h2
      rw [if_pos (by omega)] at h3
      omega
/-- one pass: what stands on the next level after the first i places of this one -/
def psN (b o : Nat → Nat) (v s : Nat) : Nat → (Nat → Nat) → Nat → Nat
  | 0, nx => nx
  | i + 1, nx => if b i = v then (fun u => if u = s + nb b v i then o i else psN b o v s i nx u) else psN b o v s i nx
theorem psN_lt {b o nx : Nat → Nat} {v s n : Nat} (ho : ∀ i, i < n → o i < n) {u : Nat} (hu : nx u < n) : ∀ i, i ≤ n → psN b o v s i nx u < n
  | 0, _ => hu
  | i + 1, h => by
    have h1 := psN_lt (b := b) (o := o) (nx := nx) (v := v) (s := s) ho hu i (by omega)
    have h2 : psN b o v s (i + 1) nx = if b i = v then (fun u => if u = s + nb b v i then o i else psN b o v s i nx u) else psN b o v s i nx := rfl
    rw [h2]
    by_cases e : b i = v
    · rw [if_pos e]
      show (if u = s + nb b v i then o i else psN b o v s i nx u) < n
      by_cases e2 : u = s + nb b v i
      · rw [if_pos e2]
        exact ho i (by omega)
      · rw [if_neg e2]
        exact h1
    · rw [if_neg e]
      exact h1
theorem bit_t {s L : Nat} (h : s < 16) (hL : L < 4) : ((nI s) >>> (((nI 3) - (nI L)) &&& 31)) &&& (nI 1) = nI (s / 2 ^ (3 - L) % 2) := by
  have : ∀ s, s < 16 → ∀ L, L < 4 → ((nI s) >>> (((nI 3) - (nI L)) &&& 31)) &&& (nI 1) = nI (s / 2 ^ (3 - L) % 2) := by decide +kernel
  exact this s h L hL
theorem hasBits_t {L : Nat} (h : L < 4) : f_X6_hasBits (nI L) = some (nI 1) := by
  have : ∀ L, L < 4 → f_X6_hasBits (nI L) = some (nI 1) := by decide +kernel
  exact this L h
theorem isOn_t {M : Mm} {L i n : Nat} (hn : n ≤ 60) (e : M 15 3 = nI n) (hL : L ≤ 4) (hi : i < n) : f_X1_isOn (nI L) (nI i) M = some (nI 1) := by
  unfold f_X1_isOn
  rw [isAtMost_t (by omega) hL, Option.bind_some, if_neg (by decide), e, if_neg (by rw [nI_lt0 (by omega)]; exact id), if_neg (by simp (disch := omega) only [nI_leI, nI_ltI, nI_eq, nI_add, nI_clamp, pk_sub, pk_mul, nI_m1, nI_le0, nI_lt0, nI_0le, nI_0lt, nI_z, inb_nI, decide_eq_true_eq]; omega)]
theorem bitOf_t {M : Mm} {L i n : Nat} {g : Nat → Nat} (hn : n ≤ 60) (e : M 15 3 = nI n) (hL : L < 4) (hi : i < n) (hg : M (19 + L) i = nI (g i)) (hs : g i < 16) : f_X1_bitOf (nI L) (nI i) M = some (nI (g i / 2 ^ (3 - L) % 2)) := by
  unfold f_X1_bitOf
  rw [hasBits_t hL, Option.bind_some, if_neg (by decide), isOn_t hn e (by omega) hi, Option.bind_some, if_neg (by decide), if_pos (by simp (disch := omega) only [nI_leI, nI_ltI, nI_eq, nI_add, nI_clamp, pk_sub, pk_mul, nI_m1, nI_le0, nI_lt0, nI_0le, nI_0lt, nI_z, inb_nI, decide_eq_true_eq]; omega), if_pos (by simp (disch := omega) only [nI_leI, nI_ltI, nI_eq, nI_add, nI_clamp, pk_sub, pk_mul, nI_m1, nI_le0, nI_lt0, nI_0le, nI_0lt, nI_z, inb_nI, decide_eq_true_eq]; omega), nI_clamp (by omega), nI_clamp (by omega), hg, bit_t hs hL]
theorem move_t {F : Nat} {M : Mm} {L v s n : Nat} {f o nx b : Nat → Nat} (hF : 100 ≤ F) (hn : n ≤ 60) (e : M 15 3 = nI n) (hL : L < 4) (hv : v < 2)
    (hb : ∀ i, i < n → b i = f (o i) / 2 ^ (3 - L) % 2) (hf : ∀ i, i < n → f (o i) < 16) (hs : s + nb b v n ≤ n)
    (h1 : ∀ i, i < n → M (19 + L) i = nI (f (o i)) ∧ M (24 + L) i = nI (o i))
    (h2 : ∀ u, u < s → M (19 + (L + 1)) u = nI (f (nx u)) ∧ M (24 + (L + 1)) u = nI (nx u)) :
    Ok (f_X1_moveBits F (nI L) (nI v) (nI s) M) (fun z => z.1 = nI (s + nb b v n) ∧
      (∀ u, u < s + nb b v n → z.2 (19 + (L + 1)) u = nI (f (psN b o v s n nx u)) ∧ z.2 (24 + (L + 1)) u = nI (psN b o v s n nx u)) ∧
      (∀ j, j < n → b j = v → z.2 (29 + L) j = nI (s + nb b v j)) ∧ (∀ j, (n ≤ j ∨ b j ≠ v) → z.2 (29 + L) j = M (29 + L) j) ∧
      ∀ k, k ≠ 29 + L → k ≠ 19 + (L + 1) → k ≠ 24 + (L + 1) → z.2 k = M k) := by
  unfold f_X1_moveBits
  refine Ok.lpN (m0 := n) (fun m z => ∃ i, i + m = n ∧ z.1 = nI (s + nb b v i) ∧ z.2.1 = nI i ∧
      (∀ u, u < s + nb b v i → z.2.2 (19 + (L + 1)) u = nI (f (psN b o v s i nx u)) ∧ z.2.2 (24 + (L + 1)) u = nI (psN b o v s i nx u)) ∧
      (∀ j, j < i → b j = v → z.2.2 (29 + L) j = nI (s + nb b v j)) ∧ (∀ j, (i ≤ j ∨ b j ≠ v) → z.2.2 (29 + L) j = M (29 + L) j) ∧
      ∀ k, k ≠ 29 + L → k ≠ 19 + (L + 1) → k ≠ 24 + (L + 1) → z.2.2 k = M k) ?_ ?_ (by omega)
  · intro m z hz
    obtain ⟨z1, z2, M1⟩ := z
    obtain ⟨i, hi, g1, g2, g3, g4, g5, g6⟩ := hz
    dsimp only at g1 g2 g3 g4 g5 g6 ⊢
    subst g1 g2
    have e1 : M1 15 3 = nI n := by
      rw [g6 15 (by omega) (by omega) (by omega)]
      exact e
    have hbn := nb_le b v i
    simp only [e1]
    by_cases hd : n ≤ i
    · rw [if_pos (by simp (disch := omega) only [nI_leI, nI_ltI, nI_eq, nI_add, nI_clamp, pk_sub, pk_mul, nI_m1, nI_le0, nI_lt0, nI_0le, nI_0lt, nI_z, inb_nI, decide_eq_true_eq]; omega)]
      have e2 : n = i := by omega
      subst e2
      exact ⟨rfl, g3, g4, g5, g6⟩
    · have hlt : i < n := by omega
      have c1 : M1 (19 + L) i = nI (f (o i)) := by
        rw [g6 _ (by omega) (by omega) (by omega)]
        exact (h1 i hlt).1
      have c2 : M1 (24 + L) i = nI (o i) := by
        rw [g6 _ (by omega) (by omega) (by omega)]
        exact (h1 i hlt).2
      have hbi := hb i hlt
      have hb2 : b i < 2 := by
        rw [hbi]
        exact Nat.mod_lt _ (by omega)
      rw [if_neg (by simp (disch := omega) only [nI_leI, nI_ltI, nI_eq, nI_add, nI_clamp, pk_sub, pk_mul, nI_m1, nI_le0, nI_lt0, nI_0le, nI_0lt, nI_z, inb_nI, decide_eq_true_eq]; omega), bitOf_t (g := fun i => f (o i)) hn e1 hL hlt c1 (hf i hlt), Option.bind_some, ← hbi]
      have en : nb b v (i + 1) = nb b v i + (if b i = v then 1 else 0) := rfl
      have ep : psN b o v s (i + 1) nx = if b i = v then (fun u => if u = s + nb b v i then o i else psN b o v s i nx u) else psN b o v s i nx := rfl
      by_cases hq : b i = v
      · rw [if_pos hq] at en ep
        have hbl := nb_lt hlt hq
        rw [if_pos (by rw [hq]), if_neg (by simp (disch := omega) only [nI_leI, nI_ltI, nI_eq, nI_add, nI_clamp, pk_sub, pk_mul, nI_m1, nI_le0, nI_lt0, nI_0le, nI_0lt, nI_z, inb_nI, decide_eq_true_eq]; omega), if_pos (by simp (disch := omega) only [nI_leI, nI_ltI, nI_eq, nI_add, nI_clamp, pk_sub, pk_mul, nI_m1, nI_le0, nI_lt0, nI_0le, nI_0lt, nI_z, inb_nI, decide_eq_true_eq]; omega), if_pos (by simp (disch := omega) only [nI_leI, nI_ltI, nI_eq, nI_add, nI_clamp, pk_sub, pk_mul, nI_m1, nI_le0, nI_lt0, nI_0le, nI_0lt, nI_z, inb_nI, decide_eq_true_eq]; omega), nI_add, if_pos (by simp (disch := omega) only [nI_leI, nI_ltI, nI_eq, nI_add, nI_clamp, pk_sub, pk_mul, nI_m1, nI_le0, nI_lt0, nI_0le, nI_0lt, nI_z, inb_nI, decide_eq_true_eq]; omega), if_pos (by simp (disch := omega) only [nI_leI, nI_ltI, nI_eq, nI_add, nI_clamp, pk_sub, pk_mul, nI_m1, nI_le0, nI_lt0, nI_0le, nI_0lt, nI_z, inb_nI, decide_eq_true_eq]; omega), if_pos (by simp (disch := omega) only [nI_leI, nI_ltI, nI_eq, nI_add, nI_clamp, pk_sub, pk_mul, nI_m1, nI_le0, nI_lt0, nI_0le, nI_0lt, nI_z, inb_nI, decide_eq_true_eq]; omega), if_pos (by simp (disch := omega) only [nI_leI, nI_ltI, nI_eq, nI_add, nI_clamp, pk_sub, pk_mul, nI_m1, nI_le0, nI_lt0, nI_0le, nI_0lt, nI_z, inb_nI, decide_eq_true_eq]; omega), if_pos (by simp (disch := omega) only [nI_leI, nI_ltI, nI_eq, nI_add, nI_clamp, pk_sub, pk_mul, nI_m1, nI_le0, nI_lt0, nI_0le, nI_0lt, nI_z, inb_nI, decide_eq_true_eq]; omega), if_pos (by simp (disch := omega) only [nI_leI, nI_ltI, nI_eq, nI_add, nI_clamp, pk_sub, pk_mul, nI_m1, nI_le0, nI_lt0, nI_0le, nI_0lt, nI_z, inb_nI, decide_eq_true_eq]; omega), if_pos (by simp (disch := omega) only [nI_leI, nI_ltI, nI_eq, nI_add, nI_clamp, pk_sub, pk_mul, nI_m1, nI_le0, nI_lt0, nI_0le, nI_0lt, nI_z, inb_nI, decide_eq_true_eq]; omega), if_pos (by simp (disch := omega) only [nI_leI, nI_ltI, nI_eq, nI_add, nI_clamp, pk_sub, pk_mul, nI_m1, nI_le0, nI_lt0, nI_0le, nI_0lt, nI_z, inb_nI, decide_eq_true_eq]; omega)]
        rw [nI_clamp (show L < 2 ^ 31 by omega), nI_clamp (show L + 1 < 2 ^ 31 by omega), nI_clamp (show i < 2 ^ 31 by omega), nI_clamp (show s + nb b v i < 2 ^ 31 by omega)]
        have k1 : up M1 (29 + L) i (nI (s + nb b v i)) (19 + L) i = nI (f (o i)) := by
          rw [up_n (by omega)]
          exact c1
        rw [k1]
        have k2 : up (up M1 (29 + L) i (nI (s + nb b v i))) (19 + (L + 1)) (s + nb b v i) (nI (f (o i))) (24 + L) i = nI (o i) := by
          rw [up_n (by omega), up_n (by omega)]
          exact c2
        rw [k2]
        refine Ok.inlI ⟨m - 1, by omega, i + 1, by omega, by rw [en, nI_add]; rfl, nI_add i 1, ?_, ?_, ?_, ?_⟩
        · rw [en, ep]
          intro u hu
          dsimp only
          by_cases hup : u = s + nb b v i
          · rw [if_pos hup, hup]
            refine ⟨?_, up_ss⟩
            rw [up_n (by omega), up_ss]
          · rw [if_neg hup, up_n (show 19 + (L + 1) ≠ 24 + (L + 1) by omega), up_sn hup, up_n (show 19 + (L + 1) ≠ 29 + L by omega), up_sn hup, up_n (show 24 + (L + 1) ≠ 19 + (L + 1) by omega), up_n (show 24 + (L + 1) ≠ 29 + L by omega)]
            exact g3 u (by omega)
        · intro j hj hbj
          dsimp only
          rw [up_n (show 29 + L ≠ 24 + (L + 1) by omega), up_n (show 29 + L ≠ 19 + (L + 1) by omega)]
          by_cases hji : j = i
          · rw [hji, up_ss]
          · rw [up_sn hji]
            exact g4 j (by omega) hbj
        · intro j hj
          dsimp only
          rw [up_n (show 29 + L ≠ 24 + (L + 1) by omega), up_n (show 29 + L ≠ 19 + (L + 1) by omega)]
          have hji : j ≠ i := by
            intro h
            subst h
            rcases hj with h | h
            · omega
            · exact h hq
          rw [up_sn hji]
          exact g5 j (hj.imp (fun h => by omega) id)
        · intro k q1 q2 q3
          dsimp only
          rw [up_n q3, up_n q2, up_n q1]
          exact g6 k q1 q2 q3
      · rw [if_neg hq] at en ep
        rw [if_neg (by simp (disch := omega) only [nI_leI, nI_ltI, nI_eq, nI_add, nI_clamp, pk_sub, pk_mul, nI_m1, nI_le0, nI_lt0, nI_0le, nI_0lt, nI_z, inb_nI, decide_eq_true_eq]; omega)]
        refine Ok.inlI ⟨m - 1, by omega, i + 1, by omega, by rw [en]; rfl, nI_add i 1, ?_, ?_, ?_, g6⟩
        · rw [en, ep]
          exact g3
        · intro j hj hbj
          by_cases hji : j = i
          · exact absurd (hji ▸ hbj) hq
          · exact g4 j (by omega) hbj
        · intro j hj
          by_cases hji : j = i
          · exact g5 j (Or.inl (by omega))
          · exact g5 j (hj.imp (fun h => by omega) id)
  · exact ⟨0, by omega, rfl, rfl, h2, fun j hj => absurd hj (Nat.not_lt_zero j), fun _ _ => rfl, fun _ _ _ _ => rfl⟩
