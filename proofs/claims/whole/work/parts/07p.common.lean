def mnG (c d : Nat → Nat) (v : Nat) : Nat := if d v < c v then d v else c v
theorem keepCommon_t {F : Nat} {M : Mm} {k0 k1 : Nat} {c d : Nat → Nat} (hF : 100 ≤ F) (e : k0 ≠ k1) (h : Tl (M (k0 + 1)) c) (g : Tl (M (k1 + 1)) d) (hc : ∀ v, c v ≤ 60) (hd : ∀ v, d v ≤ 60) : Ok (f_X4_keepCommon F k0 k1 M) (fun M' => Tl (M' (k0 + 1)) (mnG c d) ∧ ∀ k, k ≠ k0 + 1 → M' k = M k) := by
  unfold f_X4_keepCommon
  refine Ok.lpN (m0 := 16) (fun m z => ∃ v, v + m = 16 ∧ z.1 = nI v ∧ (∀ u, u < 16 → z.2 (k0 + 1) u = nI (if u < v then mnG c d u else c u)) ∧ ∀ k, k ≠ k0 + 1 → z.2 k = M k) ?_ ?_ (by omega)
  · rintro m ⟨x1, M1⟩ ⟨v, hv, h1, h2, h3⟩
    dsimp only at h1 h2 h3 ⊢
    subst h1
    by_cases hq : 16 ≤ v
    · rw [if_pos (by simp (disch := omega) only [nI_leI, nI_ltI, nI_eq, nI_add, nI_clamp, pk_sub, pk_mul, nI_m1, nI_le0, nI_lt0, nI_0le, nI_0lt, nI_z, inb_nI, decide_eq_true_eq]; omega)]
      refine ⟨fun u hu => ?_, h3⟩
      rw [h2 u hu, if_pos (by omega)]
    · have hcv := hc v
      have hdv := hd v
      have a1 : M1 (k1 + 1) v = nI (d v) := by
        rw [h3 (k1 + 1) (by omega)]
        exact g v (by omega)
      have a2 : M1 (k0 + 1) v = nI (c v) := by
        rw [h2 v (by omega), if_neg (by omega)]
      rw [if_neg (by simp (disch := omega) only [nI_leI, nI_ltI, nI_eq, nI_add, nI_clamp, pk_sub, pk_mul, nI_m1, nI_le0, nI_lt0, nI_0le, nI_0lt, nI_z, inb_nI, decide_eq_true_eq]; omega), if_pos (by simp (disch := omega) only [nI_leI, nI_ltI, nI_eq, nI_add, nI_clamp, pk_sub, pk_mul, nI_m1, nI_le0, nI_lt0, nI_0le, nI_0lt, nI_z, inb_nI, decide_eq_true_eq]; omega), if_pos (by simp (disch := omega) only [nI_leI, nI_ltI, nI_eq, nI_add, nI_clamp, pk_sub, pk_mul, nI_m1, nI_le0, nI_lt0, nI_0le, nI_0lt, nI_z, inb_nI, decide_eq_true_eq]; omega), if_pos (by simp (disch := omega) only [nI_leI, nI_ltI, nI_eq, nI_add, nI_clamp, pk_sub, pk_mul, nI_m1, nI_le0, nI_lt0, nI_0le, nI_0lt, nI_z, inb_nI, decide_eq_true_eq]; omega), nI_clamp (by omega)]
      simp only [a1, a2]
      refine ⟨m - 1, by omega, v + 1, by omega, nI_add v 1, fun u hu => ?_, fun k hk => ?_⟩
      · show up M1 (k0 + 1) _ _ (k0 + 1) u = _
        by_cases hu2 : u = v
        · subst hu2
          rw [up_ss, if_pos (show u < u + 1 by omega)]
          unfold mnG
          by_cases hq2 : d u < c u
          · rw [if_pos (by simp (disch := omega) only [nI_leI, nI_ltI, nI_eq, nI_add, nI_clamp, pk_sub, pk_mul, nI_m1, nI_le0, nI_lt0, nI_0le, nI_0lt, nI_z, inb_nI, decide_eq_true_eq]; omega), if_pos hq2]
          · rw [if_neg (by simp (disch := omega) only [nI_leI, nI_ltI, nI_eq, nI_add, nI_clamp, pk_sub, pk_mul, nI_m1, nI_le0, nI_lt0, nI_0le, nI_0lt, nI_z, inb_nI, decide_eq_true_eq]; omega), if_neg hq2]
        · rw [up_sn hu2, h2 u hu]
          by_cases hq2 : u < v
          · rw [if_pos hq2, if_pos (by omega)]
          · rw [if_neg hq2, if_neg (by omega)]
      · show up M1 (k0 + 1) _ _ k = _
        rw [up_n hk]
        exact h3 k hk
  · exact ⟨0, by omega, rfl, fun u hu => by rw [if_neg (by omega)]; exact h u hu, fun _ _ => rfl⟩
def eqG (c d : Nat → Nat) : Nat → Nat → Bool
  | 0, _ => true
  | m + 1, v => if c v = d v then eqG c d m (v + 1) else false
theorem isLike_t {F : Nat} {M : Mm} {k0 k1 : Nat} {c d : Nat → Nat} (hF : 100 ≤ F) (h : Tl (M (k0 + 1)) c) (g : Tl (M (k1 + 1)) d) (hc : ∀ v, c v ≤ 60) (hd : ∀ v, d v ≤ 60) : f_X4_isLike F k0 k1 M = some (if eqG c d 16 0 = true then nI 1 else nI 0) := by
  generalize hQ : eqG c d 16 0 = Q
  apply Ok.eq
  unfold f_X4_isLike
  refine Ok.lpN (m0 := 16) (fun m z => ∃ v, v + m = 16 ∧ z = nI v ∧ eqG c d m v = Q) ?_ ?_ (by omega)
  · rintro m z ⟨v, hv, rfl, hq⟩
    by_cases hd2 : 16 ≤ v
    · rw [if_pos (by simp (disch := omega) only [nI_leI, nI_ltI, nI_eq, nI_add, nI_clamp, pk_sub, pk_mul, nI_m1, nI_le0, nI_lt0, nI_0le, nI_0lt, nI_z, inb_nI, decide_eq_true_eq]; omega)]
      have e : m = 0 := by omega
      subst e
      rw [← hq]
      rfl
    · obtain ⟨m, rfl⟩ : ∃ m', m = m' + 1 := ⟨m - 1, by omega⟩
      have hcv := hc v
      have hdv := hd v
      rw [if_neg (by simp (disch := omega) only [nI_leI, nI_ltI, nI_eq, nI_add, nI_clamp, pk_sub, pk_mul, nI_m1, nI_le0, nI_lt0, nI_0le, nI_0lt, nI_z, inb_nI, decide_eq_true_eq]; omega), if_pos (by simp (disch := omega) only [nI_leI, nI_ltI, nI_eq, nI_add, nI_clamp, pk_sub, pk_mul, nI_m1, nI_le0, nI_lt0, nI_0le, nI_0lt, nI_z, inb_nI, decide_eq_true_eq]; omega), if_pos (by simp (disch := omega) only [nI_leI, nI_ltI, nI_eq, nI_add, nI_clamp, pk_sub, pk_mul, nI_m1, nI_le0, nI_lt0, nI_0le, nI_0lt, nI_z, inb_nI, decide_eq_true_eq]; omega), nI_clamp (by omega)]
      simp only [h v (by omega), g v (by omega)]
      unfold eqG at hq
      by_cases hq2 : c v = d v
      · rw [if_pos hq2] at hq
        rw [if_pos (by simp (disch := omega) only [nI_leI, nI_ltI, nI_eq, nI_add, nI_clamp, pk_sub, pk_mul, nI_m1, nI_le0, nI_lt0, nI_0le, nI_0lt, nI_z, inb_nI, decide_eq_true_eq]; omega)]
        exact ⟨m, by omega, v + 1, by omega, nI_add v 1, hq⟩
      · rw [if_neg hq2] at hq
        rw [if_neg (by simp (disch := omega) only [nI_leI, nI_ltI, nI_eq, nI_add, nI_clamp, pk_sub, pk_mul, nI_m1, nI_le0, nI_lt0, nI_0le, nI_0lt, nI_z, inb_nI, decide_eq_true_eq]; omega), ← hq]
        rfl
  · exact ⟨0, by omega, rfl, hQ⟩
def unlF (c : Nat → Nat) : Nat → Nat → Nat
  | 0, _ => 0
  | m + 1, v => unlF c m (v + 1) + (if 0 < c v then 1 else 0)
theorem unlF_e (c : Nat → Nat) : ∀ m v, unlF c m v + unl c v = unl c (v + m)
  | 0, v => by
    show 0 + _ = _
    rw [Nat.zero_add]
    rfl
  | m + 1, v => by
    have h1 := unlF_e c m (v + 1)
    have h2 : unl c (v + 1) = unl c v + (if 0 < c v then 1 else 0) := rfl
    have h3 : unlF c (m + 1) v = unlF c m (v + 1) + (if 0 < c v then 1 else 0) := rfl
    rw [show v + (m + 1) = v + 1 + m by omega, ← h1, h2, h3]
    omega
def preF (c : Nat → Nat) : Nat → Nat → Nat
  | 0, _ => 0
  | m + 1, v => preF c m (v + 1) + c v
theorem preF_e (c : Nat → Nat) : ∀ m v, preF c m v + pre c v = pre c (v + m)
  | 0, v => by
    show 0 + _ = _
    rw [Nat.zero_add]
    rfl
  | m + 1, v => by
    have h1 := preF_e c m (v + 1)
    have h2 : pre c (v + 1) = pre c v + c v := rfl
    have h3 : preF c (m + 1) v = preF c m (v + 1) + c v := rfl
    rw [show v + (m + 1) = v + 1 + m by omega, ← h1, h2, h3]
    omega
theorem mnG_le {c d : Nat → Nat} (hc : ∀ v, c v ≤ 60) (v : Nat) : mnG c d v ≤ 60 := by
  have := hc v
  unfold mnG
  split <;> omega
theorem preF_le (c : Nat → Nat) (hc : ∀ v, c v ≤ 60) : ∀ m v, preF c m v ≤ 60 * m
  | 0, v => Nat.zero_le _
  | m + 1, v => by
    have h1 := preF_le c hc m (v + 1)
    have h2 := hc v
    have h3 : preF c (m + 1) v = preF c m (v + 1) + c v := rfl
    omega
def cmV (c d : Nat → Nat) (i : Nat) : Int32 :=
  if i = 3 then (if eqG c d 16 0 = true then nI 1 else nI 0) else if i = 0 then nI (unl (mnG c d) 16) else if i = 1 then nI (pre (mnG c d) 16) else if leastG (mnG c d) 16 0 < 16 then nI (leastG (mnG c d) 16 0) else -1000004
theorem comLoop_t {F : Nat} {M : Mm} {c d : Nat → Nat} {i : Nat} (hF : 100 ≤ F) (hi : i ≤ 3) (w0 : Tl (M 49) c) (w1 : Tl (M 48) d) (hcl : ∀ v, c v ≤ 60) (hdl : ∀ v, d v ≤ 60) : (lpf (fun z12 : Int32 × Int32 × Int32 × Int32 × Int32 => if z12.2.2.2.2 < 0 then (if (nI i) = 0 then (some (.inr (.inr (z12.1, M)))) else (if (nI i) = (nI 1) then (some (.inr (.inr (z12.2.1, M)))) else (if (nI i) = (nI 2) then (some (.inr (.inr (z12.2.2.1, M)))) else (if z12.2.2.2.1 = 0 then (some (.inr (.inr ((nI 0), M)))) else (some (.inr (.inr ((nI 1), M)))))))) else (if inb z12.2.2.2.2 16 = true then if inb z12.2.2.2.2 16 = true then jn (if (M 49 (Int32.toNatClampNeg z12.2.2.2.2)) ≤ (M 48 (Int32.toNatClampNeg z12.2.2.2.2)) then (if inb z12.2.2.2.2 16 = true then some (.inl (M 49 (Int32.toNatClampNeg z12.2.2.2.2))) else none) else (if inb z12.2.2.2.2 16 = true then some (.inl (M 48 (Int32.toNatClampNeg z12.2.2.2.2))) else none)) (fun z15 : Int32 => jn (if z15 ≤ 0 then (some (.inl (nI 0))) else (some (.inl (nI 1)))) (fun z18 : Int32 => jn (if z15 ≤ 0 then (some (.inl z12.2.2.1)) else (some (.inl z12.2.2.2.2))) (fun z19 : Int32 => if z12.2.2.2.1 = 0 then (some (.inl ((z12.1 + z18), (z12.2.1 + z15), z19, (nI 0), (z12.2.2.2.2 + (-1 : Int32))))) else (if inb z12.2.2.2.2 16 = true then if inb z12.2.2.2.2 16 = true then if (M 48 (Int32.toNatClampNeg z12.2.2.2.2)) = (M 49 (Int32.toNatClampNeg z12.2.2.2.2)) then (some (.inl ((z12.1 + z18), (z12.2.1 + z15), z19, (nI 1), (z12.2.2.2.2 + (-1 : Int32))))) else (some (.inl ((z12.1 + z18), (z12.2.1 + z15), z19, (nI 0), (z12.2.2.2.2 + (-1 : Int32))))) else none else none)))) else none else none)) F ((nI 0), (nI 0), (-1000004 : Int32), (nI 1), (nI 15)) : Option ((Int32 × Mm) ⊕ (Int32 × Mm))) = some (.inr (cmV c d i, M)) := by
  have hml := mnG_le (d := d) hcl
  apply Ok.eq
  refine Ok.lpN (m0 := 16) (fun v z => v ≤ 16 ∧ z.1 = nI (unlF (mnG c d) (16 - v) v) ∧ z.2.1 = nI (preF (mnG c d) (16 - v) v) ∧ z.2.2.1 = (if leastG (mnG c d) (16 - v) v < 16 then nI (leastG (mnG c d) (16 - v) v) else -1000004) ∧ z.2.2.2.1 = (if eqG c d (16 - v) v = true then nI 1 else nI 0) ∧ z.2.2.2.2 = nI v + (-1 : Int32)) ?_ ?_ (by omega)
  · intro v z hz
    obtain ⟨z1, z2, z3, z4, z5⟩ := z
    obtain ⟨hv, h1, h2, h3, h4, h5⟩ := hz
    dsimp only at h1 h2 h3 h4 h5 ⊢
    rcases Nat.eq_zero_or_pos v with v0 | v0
    · subst v0
      rw [if_pos (show z5 < 0 by rw [h5]; decide)]
      have p1 := preF_e (mnG c d) 16 0
      have p2 := unlF_e (mnG c d) 16 0
      have p3 : unlF (mnG c d) (16 - 0) 0 = unl (mnG c d) 16 := p2
      have p4 : preF (mnG c d) (16 - 0) 0 = pre (mnG c d) 16 := p1
      rw [p3] at h1
      rw [p4] at h2
      unfold cmV
      by_cases c0 : i = 0
      · rw [if_pos (by simp (disch := omega) only [nI_leI, nI_ltI, nI_eq, nI_add, nI_clamp, pk_sub, pk_mul, nI_m1, nI_le0, nI_lt0, nI_0le, nI_0lt, nI_z, inb_nI, decide_eq_true_eq]; omega), if_neg (by omega), if_pos c0, h1]
        rfl
      rw [if_neg (by simp (disch := omega) only [nI_leI, nI_ltI, nI_eq, nI_add, nI_clamp, pk_sub, pk_mul, nI_m1, nI_le0, nI_lt0, nI_0le, nI_0lt, nI_z, inb_nI, decide_eq_true_eq]; omega)]
      by_cases c1 : i = 1
      · rw [if_pos (by simp (disch := omega) only [nI_leI, nI_ltI, nI_eq, nI_add, nI_clamp, pk_sub, pk_mul, nI_m1, nI_le0, nI_lt0, nI_0le, nI_0lt, nI_z, inb_nI, decide_eq_true_eq]; omega), if_neg (by omega), if_neg c0, if_pos c1, h2]
        rfl
      rw [if_neg (by simp (disch := omega) only [nI_leI, nI_ltI, nI_eq, nI_add, nI_clamp, pk_sub, pk_mul, nI_m1, nI_le0, nI_lt0, nI_0le, nI_0lt, nI_z, inb_nI, decide_eq_true_eq]; omega)]
      by_cases c2 : i = 2
      · rw [if_pos (by simp (disch := omega) only [nI_leI, nI_ltI, nI_eq, nI_add, nI_clamp, pk_sub, pk_mul, nI_m1, nI_le0, nI_lt0, nI_0le, nI_0lt, nI_z, inb_nI, decide_eq_true_eq]; omega), if_neg (by omega), if_neg c0, if_neg c1, h3]
        rfl
      rw [if_neg (by simp (disch := omega) only [nI_leI, nI_ltI, nI_eq, nI_add, nI_clamp, pk_sub, pk_mul, nI_m1, nI_le0, nI_lt0, nI_0le, nI_0lt, nI_z, inb_nI, decide_eq_true_eq]; omega)]
      by_cases hq : eqG c d 16 0 = true
      · have h4' : z4 = nI 1 := h4.trans (if_pos hq)
        rw [if_neg (show ¬ z4 = 0 by rw [h4']; decide), if_pos (show i = 3 by omega), if_pos hq]
        rfl
      · have h4' : z4 = nI 0 := h4.trans (if_neg hq)
        rw [if_pos (show z4 = 0 by rw [h4']; decide), if_pos (show i = 3 by omega), if_neg hq]
        rfl
    · obtain ⟨w, rfl⟩ : ∃ w, v = w + 1 := ⟨v - 1, by omega⟩
      have ei : z5 = nI w := by
        rw [h5, nI_m1 (by omega)]
        rfl
      clear h5
      subst ei
      have ec : Int32.toNatClampNeg (nI w) = w := nI_clamp (by omega)
      have hcw := hcl w
      have hdw := hdl w
      have hmw := hml w
      have em : 16 - w = (16 - (w + 1)) + 1 := by omega
      have g1 : unlF (mnG c d) (16 - w) w = unlF (mnG c d) (16 - (w + 1)) (w + 1) + (if 0 < mnG c d w then 1 else 0) := by
        rw [em]
        rfl
      have g2 : preF (mnG c d) (16 - w) w = preF (mnG c d) (16 - (w + 1)) (w + 1) + mnG c d w := by
        rw [em]
        rfl
      have g3 : leastG (mnG c d) (16 - w) w = if 0 < mnG c d w then w else leastG (mnG c d) (16 - (w + 1)) (w + 1) := by
        rw [em]
        rfl
      have g4 : eqG c d (16 - w) w = if c w = d w then eqG c d (16 - (w + 1)) (w + 1) else false := by
        rw [em]
        rfl
      simp only [ec, w0 w (by omega), w1 w (by omega)]
      have hin : inb (nI w) 16 = true := by simp (disch := omega) only [nI_leI, nI_ltI, nI_eq, nI_add, nI_clamp, pk_sub, pk_mul, nI_m1, nI_le0, nI_lt0, nI_0le, nI_0lt, nI_z, inb_nI, decide_eq_true_eq]; omega
      rw [if_neg (show ¬ nI w < 0 by rw [nI_lt0 (by omega)]; exact id), if_pos hin, if_pos hin]
      refine Ok.jnI ?_
      have k1 : (if nI (c w) ≤ nI (d w) then (if inb (nI w) 16 = true then some (Sum.inl (nI (c w))) else none) else (if inb (nI w) 16 = true then some (Sum.inl (nI (d w))) else none) : Option (Int32 ⊕ ((Int32 × Int32 × Int32 × Int32 × Int32) ⊕ ((Int32 × Mm) ⊕ (Int32 × Mm))))) = some (Sum.inl (nI (mnG c d w))) := by
        rw [if_pos hin, if_pos hin]
        by_cases hq : d w < c w
        · have e : mnG c d w = d w := if_pos hq
          rw [e, if_neg (by simp (disch := omega) only [nI_leI, nI_ltI, nI_eq, nI_add, nI_clamp, pk_sub, pk_mul, nI_m1, nI_le0, nI_lt0, nI_0le, nI_0lt, nI_z, inb_nI, decide_eq_true_eq]; omega)]
        · have e : mnG c d w = c w := if_neg hq
          rw [e, if_pos (by simp (disch := omega) only [nI_leI, nI_ltI, nI_eq, nI_add, nI_clamp, pk_sub, pk_mul, nI_m1, nI_le0, nI_lt0, nI_0le, nI_0lt, nI_z, inb_nI, decide_eq_true_eq]; omega)]
      rw [k1]
      refine Ok.inlI ?_
      refine Ok.jnI ?_
      have k2 : (if nI (mnG c d w) ≤ 0 then some (Sum.inl (nI 0)) else some (Sum.inl (nI 1)) : Option (Int32 ⊕ ((Int32 × Int32 × Int32 × Int32 × Int32) ⊕ ((Int32 × Mm) ⊕ (Int32 × Mm))))) = some (Sum.inl (nI (if 0 < mnG c d w then 1 else 0))) := by
        by_cases hq : 0 < mnG c d w
        · rw [if_neg (by simp (disch := omega) only [nI_leI, nI_ltI, nI_eq, nI_add, nI_clamp, pk_sub, pk_mul, nI_m1, nI_le0, nI_lt0, nI_0le, nI_0lt, nI_z, inb_nI, decide_eq_true_eq]; omega), if_pos hq]
        · rw [if_pos (by simp (disch := omega) only [nI_leI, nI_ltI, nI_eq, nI_add, nI_clamp, pk_sub, pk_mul, nI_m1, nI_le0, nI_lt0, nI_0le, nI_0lt, nI_z, inb_nI, decide_eq_true_eq]; omega), if_neg hq]
      rw [k2]
      refine Ok.inlI ?_
      refine Ok.jnI ?_
      have k3 : (if nI (mnG c d w) ≤ 0 then some (Sum.inl z3) else some (Sum.inl (nI w)) : Option (Int32 ⊕ ((Int32 × Int32 × Int32 × Int32 × Int32) ⊕ ((Int32 × Mm) ⊕ (Int32 × Mm))))) = some (Sum.inl (if leastG (mnG c d) (16 - w) w < 16 then nI (leastG (mnG c d) (16 - w) w) else -1000004)) := by
        rw [g3]
        by_cases hq : 0 < mnG c d w
        · rw [if_neg (by simp (disch := omega) only [nI_leI, nI_ltI, nI_eq, nI_add, nI_clamp, pk_sub, pk_mul, nI_m1, nI_le0, nI_lt0, nI_0le, nI_0lt, nI_z, inb_nI, decide_eq_true_eq]; omega), if_pos hq, if_pos (show w < 16 by omega)]
        · rw [if_pos (by simp (disch := omega) only [nI_leI, nI_ltI, nI_eq, nI_add, nI_clamp, pk_sub, pk_mul, nI_m1, nI_le0, nI_lt0, nI_0le, nI_0lt, nI_z, inb_nI, decide_eq_true_eq]; omega), if_neg hq, h3]
      rw [k3]
      refine Ok.inlI ?_
      have a1 : z1 + nI (if 0 < mnG c d w then 1 else 0) = nI (unlF (mnG c d) (16 - w) w) := by rw [h1, nI_add, g1]
      have a2 : z2 + nI (mnG c d w) = nI (preF (mnG c d) (16 - w) w) := by rw [h2, nI_add, g2]
      rw [a1, a2]
      by_cases hq4 : eqG c d (16 - (w + 1)) (w + 1) = true
      · have h4' : z4 = nI 1 := h4.trans (if_pos hq4)
        rw [if_neg (show ¬ z4 = 0 by rw [h4']; decide), if_pos hin, if_pos hin]
        by_cases hq : c w = d w
        · rw [if_pos (by rw [hq])]
          refine Ok.inlI ⟨w, by omega, by omega, rfl, rfl, rfl, ?_, rfl⟩
          rw [g4, if_pos hq, if_pos hq4]
        · rw [if_neg (by simp (disch := omega) only [nI_leI, nI_ltI, nI_eq, nI_add, nI_clamp, pk_sub, pk_mul, nI_m1, nI_le0, nI_lt0, nI_0le, nI_0lt, nI_z, inb_nI, decide_eq_true_eq]; omega)]
          refine Ok.inlI ⟨w, by omega, by omega, rfl, rfl, rfl, ?_, rfl⟩
          rw [g4, if_neg hq]
          rfl
      · have h4' : z4 = nI 0 := h4.trans (if_neg hq4)
        rw [if_pos (show z4 = 0 by rw [h4']; decide)]
        refine Ok.inlI ⟨w, by omega, by omega, rfl, rfl, rfl, ?_, rfl⟩
        rw [g4]
        by_cases hq : c w = d w
        · rw [if_pos hq, if_neg hq4]
        · rw [if_neg hq]
          rfl
  · exact ⟨by omega, rfl, rfl, rfl, rfl, by decide⟩
theorem op_common {F : Nat} {r : Rw} {h : Nat} {H : Nat → Rw} {t : Rw} (hF : 300 ≤ F) (ho : okR r) (ot : okT t) (a1 b1 a2 b2 i : Int32) : Op (f_X6_common F a1 b1 a2 b2 i) (f_X7_common F a1 b1 a2 b2 i) r h H t := by
  have hn := ho.1
  rcases span_cases a1 b1 (n := r.1) (by omega) with hs | ⟨a1, b1, rfl, rfl, hab1, hb1⟩
  · refine Op.err (-1000001) ho ot (fun M x => ?_) (fun M x => ?_)
    · unfold f_X6_common
      rw [hasSpan_f x.1 hs, Option.bind_some, if_pos (by decide)]
    · unfold f_X7_common
      rw [isSpan_f x.1 hn hs, Option.bind_some, if_pos (by decide)]
  rcases span_cases a2 b2 (n := r.1) (by omega) with hs | ⟨a2, b2, rfl, rfl, hab2, hb2⟩
  · refine Op.err (-1000001) ho ot (fun M x => ?_) (fun M x => ?_)
    · unfold f_X6_common
      rw [hasSpan_t x.1 hn hab1 hb1, Option.bind_some, if_neg (by decide), hasSpan_f x.1 hs, Option.bind_some, if_pos (by decide)]
    · unfold f_X7_common
      rw [isSpan_t x.1 hn hab1 hb1, Option.bind_some, if_neg (by decide), isSpan_f x.1 hn hs, Option.bind_some, if_pos (by decide)]
  rcases le_cases i (n := 3) (by omega) with hi | ⟨i, rfl, hi⟩
  · refine Op.err (-1000001) ho ot (fun M x => ?_) (fun M x => ?_)
    · unfold f_X6_common
      rw [hasSpan_t x.1 hn hab1 hb1, Option.bind_some, if_neg (by decide), hasSpan_t x.1 hn hab2 hb2, Option.bind_some, if_neg (by decide), isAtMost_f hi, Option.bind_some, if_pos (by decide)]
    · unfold f_X7_common
      rw [isSpan_t x.1 hn hab1 hb1, Option.bind_some, if_neg (by decide), isSpan_t x.1 hn hab2 hb2, Option.bind_some, if_neg (by decide), in_f0 hi, Option.bind_some, if_pos (by decide)]
  have hcl := fun v => Nat.le_trans (cnt_le r.2 a1 v (b1 - a1)) (show b1 - a1 ≤ 60 by omega)
  have hdl := fun v => Nat.le_trans (cnt_le r.2 a2 v (b2 - a2)) (show b2 - a2 ≤ 60 by omega)
  refine Op.same (cmV (cnt r.2 a1 (b1 - a1)) (cnt r.2 a2 (b2 - a2)) i) ho ot (fun M x => ?_) (fun M x => ?_)
  · unfold f_X6_common
    rw [hasSpan_t x.1 hn hab1 hb1, Option.bind_some, if_neg (by decide), hasSpan_t x.1 hn hab2 hb2, Option.bind_some, if_neg (by decide), isAtMost_t (by omega) hi, Option.bind_some, if_neg (by decide)]
    refine Ok.bindI (fill_t (by omega) x.1 ho hab1 hb1 (by omega) (by omega)) ?_
    rintro M1 ⟨t1, t2⟩
    have x1 : RwP M1 1 r.1 r.2 := x.1.keep (t2 1 (by omega)) (t2 2 (by omega))
    refine Ok.bindI (fill_t (by omega) x1 ho hab2 hb2 (by omega) (by omega)) ?_
    rintro M2 ⟨u1, u2⟩
    have t1' : Tl (M2 (33 + 1)) (cnt r.2 a1 (b1 - a1)) := by
      rw [u2 (33 + 1) (by omega)]
      exact t1
    generalize cnt r.2 a1 (b1 - a1) = c at t1' hcl ⊢
    generalize cnt r.2 a2 (b2 - a2) = d at u1 hdl ⊢
    by_cases c3 : i = 3
    · rw [if_pos (by simp (disch := omega) only [nI_leI, nI_ltI, nI_eq, nI_add, nI_clamp, pk_sub, pk_mul, nI_m1, nI_le0, nI_lt0, nI_0le, nI_0lt, nI_z, inb_nI, decide_eq_true_eq]; omega), isLike_t (by omega) t1' u1 hcl hdl, Option.bind_some]
      unfold cmV
      rw [if_pos c3]
      have f2 : ∀ k, (1 ≤ k ∧ k ≤ 10) ∨ k = 13 ∨ k = 37 ∨ k = 38 ∨ 40 ≤ k → M2 k = M k := fun k hk => by rw [u2 k (by omega), t2 k (by omega)]
      by_cases hq : eqG c d 16 0 = true
      · rw [if_pos hq, if_neg (by decide)]
        exact ⟨rfl, f2⟩
      · rw [if_neg hq, if_pos (by decide)]
        exact ⟨rfl, f2⟩
    rw [if_neg (by simp (disch := omega) only [nI_leI, nI_ltI, nI_eq, nI_add, nI_clamp, pk_sub, pk_mul, nI_m1, nI_le0, nI_lt0, nI_0le, nI_0lt, nI_z, inb_nI, decide_eq_true_eq]; omega)]
    refine Ok.bindI (keepCommon_t (by omega) (by omega) t1' u1 hcl hdl) ?_
    rintro M3 ⟨w1, w2⟩
    have f2 : ∀ k, (1 ≤ k ∧ k ≤ 10) ∨ k = 13 ∨ k = 37 ∨ k = 38 ∨ 40 ≤ k → M3 k = M k := fun k hk => by rw [w2 k (by omega), u2 k (by omega), t2 k (by omega)]
    have hml := mnG_le (d := d) hcl
    unfold cmV
    rw [if_neg c3]
    by_cases c0 : i = 0
    · rw [if_pos (by simp (disch := omega) only [nI_leI, nI_ltI, nI_eq, nI_add, nI_clamp, pk_sub, pk_mul, nI_m1, nI_le0, nI_lt0, nI_0le, nI_0lt, nI_z, inb_nI, decide_eq_true_eq]; omega), if_pos c0, unlike_t (by omega) w1 hml, Option.bind_some]
      exact ⟨rfl, f2⟩
    rw [if_neg (by simp (disch := omega) only [nI_leI, nI_ltI, nI_eq, nI_add, nI_clamp, pk_sub, pk_mul, nI_m1, nI_le0, nI_lt0, nI_0le, nI_0lt, nI_z, inb_nI, decide_eq_true_eq]; omega), if_neg c0]
    by_cases c1 : i = 1
    · rw [if_pos (by simp (disch := omega) only [nI_leI, nI_ltI, nI_eq, nI_add, nI_clamp, pk_sub, pk_mul, nI_m1, nI_le0, nI_lt0, nI_0le, nI_0lt, nI_z, inb_nI, decide_eq_true_eq]; omega), if_pos c1, timesBelow_t (by omega) w1 (by omega), Option.bind_some]
      exact ⟨rfl, f2⟩
    rw [if_neg (by simp (disch := omega) only [nI_leI, nI_ltI, nI_eq, nI_add, nI_clamp, pk_sub, pk_mul, nI_m1, nI_le0, nI_lt0, nI_0le, nI_0lt, nI_z, inb_nI, decide_eq_true_eq]; omega), if_neg c1, leastFrom_t (by omega) w1 hml (by omega), Option.bind_some]
    by_cases hq : leastG (mnG c d) 16 0 < 16
    · rw [if_pos hq, if_pos hq, foundOr_t hq, Option.bind_some]
      exact ⟨rfl, f2⟩
    · rw [if_neg hq, if_neg hq, foundOr_f, Option.bind_some]
      exact ⟨rfl, f2⟩
  · unfold f_X7_common
    rw [isSpan_t x.1 hn hab1 hb1, Option.bind_some, if_neg (by decide), isSpan_t x.1 hn hab2 hb2, Option.bind_some, if_neg (by decide), in_t (by omega) (by omega) hi, Option.bind_some, if_neg (by decide)]
    refine Ok.bindI (counts_t (by omega) x.1 ho hab1 hb1) ?_
    rintro M1 ⟨t1, t2⟩
    refine Ok.lpN (m0 := 16) (fun m z => ∃ v, v + m = 16 ∧ z.1 = nI v ∧ (∀ u, u < v → z.2 49 u = nI (cnt r.2 a1 (b1 - a1) u)) ∧ ∀ k, k ≠ 49 → z.2 k = M1 k) ?_ ?_ (by omega)
    · rintro m ⟨z1, M2⟩ ⟨v, hv, h1, h2, h3⟩
      dsimp only at h1 h2 h3 ⊢
      subst h1
      by_cases hq : 16 ≤ v
      · rw [if_pos (by simp (disch := omega) only [nI_leI, nI_ltI, nI_eq, nI_add, nI_clamp, pk_sub, pk_mul, nI_m1, nI_le0, nI_lt0, nI_0le, nI_0lt, nI_z, inb_nI, decide_eq_true_eq]; omega)]
        have x2 : SqP (M2 41) 0 r := by
          rw [h3 41 (by omega), t2 41 (by omega)]
          exact x.1
        refine Ok.bindI (counts_t (by omega) x2 ho hab2 hb2) ?_
        rintro M3 ⟨w1, w2⟩
        have w0 : Tl (M3 49) (cnt r.2 a1 (b1 - a1)) := fun u hu => by
          rw [w2 49 (by omega)]
          exact h2 u (by omega)
        have f2 : M3 40 4 = M 40 4 ∧ M3 40 6 = M 40 6 ∧ ∀ k, k < 40 ∨ k = 41 ∨ k = 42 ∨ k = 45 → M3 k = M k := ⟨by rw [w2 40 (by omega), h3 40 (by omega), t2 40 (by omega)], by rw [w2 40 (by omega), h3 40 (by omega), t2 40 (by omega)], fun k hk => by rw [w2 k (by omega), h3 k (by omega), t2 k (by omega)]⟩
        generalize cnt r.2 a1 (b1 - a1) = c at w0 hcl ⊢
        generalize cnt r.2 a2 (b2 - a2) = d at w1 hdl ⊢
        rw [comLoop_t (by omega) hi w0 w1 hcl hdl]
        exact ⟨rfl, f2⟩
      · rw [if_neg (by simp (disch := omega) only [nI_leI, nI_ltI, nI_eq, nI_add, nI_clamp, pk_sub, pk_mul, nI_m1, nI_le0, nI_lt0, nI_0le, nI_0lt, nI_z, inb_nI, decide_eq_true_eq]; omega), if_pos (by simp (disch := omega) only [nI_leI, nI_ltI, nI_eq, nI_add, nI_clamp, pk_sub, pk_mul, nI_m1, nI_le0, nI_lt0, nI_0le, nI_0lt, nI_z, inb_nI, decide_eq_true_eq]; omega), if_pos (by simp (disch := omega) only [nI_leI, nI_ltI, nI_eq, nI_add, nI_clamp, pk_sub, pk_mul, nI_m1, nI_le0, nI_lt0, nI_0le, nI_0lt, nI_z, inb_nI, decide_eq_true_eq]; omega), nI_clamp (by omega)]
        refine ⟨m - 1, by omega, v + 1, by omega, nI_add v 1, fun u hu => ?_, fun k hk => ?_⟩
        · show up M2 49 _ _ 49 u = _
          by_cases hu2 : u = v
          · subst hu2
            rw [up_ss, h3 48 (by omega)]
            exact t1 u (by omega)
          · rw [up_sn hu2]
            exact h2 u (by omega)
        · show up M2 49 _ _ k = _
          rw [up_n hk]
          exact h3 k hk
    · exact ⟨0, by omega, rfl, fun u hu => by omega, fun _ _ => rfl⟩
