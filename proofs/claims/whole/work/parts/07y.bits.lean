def pkL (b : Nat → Nat) (s : Nat) : Nat → Nat
  | 0 => 0
  | j + 1 => pkL b s j + b (s + j) * 2 ^ j
def pkF (b : Nat → Nat) : Nat → Nat → Nat
  | 0, _ => 0
  | m + 1, v => b v + 2 * pkF b m (v + 1)
theorem pkL_lt {b : Nat → Nat} {s : Nat} : ∀ j, (∀ i, i < j → b (s + i) < 2) → pkL b s j < 2 ^ j
  | 0, _ => by
    show 0 < 1
    omega
  | j + 1, h => by
    have h1 := pkL_lt (b := b) (s := s) j (fun i hi => h i (by omega))
    have h2 := h j (by omega)
    have h3 : pkL b s (j + 1) = pkL b s j + b (s + j) * 2 ^ j := rfl
    have h4 : 2 ^ (j + 1) = 2 ^ j + 2 ^ j := by rw [Nat.pow_succ]; omega
    rcases (show b (s + j) = 0 ∨ b (s + j) = 1 by omega) with e | e
    · rw [h3, e, Nat.zero_mul, Nat.add_zero]
      omega
    · rw [h3, e, Nat.one_mul]
      omega
theorem pkLF_eq (b : Nat → Nat) (s : Nat) : ∀ m j, pkL b s j + 2 ^ j * pkF b m (s + j) = pkL b s (j + m)
  | 0, j => by
    show pkL b s j + 2 ^ j * 0 = _
    rw [Nat.mul_zero]
    rfl
  | m + 1, j => by
    have h1 := pkLF_eq b s m (j + 1)
    have h3 : pkL b s (j + 1) = pkL b s j + b (s + j) * 2 ^ j := rfl
    have h4 : pkF b (m + 1) (s + j) = b (s + j) + 2 * pkF b m (s + j + 1) := rfl
    have h5 : j + 1 + m = j + (m + 1) := by omega
    have h6 : s + (j + 1) = s + j + 1 := by omega
    rw [h5, h3, h6] at h1
    rw [← h1, h4, Nat.mul_add, Nat.pow_succ, Nat.mul_comm (b (s + j)), Nat.mul_assoc]
    omega
theorem l_shl {m : Nat} (h : m < 60) : ((1 : Int64) <<< ((Int32.toInt64 (nI m)) &&& 63)) = Int64.ofNat (2 ^ m) := by
  have : ∀ m, m < 60 → ((1 : Int64) <<< ((Int32.toInt64 (nI m)) &&& 63)) = Int64.ofNat (2 ^ m) := by decide +kernel
  exact this m h
theorem l_or {x m : Nat} (h : x < 2 ^ m) : Int64.ofNat x ||| Int64.ofNat (2 ^ m) = Int64.ofNat (x + 2 ^ m) := by
  have e : x + 2 ^ m = x ||| 2 ^ m := by
    have h1 := Nat.two_pow_add_eq_or_of_lt h 1
    rw [Nat.mul_one] at h1
    rw [Nat.add_comm, h1, Nat.or_comm]
  rw [e]
  apply Int64.toBitVec_inj.mp
  rw [Int64.toBitVec_or, Int64.toBitVec_ofNat', Int64.toBitVec_ofNat', Int64.toBitVec_ofNat', BitVec.ofNat_or]
theorem l_dbl {x b : Nat} (hb : b < 2) : (2 : Int64) * Int64.ofNat x + Int32.toInt64 (nI b) = Int64.ofNat (b + 2 * x) := by
  have e : ∀ b, b < 2 → Int32.toInt64 (nI b) = Int64.ofNat b := by decide +kernel
  rw [e b hb, Nat.add_comm, Int64.ofNat_add, Int64.ofNat_mul]
  rfl
theorem packed_t {F : Nat} {M : Mm} {L s e n : Nat} {g : Nat → Nat} (hF : 100 ≤ F) (hn : n ≤ 60) (e15 : M 15 3 = nI n) (hL : L < 4) (hse : s ≤ e) (he : e ≤ n)
    (hg : ∀ i, i < n → M (19 + L) i = nI (g i) ∧ g i < 16) : f_X1_packed F (nI L) (nI s) (nI e) M = some (Int64.ofNat (pkL (fun i => g i / 2 ^ (3 - L) % 2) s (e - s))) := by
  generalize hB : (fun i => g i / 2 ^ (3 - L) % 2) = b
  have hb : ∀ i, b i = g i / 2 ^ (3 - L) % 2 := fun i => by rw [← hB]
  have hb2 : ∀ i, b i < 2 := fun i => by
    rw [hb]
    exact Nat.mod_lt _ (by omega)
  apply Ok.eq
  unfold f_X1_packed
  refine Ok.lpN (m0 := e - s) (fun m z => ∃ j, j + m = e - s ∧ z.1 = Int64.ofNat (pkL b s j) ∧ z.2 = nI (s + j)) ?_ ?_ (by omega)
  · intro m z hz
    obtain ⟨z1, z2⟩ := z
    obtain ⟨j, hj, h1, h2⟩ := hz
    dsimp only at h1 h2 ⊢
    subst h2
    by_cases hd : e ≤ s + j
    · rw [if_pos (by simp (disch := omega) only [nI_leI, nI_ltI, nI_eq, nI_add, nI_clamp, pk_sub, pk_mul, nI_m1, nI_le0, nI_lt0, nI_0le, nI_0lt, nI_z, inb_nI, decide_eq_true_eq]; omega), h1]
      have e2 : e - s = j := by omega
      rw [e2]
      rfl
    · obtain ⟨g1, g2⟩ := hg (s + j) (by omega)
      have ep : pkL b s (j + 1) = pkL b s j + b (s + j) * 2 ^ j := rfl
      have hlt := pkL_lt (b := b) (s := s) j (fun i _ => hb2 _)
      have hbj := hb2 (s + j)
      rw [if_neg (by simp (disch := omega) only [nI_leI, nI_ltI, nI_eq, nI_add, nI_clamp, pk_sub, pk_mul, nI_m1, nI_le0, nI_lt0, nI_0le, nI_0lt, nI_z, inb_nI, decide_eq_true_eq]; omega), bitOf_t hn e15 hL (by omega) g1 g2, Option.bind_some, ← hb]
      by_cases hq : b (s + j) = 1
      · have e3 : nI (s + j) - nI s = nI j := by
          simp (disch := omega) only [nI_leI, nI_ltI, nI_eq, nI_add, nI_clamp, pk_sub, pk_mul, nI_m1, nI_le0, nI_lt0, nI_0le, nI_0lt, nI_z, inb_nI, decide_eq_true_eq]
          rw [Nat.add_sub_cancel_left]
        rw [if_pos (by rw [hq]), e3, l_shl (by omega), h1, l_or hlt]
        refine Ok.inlI ⟨m - 1, by omega, j + 1, by omega, ?_, nI_add (s + j) 1⟩
        rw [ep, hq, Nat.one_mul]
      · rw [if_neg (by simp (disch := omega) only [nI_leI, nI_ltI, nI_eq, nI_add, nI_clamp, pk_sub, pk_mul, nI_m1, nI_le0, nI_lt0, nI_0le, nI_0lt, nI_z, inb_nI, decide_eq_true_eq]; omega)]
        refine Ok.inlI ⟨m - 1, by omega, j + 1, by omega, ?_, nI_add (s + j) 1⟩
        rw [ep, show b (s + j) = 0 by omega, Nat.zero_mul, Nat.add_zero]
        exact h1
  · exact ⟨0, by omega, rfl, rfl⟩
theorem hasBits_f {a : Int32} (h : a < 0 ∨ nI 4 ≤ a) : f_X6_hasBits a = some (nI 0) := by
  unfold f_X6_hasBits
  by_cases h0 : a < 0
  · rw [if_pos h0]
  · rw [if_neg h0, if_pos (h.resolve_left h0)]
theorem lt_3 {b : Int32} (h : nI 4 ≤ b) : nI 3 < b := Int32.lt_of_lt_of_le (by decide) h
theorem op_bits {F : Nat} {r : Rw} {h : Nat} {H : Nat → Rw} {t : Rw} (hF : 300 ≤ F) (ho : okR r) (ot : okT t) (a : Int32) : Op (f_X6_bits F a) (f_X7_bits F a) r h H t := by
  have hn := ho.1
  rcases lt_cases a (n := 4) (by omega) with ha | ⟨L, rfl, hL⟩
  · refine Op.err (-1000001) ho ot (fun M x => ?_) (fun M x => ?_)
    · unfold f_X6_bits
      rw [hasBits_f ha, Option.bind_some, if_pos (by decide)]
    · unfold f_X7_bits
      rw [in_f0 (ha.imp id (fun h => lt_3 h)), Option.bind_some, if_pos (by decide)]
  have hb2 := btL_lt r.2 (og r.2 r.1 L) L
  generalize hV : Int64.ofNat (pkL (btL r.2 (og r.2 r.1 L) L) 0 r.1) = V
  refine Op.same V ho ot (fun M x => ?_) (fun M x => ?_)
  · unfold f_X6_bits
    rw [hasBits_t hL, Option.bind_some, if_neg (by decide)]
    refine Ok.bindI (build_t (by omega) x.1 ho) ?_
    rintro M1 ⟨⟨p1, p2, p3⟩, p4⟩
    have fr : ∀ k, (1 ≤ k ∧ k ≤ 10) ∨ k = 13 ∨ k = 37 ∨ k = 38 ∨ 40 ≤ k → M1 k = M k := fun k hk => p4 k (by omega)
    have x1 : RwP M1 1 r.1 r.2 := x.1.keep (p4 1 (by omega)) (p4 2 (by omega))
    rw [size_t x1, Option.bind_some, packed_t (g := fun i => r.2 (og r.2 r.1 L i)) (by omega) hn p1 hL (by omega) (Nat.le_refl _) (fun i hi => ⟨(p2 L (by omega) i hi).1, ho.2 _ (og_lt r.2 r.1 L i hi)⟩), Option.bind_some]
    exact ⟨hV, fr⟩
  · unfold f_X7_bits
    rw [in_t (by omega) (by omega) (by omega), Option.bind_some, if_neg (by decide)]
    refine Ok.bindI (lays_t (by omega) x.1 ho) ?_
    rintro M1 ⟨⟨p2, p3⟩, p4⟩
    have fr : M1 40 4 = M 40 4 ∧ M1 40 6 = M 40 6 ∧ ∀ k, k < 40 ∨ k = 41 ∨ k = 42 ∨ k = 45 → M1 k = M k := ⟨by rw [p4 40 (by omega) (by omega)], by rw [p4 40 (by omega) (by omega)], fun k hk => p4 k (by omega) (by omega)⟩
    have x1 : SqP (M1 41) 0 r := by
      rw [p4 41 (by omega) (by omega)]
      exact x.1
    have e9 : Int32.toNatClampNeg (nI 0) = 0 := nI_clamp (by omega)
    have ei : nI r.1 - nI 1 = nI r.1 + (-1 : Int32) := by
      rw [Int32.sub_eq_add_neg]
      rfl
    rw [if_pos (in0 (by omega)), e9, x1.1, ei]
    refine Ok.lpN (m0 := r.1) (fun v z => v ≤ r.1 ∧ z.1 = Int64.ofNat (pkF (btL r.2 (og r.2 r.1 L) L) (r.1 - v) v) ∧ z.2 = nI v + (-1 : Int32)) ?_ ?_ (by omega)
    · intro v z hz
      obtain ⟨z1, z2⟩ := z
      obtain ⟨hv, h1, h2⟩ := hz
      dsimp only at h1 h2 ⊢
      rcases Nat.eq_zero_or_pos v with v0 | v0
      · subst v0
        rw [if_pos (show z2 < 0 by rw [h2]; decide)]
        have e5 := pkLF_eq (btL r.2 (og r.2 r.1 L) L) 0 r.1 0
        rw [show pkL (btL r.2 (og r.2 r.1 L) L) 0 0 = 0 from rfl, Nat.pow_zero, Nat.one_mul, Nat.zero_add, Nat.zero_add, Nat.zero_add] at e5
        rw [Nat.sub_zero, e5, hV] at h1
        exact ⟨h1, fr⟩
      · obtain ⟨w, rfl⟩ : ∃ w, v = w + 1 := ⟨v - 1, by omega⟩
        have e2 : z2 = nI w := by
          rw [h2, nI_m1 (by omega)]
          rfl
        clear h2
        subst e2
        have em : r.1 - w = (r.1 - (w + 1)) + 1 := by omega
        have ep : pkF (btL r.2 (og r.2 r.1 L) L) (r.1 - w) w = btL r.2 (og r.2 r.1 L) L w + 2 * pkF (btL r.2 (og r.2 r.1 L) L) (r.1 - (w + 1)) (w + 1) := by
          rw [em]
          rfl
        rw [if_neg (show ¬ nI w < 0 by rw [nI_lt0 (by omega)]; exact id), bit7_t x1 ho hL (by omega) (p2 L (by omega) w (by omega)) (og_lt r.2 r.1 L w (by omega)), Option.bind_some]
        refine Ok.inlI ⟨w, by omega, by omega, ?_, rfl⟩
        dsimp only
        rw [h1, ep]
        exact l_dbl (hb2 w)
    · refine ⟨Nat.le_refl _, ?_, rfl⟩
      rw [Nat.sub_self]
      rfl
