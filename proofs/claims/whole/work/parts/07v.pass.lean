theorem bit7_t {M : Mm} {L i : Nat} {r : Rw} {o : Nat → Nat} (h : SqP (M 41) 0 r) (ho : okR r) (hL : L < 4) (hi : i < r.1) (e : M 46 (60 * L + i) = nI (o i)) (hoi : o i < r.1) : f_X7_bit (nI L) (nI i) M = some (nI (r.2 (o i) / 2 ^ (3 - L) % 2)) := by
  have hn := ho.1
  have e1 : nI 60 * nI L + nI i = nI (60 * L + i) := by simp (disch := omega) only [nI_leI, nI_ltI, nI_eq, nI_add, nI_clamp, pk_sub, pk_mul, nI_m1, nI_le0, nI_lt0, nI_0le, nI_0lt, nI_z, inb_nI, decide_eq_true_eq]
  have e2 : Int32.toNatClampNeg (nI (60 * L + i)) = 60 * L + i := nI_clamp (by omega)
  have e3 : nI 1 + nI (o i) = nI (1 + o i) := nI_add _ _
  have e4 : Int32.toNatClampNeg (nI (1 + o i)) = 1 + o i := nI_clamp (by omega)
  unfold f_X7_bit
  simp only [e1, e2, e, e3, e4, h.el hoi]
  rw [if_pos (by simp (disch := omega) only [nI_leI, nI_ltI, nI_eq, nI_add, nI_clamp, pk_sub, pk_mul, nI_m1, nI_le0, nI_lt0, nI_0le, nI_0lt, nI_z, inb_nI, decide_eq_true_eq]; omega), if_pos (by simp (disch := omega) only [nI_leI, nI_ltI, nI_eq, nI_add, nI_clamp, pk_sub, pk_mul, nI_m1, nI_le0, nI_lt0, nI_0le, nI_0lt, nI_z, inb_nI, decide_eq_true_eq]; omega), bit_t (ho.2 _ hoi) hL]
theorem pass_t {ρ : Type} {g : Int32 → Mm → ρ} {P : ρ → Prop} {F : Nat} {M : Mm} {L v s : Nat} {r : Rw} {o nx b : Nat → Nat} (hF : 100 ≤ F) (h : SqP (M 41) 0 r) (ho : okR r) (hL : L < 4) (hv : v < 2)
    (hb : ∀ i, i < r.1 → b i = r.2 (o i) / 2 ^ (3 - L) % 2) (hoi : ∀ i, i < r.1 → o i < r.1) (hs : s + nb b v r.1 ≤ r.1)
    (h1 : ∀ i, i < r.1 → M 46 (60 * L + i) = nI (o i))
    (h2 : ∀ u, u < s → M 46 (60 * (L + 1) + u) = nI (nx u))
    (hP : ∀ M', (∀ u, u < s + nb b v r.1 → M' 46 (60 * (L + 1) + u) = nI (psN b o v s r.1 nx u)) →
      (∀ j, j < r.1 → b j = v → M' 47 (60 * L + j) = nI (s + nb b v j)) → (∀ j, b j ≠ v → M' 47 (60 * L + j) = M 47 (60 * L + j)) →
      (∀ w, w < 60 * (L + 1) → M' 46 w = M 46 w) → (∀ w, w < 60 * L → M' 47 w = M 47 w) → (∀ k, k ≠ 46 → k ≠ 47 → M' k = M k) → P (g (nI (s + nb b v r.1)) M')) :
    Ok (lpf (fun z5 : Int32 × Int32 × Mm => if inb (nI 0) 61 = true then if (z5.2.2 41 (Int32.toNatClampNeg (nI 0))) ≤ z5.2.1 then (some (.inr (g z5.1 z5.2.2))) else ((f_X7_bit (nI L) z5.2.1 z5.2.2).bind fun r7 => if r7 = (nI v) then (if inb (((nI 60) * (nI L)) + z5.2.1) 300 = true then if inb (((nI 60) * (nI L)) + z5.2.1) 300 = true then if inb ((((nI 60) * (nI L)) + (nI 60)) + z5.1) 300 = true then some (.inl ((z5.1 + (nI 1)), (z5.2.1 + (nI 1)), (up (up z5.2.2 47 (Int32.toNatClampNeg (((nI 60) * (nI L)) + z5.2.1)) z5.1) 46 (Int32.toNatClampNeg ((((nI 60) * (nI L)) + (nI 60)) + z5.1)) ((up z5.2.2 47 (Int32.toNatClampNeg (((nI 60) * (nI L)) + z5.2.1)) z5.1) 46 (Int32.toNatClampNeg (((nI 60) * (nI L)) + z5.2.1)))))) else none else none else none) else (some (.inl (z5.1, (z5.2.1 + (nI 1)), z5.2.2)))) else none) F (nI s, nI 0, M)) P := by
  have hn := ho.1
  refine Ok.lpN (m0 := r.1) (fun m z => ∃ i, i + m = r.1 ∧ z.1 = nI (s + nb b v i) ∧ z.2.1 = nI i ∧
      (∀ u, u < s + nb b v i → z.2.2 46 (60 * (L + 1) + u) = nI (psN b o v s i nx u)) ∧
      (∀ j, j < i → b j = v → z.2.2 47 (60 * L + j) = nI (s + nb b v j)) ∧ (∀ j, (i ≤ j ∨ b j ≠ v) → z.2.2 47 (60 * L + j) = M 47 (60 * L + j)) ∧
      (∀ w, w < 60 * (L + 1) → z.2.2 46 w = M 46 w) ∧ (∀ w, w < 60 * L → z.2.2 47 w = M 47 w) ∧ ∀ k, k ≠ 46 → k ≠ 47 → z.2.2 k = M k) ?_ ?_ (by omega)
  · intro m z hz
    obtain ⟨z1, z2, M1⟩ := z
    obtain ⟨i, hi, g1, g2, g3, g4, g5, g6, g7, g8⟩ := hz
    dsimp only at g1 g2 g3 g4 g5 g6 g7 g8 ⊢
    subst g1 g2
    have x1 : SqP (M1 41) 0 r := by
      rw [g8 41 (by omega) (by omega)]
      exact h
    have hbn := nb_le b v i
    have e9 : Int32.toNatClampNeg (nI 0) = 0 := nI_clamp (by omega)
    rw [if_pos (in0 (by omega))]
    simp only [e9, x1.1]
    by_cases hd : r.1 ≤ i
    · rw [if_pos (by simp (disch := omega) only [nI_leI, nI_ltI, nI_eq, nI_add, nI_clamp, pk_sub, pk_mul, nI_m1, nI_le0, nI_lt0, nI_0le, nI_0lt, nI_z, inb_nI, decide_eq_true_eq]; omega)]
      have e2 : r.1 = i := by omega
      have hh := hP M1
      rw [e2] at hh
      exact hh g3 g4 (fun j hj => g5 j (Or.inr hj)) g6 g7 g8
    · have hlt : i < r.1 := by omega
      have c1 : M1 46 (60 * L + i) = nI (o i) := by
        rw [g6 _ (by omega)]
        exact h1 i hlt
      have hbi := hb i hlt
      have hb2 : b i < 2 := by
        rw [hbi]
        exact Nat.mod_lt _ (by omega)
      have en : nb b v (i + 1) = nb b v i + (if b i = v then 1 else 0) := rfl
      have ep : psN b o v s (i + 1) nx = if b i = v then (fun u => if u = s + nb b v i then o i else psN b o v s i nx u) else psN b o v s i nx := rfl
      rw [if_neg (by simp (disch := omega) only [nI_leI, nI_ltI, nI_eq, nI_add, nI_clamp, pk_sub, pk_mul, nI_m1, nI_le0, nI_lt0, nI_0le, nI_0lt, nI_z, inb_nI, decide_eq_true_eq]; omega), bit7_t x1 ho hL hlt c1 (hoi i hlt), Option.bind_some, ← hbi]
      by_cases hq : b i = v
      · rw [if_pos hq] at en ep
        have hbl := nb_lt hlt hq
        have e1 : nI 60 * nI L + nI i = nI (60 * L + i) := by simp (disch := omega) only [nI_leI, nI_ltI, nI_eq, nI_add, nI_clamp, pk_sub, pk_mul, nI_m1, nI_le0, nI_lt0, nI_0le, nI_0lt, nI_z, inb_nI, decide_eq_true_eq]
        have e2 : Int32.toNatClampNeg (nI (60 * L + i)) = 60 * L + i := nI_clamp (by omega)
        have e3 : nI 60 * nI L + nI 60 + nI (s + nb b v i) = nI (60 * (L + 1) + (s + nb b v i)) := by
          simp (disch := omega) only [nI_leI, nI_ltI, nI_eq, nI_add, nI_clamp, pk_sub, pk_mul, nI_m1, nI_le0, nI_lt0, nI_0le, nI_0lt, nI_z, inb_nI, decide_eq_true_eq]
          rfl
        have e4 : Int32.toNatClampNeg (nI (60 * (L + 1) + (s + nb b v i))) = 60 * (L + 1) + (s + nb b v i) := nI_clamp (by omega)
        have k1 : up M1 47 (60 * L + i) (nI (s + nb b v i)) 46 (60 * L + i) = nI (o i) := c1
        rw [if_pos (by rw [hq])]
        simp only [e1, e2, e3, e4, k1]
        rw [if_pos (by simp (disch := omega) only [nI_leI, nI_ltI, nI_eq, nI_add, nI_clamp, pk_sub, pk_mul, nI_m1, nI_le0, nI_lt0, nI_0le, nI_0lt, nI_z, inb_nI, decide_eq_true_eq]; omega), if_pos (by simp (disch := omega) only [nI_leI, nI_ltI, nI_eq, nI_add, nI_clamp, pk_sub, pk_mul, nI_m1, nI_le0, nI_lt0, nI_0le, nI_0lt, nI_z, inb_nI, decide_eq_true_eq]; omega), if_pos (by simp (disch := omega) only [nI_leI, nI_ltI, nI_eq, nI_add, nI_clamp, pk_sub, pk_mul, nI_m1, nI_le0, nI_lt0, nI_0le, nI_0lt, nI_z, inb_nI, decide_eq_true_eq]; omega)]
        refine Ok.inlI ⟨m - 1, by omega, i + 1, by omega, by rw [en, nI_add]; rfl, nI_add i 1, ?_, ?_, ?_, ?_, ?_, ?_⟩
        · rw [en, ep]
          intro u hu
          show up (up M1 47 (60 * L + i) (nI (s + nb b v i))) 46 (60 * (L + 1) + (s + nb b v i)) (nI (o i)) 46 (60 * (L + 1) + u) = nI (if u = s + nb b v i then o i else psN b o v s i nx u)
          by_cases hup : u = s + nb b v i
          · rw [if_pos hup, hup, up_ss]
          · rw [if_neg hup, up_sn (by omega)]
            exact g3 u (by omega)
        · intro j hj hbj
          show up M1 47 (60 * L + i) (nI (s + nb b v i)) 47 (60 * L + j) = _
          by_cases hji : j = i
          · rw [hji, up_ss]
          · rw [up_sn (by omega)]
            exact g4 j (by omega) hbj
        · intro j hj
          show up M1 47 (60 * L + i) (nI (s + nb b v i)) 47 (60 * L + j) = _
          have hji : j ≠ i := by
            intro h
            subst h
            rcases hj with h | h
            · omega
            · exact h hq
          rw [up_sn (by omega)]
          exact g5 j (hj.imp (fun h => by omega) id)
        · intro w hw
          show up (up M1 47 (60 * L + i) (nI (s + nb b v i))) 46 (60 * (L + 1) + (s + nb b v i)) (nI (o i)) 46 w = _
          rw [up_sn (by omega)]
          exact g6 w hw
        · intro w hw
          show up M1 47 (60 * L + i) (nI (s + nb b v i)) 47 w = _
          rw [up_sn (by omega)]
          exact g7 w hw
        · intro k q1 q2
          show up (up M1 47 (60 * L + i) (nI (s + nb b v i))) 46 (60 * (L + 1) + (s + nb b v i)) (nI (o i)) k = _
          rw [up_n q1, up_n q2]
          exact g8 k q1 q2
      · rw [if_neg hq] at en ep
        rw [if_neg (by simp (disch := omega) only [nI_leI, nI_ltI, nI_eq, nI_add, nI_clamp, pk_sub, pk_mul, nI_m1, nI_le0, nI_lt0, nI_0le, nI_0lt, nI_z, inb_nI, decide_eq_true_eq]; omega)]
        refine Ok.inlI ⟨m - 1, by omega, i + 1, by omega, by rw [en]; rfl, nI_add i 1, ?_, ?_, ?_, g6, g7, g8⟩
        · rw [en, ep]
          exact g3
        · intro j hj hbj
          by_cases hji : j = i
          · exact absurd (hji ▸ hbj) hq
          · exact g4 j (by omega) hbj
        · intro j hj
          by_cases hji : j = i
          · exact g5 j (Or.inl (by omega))
          · exact g5 j (hj.imp (fun h => by omega) id)
  · exact ⟨0, by omega, rfl, rfl, h2, fun j hj => absurd hj (Nat.not_lt_zero j), fun _ _ => rfl, fun _ _ => rfl, fun _ _ => rfl, fun _ _ _ => rfl⟩
