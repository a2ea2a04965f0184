def btL (f o : Nat → Nat) (L : Nat) : Nat → Nat := fun i => f (o i) / 2 ^ (3 - L) % 2
def nxO (f o : Nat → Nat) (L n : Nat) : Nat → Nat := psN (btL f o L) o 1 (nb (btL f o L) 0 n) n (psN (btL f o L) o 0 0 n (fun _ => 0))
def og (f : Nat → Nat) (n : Nat) : Nat → Nat → Nat
  | 0 => fun i => i
  | L + 1 => nxO f (og f n L) L n
def glo (f : Nat → Nat) (n L i : Nat) : Nat := if btL f (og f n L) L i = 0 then nb (btL f (og f n L) L) 0 i else nb (btL f (og f n L) L) 0 n + nb (btL f (og f n L) L) 1 i
theorem btL_lt (f o : Nat → Nat) (L i : Nat) : btL f o L i < 2 := Nat.mod_lt _ (by omega)
theorem og_lt (f : Nat → Nat) (n : Nat) : ∀ L i, i < n → og f n L i < n
  | 0, i, h => h
  | L + 1, i, h => by
    show psN _ _ 1 _ n (psN _ _ 0 0 n (fun _ => 0)) i < n
    refine psN_lt (og_lt f n L) ?_ n (Nat.le_refl n)
    exact psN_lt (og_lt f n L) (by omega) n (Nat.le_refl n)
theorem glo_lt {f : Nat → Nat} {n L i : Nat} (h : i < n) : glo f n L i < n := by
  have h1 := nb_01 (b := btL f (og f n L) L) n (fun j _ => btL_lt _ _ _ _)
  have h2 := btL_lt f (og f n L) L i
  unfold glo
  by_cases e : btL f (og f n L) L i = 0
  · rw [if_pos e]
    have := nb_lt h e
    omega
  · rw [if_neg e]
    have := nb_lt (v := 1) h (show btL f (og f n L) L i = 1 by omega)
    omega
def LvC (M : Mm) (r : Rw) (K : Nat) : Prop := M 15 3 = nI r.1 ∧ (∀ L, L ≤ K → ∀ i, i < r.1 → M (19 + L) i = nI (r.2 (og r.2 r.1 L i)) ∧ M (24 + L) i = nI (og r.2 r.1 L i)) ∧ ∀ L, L < K → ∀ i, i < r.1 → M (29 + L) i = nI (glo r.2 r.1 L i)
theorem build_t {F : Nat} {M : Mm} {r : Rw} (hF : 100 ≤ F) (h : RwP M 1 r.1 r.2) (ho : okR r) : Ok (f_X1_build F 1 M) (fun M' => LvC M' r 4 ∧ ∀ k, k < 15 ∨ 33 ≤ k → M' k = M k) := by
  have hn := ho.1
  have e9 : Int32.toNatClampNeg (nI 0) = 0 := nI_clamp (by omega)
  unfold f_X1_build
  rw [size_t h, Option.bind_some]
  refine Ok.lpN (m0 := r.1) (fun m z => ∃ i, i + m = r.1 ∧ z.1 = nI i ∧ z.2 15 3 = nI r.1 ∧ (∀ u, u < i → z.2 19 u = nI (r.2 u) ∧ z.2 24 u = nI u) ∧ ∀ k, k < 15 ∨ 33 ≤ k → z.2 k = M k) ?_ ?_ (by omega)
  · intro m z hz
    obtain ⟨z1, M1⟩ := z
    obtain ⟨i, hi, g1, g2, g3, g4⟩ := hz
    dsimp only at g1 g2 g3 g4 ⊢
    subst g1
    simp only [g2]
    by_cases hd : r.1 ≤ i
    · rw [if_pos (by simp (disch := omega) only [nI_leI, nI_ltI, nI_eq, nI_add, nI_clamp, pk_sub, pk_mul, nI_m1, nI_le0, nI_lt0, nI_0le, nI_0lt, nI_z, inb_nI, decide_eq_true_eq]; omega)]
      refine Ok.lpN (m0 := 4) (fun m z => ∃ L, L + m = 4 ∧ z.1 = nI L ∧ LvC z.2 r L ∧ ∀ k, k < 15 ∨ 33 ≤ k → z.2 k = M k) ?_ ?_ (by omega)
      · intro m' z hz
        obtain ⟨z1, M2⟩ := z
        obtain ⟨L, hL, q1, q2, q3⟩ := hz
        dsimp only at q1 q2 q3 ⊢
        subst q1
        by_cases hd2 : 4 ≤ L
        · rw [if_pos (by simp (disch := omega) only [nI_leI, nI_ltI, nI_eq, nI_add, nI_clamp, pk_sub, pk_mul, nI_m1, nI_le0, nI_lt0, nI_0le, nI_0lt, nI_z, inb_nI, decide_eq_true_eq]; omega)]
          have e : L = 4 := by omega
          subst e
          exact ⟨q2, q3⟩
        · obtain ⟨p1, p2, p3⟩ := q2
          have h01 := nb_01 (b := btL r.2 (og r.2 r.1 L) L) r.1 (fun j _ => btL_lt _ _ _ _)
          have hsy : ∀ i, i < r.1 → r.2 (og r.2 r.1 L i) < 16 := fun i hi => ho.2 _ (og_lt r.2 r.1 L i hi)
          rw [if_neg (by simp (disch := omega) only [nI_leI, nI_ltI, nI_eq, nI_add, nI_clamp, pk_sub, pk_mul, nI_m1, nI_le0, nI_lt0, nI_0le, nI_0lt, nI_z, inb_nI, decide_eq_true_eq]; omega)]
          refine Ok.bindI (move_t (L := L) (v := 0) (s := 0) (n := r.1) (f := r.2) (o := og r.2 r.1 L) (nx := fun _ => 0) (b := btL r.2 (og r.2 r.1 L) L) hF hn p1 (by omega) (by omega) (fun _ _ => rfl) hsy (by omega) (p2 L (Nat.le_refl L)) (fun u hu => absurd hu (Nat.not_lt_zero u))) ?_
          rintro ⟨w1, M3⟩ ⟨a1, a2, a3, a4, a5⟩
          dsimp only at a1 a2 a3 a4 a5 ⊢
          subst a1
          have hs3 : M3 15 3 = nI r.1 := by
            rw [a5 15 (by omega) (by omega) (by omega)]
            exact p1
          refine Ok.bindI (move_t (L := L) (v := 1) (s := 0 + nb (btL r.2 (og r.2 r.1 L) L) 0 r.1) (n := r.1) (f := r.2) (o := og r.2 r.1 L) (nx := psN (btL r.2 (og r.2 r.1 L) L) (og r.2 r.1 L) 0 0 r.1 (fun _ => 0)) (b := btL r.2 (og r.2 r.1 L) L) hF hn hs3 (by omega) (by omega) (fun _ _ => rfl) hsy (by omega) (fun i hi => ?_) a2) ?_
          · rw [a5 (19 + L) (by omega) (by omega) (by omega), a5 (24 + L) (by omega) (by omega) (by omega)]
            exact p2 L (Nat.le_refl L) i hi
          rintro ⟨w1, M4⟩ ⟨b1, b2, b3, b4, b5⟩
          dsimp only at b1 b2 b3 b4 b5 ⊢
          have ens : 0 + nb (btL r.2 (og r.2 r.1 L) L) 0 r.1 = nb (btL r.2 (og r.2 r.1 L) L) 0 r.1 := Nat.zero_add _
          rw [ens] at b2 b3
          refine Ok.inlI ⟨m' - 1, by omega, L + 1, by omega, nI_add L 1, ⟨?_, fun L' hL' i hi => ?_, fun L' hL' i hi => ?_⟩, fun k hk => ?_⟩
          · show M4 15 3 = _
            rw [b5 15 (by omega) (by omega) (by omega)]
            exact hs3
          · show M4 (19 + L') i = _ ∧ M4 (24 + L') i = _
            by_cases e : L' = L + 1
            · subst e
              exact b2 i (by omega)
            · rw [b5 (19 + L') (by omega) (by omega) (by omega), b5 (24 + L') (by omega) (by omega) (by omega), a5 (19 + L') (by omega) (by omega) (by omega), a5 (24 + L') (by omega) (by omega) (by omega)]
              exact p2 L' (by omega) i hi
          · show M4 (29 + L') i = _
            by_cases e : L' = L
            · subst e
              have hb2 := btL_lt r.2 (og r.2 r.1 L') L' i
              unfold glo
              by_cases hq : btL r.2 (og r.2 r.1 L') L' i = 0
              · rw [if_pos hq, b4 i (Or.inr (by omega)), a3 i hi hq, Nat.zero_add]
              · rw [if_neg hq, b3 i hi (by omega)]
            · rw [b5 (29 + L') (by omega) (by omega) (by omega), a5 (29 + L') (by omega) (by omega) (by omega)]
              exact p3 L' (by omega) i hi
          · show M4 k = _
            rw [b5 k (by omega) (by omega) (by omega), a5 k (by omega) (by omega) (by omega)]
            exact q3 k hk
      · refine ⟨0, by omega, rfl, ⟨g2, fun L hL i hi => ?_, fun L hL => absurd hL (Nat.not_lt_zero L)⟩, g4⟩
        have e : L = 0 := by omega
        subst e
        exact g3 i (by omega)
    · have hr1 : RwP M1 1 r.1 r.2 := h.keep (g4 1 (by omega)) (g4 2 (by omega))
      rw [if_neg (by simp (disch := omega) only [nI_leI, nI_ltI, nI_eq, nI_add, nI_clamp, pk_sub, pk_mul, nI_m1, nI_le0, nI_lt0, nI_0le, nI_0lt, nI_z, inb_nI, decide_eq_true_eq]; omega), if_pos (in0 (by omega)), at_t hr1 hn (by omega), Option.bind_some, if_pos (by simp (disch := omega) only [nI_leI, nI_ltI, nI_eq, nI_add, nI_clamp, pk_sub, pk_mul, nI_m1, nI_le0, nI_lt0, nI_0le, nI_0lt, nI_z, inb_nI, decide_eq_true_eq]; omega), if_pos (in0 (by omega)), if_pos (by simp (disch := omega) only [nI_leI, nI_ltI, nI_eq, nI_add, nI_clamp, pk_sub, pk_mul, nI_m1, nI_le0, nI_lt0, nI_0le, nI_0lt, nI_z, inb_nI, decide_eq_true_eq]; omega), e9, nI_clamp (by omega)]
      refine Ok.inlI ⟨m - 1, by omega, i + 1, by omega, nI_add i 1, ?_, fun u hu => ?_, fun k hk => ?_⟩
      · exact g2
      · show up M1 19 i (nI (r.2 i)) 19 u = nI (r.2 u) ∧ up (up M1 19 i (nI (r.2 i))) 24 i (nI i) 24 u = nI u
        by_cases e : u = i
        · rw [e, up_ss, up_ss]
          exact ⟨rfl, rfl⟩
        · rw [up_sn e, up_sn e]
          exact g3 u (by omega)
      · show up (up M1 19 i (nI (r.2 i))) 24 i (nI i) k = M k
        rw [up_n (by omega), up_n (by omega)]
        exact g4 k hk
  · exact ⟨0, by omega, rfl, rfl, fun u hu => absurd hu (Nat.not_lt_zero u), fun k hk => up_n (M := M) (k := 15) (i := 3) (x := nI r.1) (by omega)⟩
