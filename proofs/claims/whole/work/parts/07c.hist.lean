abbrev Rw : Type := Nat × (Nat → Nat)
def okR (r : Rw) : Prop := r.1 ≤ 60 ∧ ∀ i, i < r.1 → r.2 i < 16
/-- the class's history: h states, the oldest first -/
def HsC (M : Mm) (h : Nat) (H : Nat → Rw) : Prop := M 13 1 = nI h ∧ h ≤ 4 ∧ ∀ j, j < h → RwP M (3 + 2 * j) (H j).1 (H j).2 ∧ okR (H j)
def pshN (h : Nat) : Nat := if h < 4 then h + 1 else 4
def pshH (h : Nat) (H : Nat → Rw) (r : Rw) : Nat → Rw := fun j => if h < 4 then (if j = h then r else H j) else (if j < 3 then H (j + 1) else r)
theorem HsC.keep {M M' : Mm} {h : Nat} {H : Nat → Rw} (x : HsC M h H) (e : ∀ k, (3 ≤ k ∧ k ≤ 10) ∨ k = 13 → M' k = M k) : HsC M' h H := by
  refine ⟨by rw [e 13 (Or.inr rfl)]; exact x.1, x.2.1, fun j hj => ⟨?_, (x.2.2 j hj).2⟩⟩
  have h4 := x.2.1
  exact (x.2.2 j hj).1.keep (e _ (Or.inl (by omega))) (e _ (Or.inl (by omega)))
theorem dropOldest_t {F : Nat} {M : Mm} {H : Nat → Rw} (hF : 100 ≤ F) (x : HsC M 4 H) : Ok (f_X0_dropOldest F M) (fun M' => HsC M' 3 (fun j => H (j + 1)) ∧ ∀ k, (k < 3 ∨ 10 < k) → k ≠ 13 → M' k = M k) := by
  unfold f_X0_dropOldest
  refine Ok.lpN (m0 := 3) (fun m z => ∃ i, i + m = 4 ∧ 1 ≤ i ∧ z.1 = nI i ∧ (∀ j, j < 4 → RwP z.2 (3 + 2 * j) (if j + 1 < i then H (j + 1) else H j).1 (if j + 1 < i then H (j + 1) else H j).2) ∧ ∀ k, (k < 3 ∨ 10 < k) → z.2 k = M k) ?_ ?_ (by omega)
  · rintro m ⟨a, M1⟩ ⟨i, hi, h1i, h1, h2, h3⟩
    dsimp only at h1 h2 h3 ⊢
    subst h1
    simp (disch := omega) only [nI_leI, nI_ltI, nI_eq, nI_add, nI_clamp, pk_sub, pk_mul, nI_m1, nI_le0, nI_lt0, nI_0le, nI_0lt, nI_z, inb_nI, decide_eq_true_eq]
    by_cases hc : 4 ≤ i
    · rw [if_pos hc]
      refine ⟨⟨up_ss, by omega, fun j hj => ⟨?_, (x.2.2 (j + 1) (by omega)).2⟩⟩, fun k g1 g2 => ?_⟩
      · have h := h2 j (by omega)
        rw [if_pos (by omega)] at h
        exact h.keep (up_n (by omega)) (up_n (by omega))
      · show up M1 13 1 _ k = _
        rw [up_n g2]
        exact h3 k g1
    · rw [if_neg hc, if_pos (by omega), if_pos (by omega)]
      have h := h2 i (by omega)
      rw [if_neg (by omega)] at h
      refine Ok.bindI (copyFrom_t hF h (x.2.2 i (by omega)).2.1 (by omega) (by omega) (by omega)) ?_
      rintro M2 ⟨g1, g2⟩
      refine ⟨m - 1, by omega, i + 1, by omega, by omega, rfl, fun j hj => ?_, fun k hk => ?_⟩
      · show RwP M2 _ _ _
        by_cases hj2 : j + 1 = i
        · rw [if_pos (by omega)]
          rw [show i - 1 = j by omega] at g1
          rw [hj2]
          exact g1
        · have h9 := h2 j hj
          have e9 : (if j + 1 < i + 1 then H (j + 1) else H j) = (if j + 1 < i then H (j + 1) else H j) := by
            by_cases hl : j + 1 < i
            · rw [if_pos hl, if_pos (by omega)]
            · rw [if_neg hl, if_neg (by omega)]
          rw [e9]
          exact h9.keep (g2 _ (by omega) (by omega)) (g2 _ (by omega) (by omega))
      · show M2 k = _
        rw [g2 k (by omega) (by omega)]
        exact h3 k hk
  · refine ⟨1, by omega, by omega, rfl, fun j hj => ?_, fun k _ => rfl⟩
    rw [if_neg (by omega)]
    exact (x.2.2 j hj).1
theorem remember_t {F : Nat} {M : Mm} {h : Nat} {H : Nat → Rw} {k0 : Nat} {r : Rw} (hF : 100 ≤ F) (x : HsC M h H) (hr : RwP M k0 r.1 r.2) (ho : okR r) (hk : k0 = 1 ∨ k0 = 11) : Ok (f_X0_remember F k0 M) (fun M' => HsC M' (pshN h) (pshH h H r) ∧ ∀ k, (k < 3 ∨ 10 < k) → k ≠ 13 → M' k = M k) := by
  unfold f_X0_remember
  refine Ok.jnI ?_
  rw [x.1]
  have h4 := x.2.1
  -- with room for one more
  have key : ∀ (M1 : Mm) (g : Nat) (G : Nat → Rw), g < 4 → HsC M1 g G → RwP M1 k0 r.1 r.2 → (∀ k, (k < 3 ∨ 10 < k) → k ≠ 13 → M1 k = M k) → Ok (if inb (M1 13 1) 4 = true then (f_X3_copyFrom F (3 + 2 * (Int32.toNatClampNeg (M1 13 1))) k0 M1).bind fun r5 => some (up r5 13 1 ((r5 13 1) + (nI 1))) else none) (fun M' => HsC M' (g + 1) (fun j => if j = g then r else G j) ∧ ∀ k, (k < 3 ∨ 10 < k) → k ≠ 13 → M' k = M k) := by
    intro M1 g G hg y hr1 hfr
    rw [y.1]
    simp (disch := omega) only [nI_leI, nI_ltI, nI_eq, nI_add, nI_clamp, pk_sub, pk_mul, nI_m1, nI_le0, nI_lt0, nI_0le, nI_0lt, nI_z, inb_nI, decide_eq_true_eq]
    rw [if_pos hg]
    refine Ok.bindI (copyFrom_t hF hr1 ho.1 (by omega) (by omega) (by omega)) ?_
    rintro M2 ⟨g1, g2⟩
    refine ⟨⟨?_, by omega, fun j hj => ?_⟩, fun k a1 a2 => ?_⟩
    · show up M2 13 1 _ 13 1 = _
      rw [up_ss, g2 13 (by omega) (by omega), y.1, nI_add]
    · dsimp only
      by_cases hj2 : j = g
      · subst hj2
        rw [if_pos rfl]
        exact ⟨g1.keep (up_n (by omega)) (up_n (by omega)), ho⟩
      · rw [if_neg hj2]
        exact ⟨((y.2.2 j (by omega)).1.keep (g2 _ (by omega) (by omega)) (g2 _ (by omega) (by omega))).keep (up_n (by omega)) (up_n (by omega)), (y.2.2 j (by omega)).2⟩
    · show up M2 13 1 _ k = _
      rw [up_n a2, g2 k (by omega) (by omega)]
      exact hfr k a1 a2
  simp (disch := omega) only [nI_leI, nI_ltI, nI_eq, nI_add, nI_clamp, pk_sub, pk_mul, nI_m1, nI_le0, nI_lt0, nI_0le, nI_0lt, nI_z, inb_nI, decide_eq_true_eq]
  by_cases hc : h < 4
  · rw [if_pos hc]
    have := key M h H hc x hr (fun k _ _ => rfl)
    refine this.mono ?_
    rintro M' ⟨y1, y2⟩
    have e1 : pshN h = h + 1 := if_pos hc
    have e2 : pshH h H r = fun j => if j = h then r else H j := by
      funext j
      exact if_pos hc
    rw [e1, e2]
    exact ⟨y1, y2⟩
  · rw [if_neg hc]
    have hh : h = 4 := by omega
    subst hh
    refine Ok.bindI (dropOldest_t hF x) ?_
    rintro M1 ⟨y1, y2⟩
    show Ok _ _
    have := key M1 3 (fun j => H (j + 1)) (by omega) y1 (hr.keep (y2 _ (by omega) (by omega)) (y2 _ (by omega) (by omega))) y2
    refine this.mono ?_
    rintro M' ⟨z1, z2⟩
    have e1 : pshN 4 = 4 := rfl
    rw [e1]
    refine ⟨⟨z1.1, z1.2.1, fun j hj => ?_⟩, z2⟩
    have h9 := z1.2.2 j hj
    have e2 : pshH 4 H r j = if j = 3 then r else H (j + 1) := by
      unfold pshH
      rw [if_neg (by omega)]
      by_cases hj3 : j < 3
      · rw [if_pos hj3, if_neg (by omega)]
      · rw [if_neg hj3, if_pos (by omega)]
    rw [e2]
    exact h9
theorem restore_t {F : Nat} {M : Mm} {h : Nat} {H : Nat → Rw} (hF : 100 ≤ F) (x : HsC M h H) (h0 : 0 < h) : Ok (f_X0_restore F 1 M) (fun M' => HsC M' (h - 1) H ∧ RwP M' 1 (H (h - 1)).1 (H (h - 1)).2 ∧ ∀ k, k ≠ 1 → k ≠ 2 → k ≠ 13 → M' k = M k) := by
  unfold f_X0_restore
  have h4 := x.2.1
  have e : up M 13 1 (nI (h - 1)) 13 1 = nI (h - 1) := up_ss
  simp (disch := omega) only [nI_leI, nI_ltI, nI_eq, nI_add, nI_clamp, pk_sub, pk_mul, nI_m1, nI_le0, nI_lt0, nI_0le, nI_0lt, nI_z, inb_nI, decide_eq_true_eq, x.1, e]
  rw [if_neg (by omega), if_pos (by omega)]
  have g := (x.2.2 (h - 1) (by omega))
  refine Ok.bindI (copyFrom_t hF (g.1.keep (M' := up M 13 1 (nI (h - 1))) (up_n (by omega)) (up_n (by omega))) g.2.1 (by omega) (by omega) (by omega)) ?_
  rintro M2 ⟨g1, g2⟩
  refine ⟨⟨?_, by omega, fun j hj => ⟨?_, (x.2.2 j (by omega)).2⟩⟩, g1, fun k a1 a2 a3 => ?_⟩
  · rw [g2 13 (by omega) (by omega)]
    exact e
  · exact ((x.2.2 j (by omega)).1.keep (M' := up M 13 1 (nI (h - 1))) (up_n (by omega)) (up_n (by omega))).keep (g2 _ (by omega) (by omega)) (g2 _ (by omega) (by omega))
  · rw [g2 k a1 a2, up_n a3]
