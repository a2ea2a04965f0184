theorem nI_nm1 {n : Nat} (h : n < 2 ^ 31) : ¬ nI n = (-1 : Int32) := by
  intro e
  have h1 : (0 : Int32) ≤ nI n := by
    rw [show (0 : Int32) = nI 0 from rfl, nI_leI (by omega) h]
    omega
  rw [e] at h1
  exact absurd h1 (by decide)
theorem wrJ_le (f : Nat → Nat) (p : Nat) : ∀ m, wrJ f p m ≤ m
  | 0 => Nat.le_refl 0
  | m + 1 => by
    have := wrJ_le f p m
    unfold wrJ
    split <;> omega
theorem wr_le (f : Nat → Nat) (a b : Nat) (hb : b ≤ 60) : ∀ m, wr f a b m ≤ m * 60
  | 0 => Nat.zero_le _
  | m + 1 => by
    have h1 := wr_le f a b hb m
    have h2 := wrJ_le f (a + m) (b - (a + m) - 1)
    unfold wr
    omega
theorem cnt_pos {f : Nat → Nat} {a : Nat} : ∀ {m i}, i < m → 0 < cnt f a m (f (a + i))
  | 0, i, h => absurd h (Nat.not_lt_zero i)
  | m + 1, i, h => by
    show 0 < cnt f a m (f (a + i)) + (if f (a + m) = f (a + i) then 1 else 0)
    by_cases e : i = m
    · subst e
      rw [if_pos rfl]
      omega
    · have := cnt_pos (f := f) (a := a) (m := m) (i := i) (by omega)
      omega
theorem op_spanOf {F : Nat} {r : Rw} {h : Nat} {H : Nat → Rw} {t : Rw} (hF : 300 ≤ F) (ho : okR r) (ot : okT t) (a b i : Int32) : Op (f_X6_spanOf F a b i) (f_X7_spanOf F a b i) r h H t := by
  have hn := ho.1
  rcases span_cases a b (n := r.1) (by omega) with hs | ⟨a, b, rfl, rfl, hab, hb⟩
  · refine Op.err (-1000001) ho ot (fun M x => ?_) (fun M x => ?_)
    · unfold f_X6_spanOf
      rw [hasSpan_f x.1 hs, Option.bind_some, if_pos (by decide)]
    · unfold f_X7_spanOf
      rw [isSpan_f x.1 hn hs, Option.bind_some, if_pos (by decide)]
  · rcases le_cases i (n := 5) (by omega) with hi | ⟨c, rfl, hc⟩
    · refine Op.err (-1000001) ho ot (fun M x => ?_) (fun M x => ?_)
      · unfold f_X6_spanOf
        rw [hasSpan_t x.1 hn hab hb, Option.bind_some, if_neg (by decide), isAtMost_f hi, Option.bind_some, if_pos (by decide)]
      · unfold f_X7_spanOf
        rw [isSpan_t x.1 hn hab hb, Option.bind_some, if_neg (by decide), in_f0 hi, Option.bind_some, if_pos (by decide)]
    · have hwr := wr_le r.2 a b (by omega) (b - a)
      have hcl := fun v => Nat.le_trans (cnt_le r.2 a v (b - a)) (show b - a ≤ 60 by omega)
      have hmf := mfq_lt16 (cnt r.2 a (b - a)) (v := 16) (by omega)
      have hcm := hcl (mfq (cnt r.2 a (b - a)) 16)
      have hpos : a < b → 0 < cnt r.2 a (b - a) (mfq (cnt r.2 a (b - a)) 16) := by
        intro hlt
        have p1 := cnt_pos (f := r.2) (a := a) (m := b - a) (i := 0) (by omega)
        have p2 := ho.2 (a + 0) (by omega)
        have p3 := mfq_max (cnt r.2 a (b - a)) 16 (r.2 (a + 0)) p2
        omega
      have hemp : ¬ a < b → cnt r.2 a (b - a) (mfq (cnt r.2 a (b - a)) 16) = 0 := by
        intro hlt
        have e : b - a = 0 := by omega
        rw [e]
        rfl
      let v : Int32 := if c = 3 then nI (sm r.2 a (b - a)) else if c = 4 then (if wr r.2 a b (b - a) = 0 then nI 1 else nI 0) else if c = 5 then nI (wr r.2 a b (b - a)) else if c = 0 then nI (unl (cnt r.2 a (b - a)) 16) else if a < b then (if c = 1 then nI (mfq (cnt r.2 a (b - a)) 16) else nI (cnt r.2 a (b - a) (mfq (cnt r.2 a (b - a)) 16))) else -1000004
      have hv : v = if c = 3 then nI (sm r.2 a (b - a)) else if c = 4 then (if wr r.2 a b (b - a) = 0 then nI 1 else nI 0) else if c = 5 then nI (wr r.2 a b (b - a)) else if c = 0 then nI (unl (cnt r.2 a (b - a)) 16) else if a < b then (if c = 1 then nI (mfq (cnt r.2 a (b - a)) 16) else nI (cnt r.2 a (b - a) (mfq (cnt r.2 a (b - a)) 16))) else -1000004 := rfl
      clear_value v
      refine Op.same v ho ot (fun M x => ?_) (fun M x => ?_)
      · unfold f_X6_spanOf
        rw [hasSpan_t x.1 hn hab hb, Option.bind_some, if_neg (by decide), isAtMost_t (by omega) hc, Option.bind_some, if_neg (by decide)]
        by_cases c3 : c = 3
        · rw [if_pos (by simp (disch := omega) only [nI_leI, nI_ltI, nI_eq, nI_add, nI_clamp, pk_sub, pk_mul, nI_m1, nI_le0, nI_lt0, nI_0le, nI_0lt, nI_z, inb_nI, decide_eq_true_eq]; omega), sum_t (by omega) x.1 hn hab hb, Option.bind_some]
          rw [if_pos c3] at hv
          exact ⟨hv.symm, fun _ _ => rfl⟩
        rw [if_neg (by simp (disch := omega) only [nI_leI, nI_ltI, nI_eq, nI_add, nI_clamp, pk_sub, pk_mul, nI_m1, nI_le0, nI_lt0, nI_0le, nI_0lt, nI_z, inb_nI, decide_eq_true_eq]; omega)]
        rw [if_neg c3] at hv
        by_cases c4 : c = 4
        · rw [if_pos (by simp (disch := omega) only [nI_leI, nI_ltI, nI_eq, nI_add, nI_clamp, pk_sub, pk_mul, nI_m1, nI_le0, nI_lt0, nI_0le, nI_0lt, nI_z, inb_nI, decide_eq_true_eq]; omega), wrong_t (by omega) x.1 ho hab hb, Option.bind_some]
          rw [if_pos c4] at hv
          by_cases hw : wr r.2 a b (b - a) = 0
          · rw [if_pos hw] at hv
            rw [if_pos (by simp (disch := omega) only [nI_leI, nI_ltI, nI_eq, nI_add, nI_clamp, pk_sub, pk_mul, nI_m1, nI_le0, nI_lt0, nI_0le, nI_0lt, nI_z, inb_nI, decide_eq_true_eq]; omega)]
            exact ⟨hv.symm, fun _ _ => rfl⟩
          · rw [if_neg hw] at hv
            rw [if_neg (by simp (disch := omega) only [nI_leI, nI_ltI, nI_eq, nI_add, nI_clamp, pk_sub, pk_mul, nI_m1, nI_le0, nI_lt0, nI_0le, nI_0lt, nI_z, inb_nI, decide_eq_true_eq]; omega)]
            exact ⟨hv.symm, fun _ _ => rfl⟩
        rw [if_neg (by simp (disch := omega) only [nI_leI, nI_ltI, nI_eq, nI_add, nI_clamp, pk_sub, pk_mul, nI_m1, nI_le0, nI_lt0, nI_0le, nI_0lt, nI_z, inb_nI, decide_eq_true_eq]; omega)]
        rw [if_neg c4] at hv
        by_cases c5 : c = 5
        · rw [if_pos (by simp (disch := omega) only [nI_leI, nI_ltI, nI_eq, nI_add, nI_clamp, pk_sub, pk_mul, nI_m1, nI_le0, nI_lt0, nI_0le, nI_0lt, nI_z, inb_nI, decide_eq_true_eq]; omega), wrong_t (by omega) x.1 ho hab hb, Option.bind_some]
          rw [if_pos c5] at hv
          exact ⟨hv.symm, fun _ _ => rfl⟩
        rw [if_neg (by simp (disch := omega) only [nI_leI, nI_ltI, nI_eq, nI_add, nI_clamp, pk_sub, pk_mul, nI_m1, nI_le0, nI_lt0, nI_0le, nI_0lt, nI_z, inb_nI, decide_eq_true_eq]; omega)]
        rw [if_neg c5] at hv
        refine Ok.bindI (fill_t (by omega) x.1 ho hab hb (by omega) (by omega)) ?_
        rintro M1 ⟨t1, t2⟩
        have t3 : ∀ k, (1 ≤ k ∧ k ≤ 10) ∨ k = 13 ∨ k = 37 ∨ k = 38 ∨ 40 ≤ k → M1 k = M k := fun k hk => t2 k (by omega)
        by_cases c0 : c = 0
        · rw [if_pos c0] at hv
          rw [if_pos (by simp (disch := omega) only [nI_leI, nI_ltI, nI_eq, nI_add, nI_clamp, pk_sub, pk_mul, nI_m1, nI_le0, nI_lt0, nI_0le, nI_0lt, nI_z, inb_nI, decide_eq_true_eq]; omega), unlike_t (by omega) t1 hcl, Option.bind_some]
          exact ⟨hv.symm, t3⟩
        rw [if_neg (by simp (disch := omega) only [nI_leI, nI_ltI, nI_eq, nI_add, nI_clamp, pk_sub, pk_mul, nI_m1, nI_le0, nI_lt0, nI_0le, nI_0lt, nI_z, inb_nI, decide_eq_true_eq]; omega)]
        rw [if_neg c0] at hv
        rw [mostFrequent_t (by omega) t1 hcl, Option.bind_some]
        by_cases hlt : a < b
        · rw [if_pos hlt] at hv
          have hp := hpos hlt
          have e : mfB (cnt r.2 a (b - a)) 16 = nI (mfq (cnt r.2 a (b - a)) 16) := if_neg (by omega)
          rw [e, if_neg (nI_nm1 (by omega))]
          by_cases c1 : c = 1
          · rw [if_pos c1] at hv
            rw [if_pos (by simp (disch := omega) only [nI_leI, nI_ltI, nI_eq, nI_add, nI_clamp, pk_sub, pk_mul, nI_m1, nI_le0, nI_lt0, nI_0le, nI_0lt, nI_z, inb_nI, decide_eq_true_eq]; omega)]
            exact ⟨hv.symm, t3⟩
          · rw [if_neg c1] at hv
            rw [if_neg (by simp (disch := omega) only [nI_leI, nI_ltI, nI_eq, nI_add, nI_clamp, pk_sub, pk_mul, nI_m1, nI_le0, nI_lt0, nI_0le, nI_0lt, nI_z, inb_nI, decide_eq_true_eq]; omega), times_t t1 hmf, Option.bind_some]
            exact ⟨hv.symm, t3⟩
        · rw [if_neg hlt] at hv
          have hp := hemp hlt
          have e : mfB (cnt r.2 a (b - a)) 16 = -1 := if_pos (by omega)
          rw [e, if_pos rfl]
          exact ⟨hv.symm, t3⟩
      · unfold f_X7_spanOf
        rw [isSpan_t x.1 hn hab hb, Option.bind_some, if_neg (by decide), in_t (by omega) (by omega) hc, Option.bind_some, if_neg (by decide)]
        refine Ok.bindI (counts_t (by omega) x.1 ho hab hb) ?_
        rintro M1 ⟨t1, t2⟩
        have x1 : SqP (M1 41) 0 r := by rw [t2 41 (by omega)]; exact x.1
        by_cases c0 : c = 0
        · rw [if_neg (by omega), if_neg (by omega), if_neg (by omega), if_pos c0] at hv
          rw [if_pos (by simp (disch := omega) only [nI_leI, nI_ltI, nI_eq, nI_add, nI_clamp, pk_sub, pk_mul, nI_m1, nI_le0, nI_lt0, nI_0le, nI_0lt, nI_z, inb_nI, decide_eq_true_eq]; omega), unlikeR_t (by omega) t1 hcl, Option.bind_some]
          exact ⟨hv.symm, fr48 t2⟩
        rw [if_neg (by simp (disch := omega) only [nI_leI, nI_ltI, nI_eq, nI_add, nI_clamp, pk_sub, pk_mul, nI_m1, nI_le0, nI_lt0, nI_0le, nI_0lt, nI_z, inb_nI, decide_eq_true_eq]; omega)]
        by_cases c1 : c = 1
        · rw [if_neg (by omega), if_neg (by omega), if_neg (by omega), if_neg c0] at hv
          rw [if_pos (by simp (disch := omega) only [nI_leI, nI_ltI, nI_eq, nI_add, nI_clamp, pk_sub, pk_mul, nI_m1, nI_le0, nI_lt0, nI_0le, nI_0lt, nI_z, inb_nI, decide_eq_true_eq]; omega)]
          by_cases hlt : a < b
          · rw [if_pos hlt, if_pos c1] at hv
            rw [if_neg (by simp (disch := omega) only [nI_leI, nI_ltI, nI_eq, nI_add, nI_clamp, pk_sub, pk_mul, nI_m1, nI_le0, nI_lt0, nI_0le, nI_0lt, nI_z, inb_nI, decide_eq_true_eq]; omega), mostFrequentR_t (by omega) t1 hcl, Option.bind_some]
            exact ⟨hv.symm, fr48 t2⟩
          · rw [if_neg hlt] at hv
            rw [if_pos (by simp (disch := omega) only [nI_leI, nI_ltI, nI_eq, nI_add, nI_clamp, pk_sub, pk_mul, nI_m1, nI_le0, nI_lt0, nI_0le, nI_0lt, nI_z, inb_nI, decide_eq_true_eq]; omega)]
            exact ⟨hv.symm, fr48 t2⟩
        rw [if_neg (by simp (disch := omega) only [nI_leI, nI_ltI, nI_eq, nI_add, nI_clamp, pk_sub, pk_mul, nI_m1, nI_le0, nI_lt0, nI_0le, nI_0lt, nI_z, inb_nI, decide_eq_true_eq]; omega)]
        by_cases c2 : c = 2
        · rw [if_neg (by omega), if_neg (by omega), if_neg (by omega), if_neg c0] at hv
          rw [if_pos (by simp (disch := omega) only [nI_leI, nI_ltI, nI_eq, nI_add, nI_clamp, pk_sub, pk_mul, nI_m1, nI_le0, nI_lt0, nI_0le, nI_0lt, nI_z, inb_nI, decide_eq_true_eq]; omega)]
          by_cases hlt : a < b
          · rw [if_pos hlt, if_neg c1] at hv
            rw [if_neg (by simp (disch := omega) only [nI_leI, nI_ltI, nI_eq, nI_add, nI_clamp, pk_sub, pk_mul, nI_m1, nI_le0, nI_lt0, nI_0le, nI_0lt, nI_z, inb_nI, decide_eq_true_eq]; omega), mostFrequentR_t (by omega) t1 hcl, Option.bind_some, if_pos (by simp (disch := omega) only [nI_leI, nI_ltI, nI_eq, nI_add, nI_clamp, pk_sub, pk_mul, nI_m1, nI_le0, nI_lt0, nI_0le, nI_0lt, nI_z, inb_nI, decide_eq_true_eq]; omega), nI_clamp (by omega), t1 _ hmf]
            exact ⟨hv.symm, fr48 t2⟩
          · rw [if_neg hlt] at hv
            rw [if_pos (by simp (disch := omega) only [nI_leI, nI_ltI, nI_eq, nI_add, nI_clamp, pk_sub, pk_mul, nI_m1, nI_le0, nI_lt0, nI_0le, nI_0lt, nI_z, inb_nI, decide_eq_true_eq]; omega)]
            exact ⟨hv.symm, fr48 t2⟩
        rw [if_neg (by simp (disch := omega) only [nI_leI, nI_ltI, nI_eq, nI_add, nI_clamp, pk_sub, pk_mul, nI_m1, nI_le0, nI_lt0, nI_0le, nI_0lt, nI_z, inb_nI, decide_eq_true_eq]; omega)]
        by_cases c3 : c = 3
        · rw [if_pos c3] at hv
          rw [if_pos (by simp (disch := omega) only [nI_leI, nI_ltI, nI_eq, nI_add, nI_clamp, pk_sub, pk_mul, nI_m1, nI_le0, nI_lt0, nI_0le, nI_0lt, nI_z, inb_nI, decide_eq_true_eq]; omega), sumR_t (by omega) x1 hn hab hb, Option.bind_some]
          exact ⟨hv.symm, fr48 t2⟩
        rw [if_neg (by simp (disch := omega) only [nI_leI, nI_ltI, nI_eq, nI_add, nI_clamp, pk_sub, pk_mul, nI_m1, nI_le0, nI_lt0, nI_0le, nI_0lt, nI_z, inb_nI, decide_eq_true_eq]; omega)]
        rw [if_neg c3] at hv
        by_cases c4 : c = 4
        · rw [if_pos (by simp (disch := omega) only [nI_leI, nI_ltI, nI_eq, nI_add, nI_clamp, pk_sub, pk_mul, nI_m1, nI_le0, nI_lt0, nI_0le, nI_0lt, nI_z, inb_nI, decide_eq_true_eq]; omega), wrongR_t (by omega) x1 ho hab hb, Option.bind_some]
          rw [if_pos c4] at hv
          by_cases hw : wr r.2 a b (b - a) = 0
          · rw [if_pos hw] at hv
            rw [if_pos (by simp (disch := omega) only [nI_leI, nI_ltI, nI_eq, nI_add, nI_clamp, pk_sub, pk_mul, nI_m1, nI_le0, nI_lt0, nI_0le, nI_0lt, nI_z, inb_nI, decide_eq_true_eq]; omega)]
            exact ⟨hv.symm, fr48 t2⟩
          · rw [if_neg hw] at hv
            rw [if_neg (by simp (disch := omega) only [nI_leI, nI_ltI, nI_eq, nI_add, nI_clamp, pk_sub, pk_mul, nI_m1, nI_le0, nI_lt0, nI_0le, nI_0lt, nI_z, inb_nI, decide_eq_true_eq]; omega)]
            exact ⟨hv.symm, fr48 t2⟩
        rw [if_neg (by simp (disch := omega) only [nI_leI, nI_ltI, nI_eq, nI_add, nI_clamp, pk_sub, pk_mul, nI_m1, nI_le0, nI_lt0, nI_0le, nI_0lt, nI_z, inb_nI, decide_eq_true_eq]; omega)]
        rw [if_neg c4, if_pos (by omega)] at hv
        rw [wrongR_t (by omega) x1 ho hab hb, Option.bind_some]
        exact ⟨hv.symm, fr48 t2⟩
