theorem op_undo {F : Nat} {r : Rw} {h : Nat} {H : Nat → Rw} {t : Rw} (hF : 300 ≤ F) (ho : okR r) (ot : okT t) (oh : h ≤ 4 ∧ ∀ j, j < h → okR (H j)) : Op (f_X6_undo F) (f_X7_undo F) r h H t := by
  rcases Nat.eq_zero_or_pos h with h0 | h0
  · subst h0
    refine Op.err (-1000002) ho ot (fun M x => ?_) (fun M x => ?_)
    · unfold f_X6_undo f_X0_size
      rw [Option.bind_some, x.2.1.1, if_pos (by decide)]
    · unfold f_X7_undo
      rw [x.2.1.1, if_pos (by decide)]
  · have h4 := oh.1
    have hr := oh.2 (h - 1) (by omega)
    refine ⟨nI (h - 1), H (h - 1), h - 1, H, t, hr, ot, fun M x => ?_, fun M x => ?_⟩
    · unfold f_X6_undo f_X0_size
      rw [Option.bind_some, x.2.1.1, if_neg (by simp (disch := omega) only [nI_leI, nI_ltI, nI_eq, nI_add, nI_clamp, pk_sub, pk_mul, nI_m1, nI_le0, nI_lt0, nI_0le, nI_0lt, nI_z, inb_nI, decide_eq_true_eq]; omega)]
      refine Ok.bindI (restore_t (by omega) x.2.1 h0) ?_
      rintro M1 ⟨y1, y2, y3⟩
      rw [Option.bind_some, y1.1]
      exact ⟨rfl, ⟨y2, y1, x.2.2.keep (y3 37 (by omega) (by omega) (by omega)) (y3 (37 + 1) (by omega) (by omega) (by omega))⟩, fun k hk => y3 k (by omega) (by omega) (by omega)⟩
    · unfold f_X7_undo
      have e1 : nI h - nI 1 = nI (h - 1) := by simp (disch := omega) only [nI_leI, nI_ltI, nI_eq, nI_add, nI_clamp, pk_sub, pk_mul, nI_m1, nI_le0, nI_lt0, nI_0le, nI_0lt, nI_z, inb_nI, decide_eq_true_eq]
      rw [x.2.1.1, if_neg (by simp (disch := omega) only [nI_leI, nI_ltI, nI_eq, nI_add, nI_clamp, pk_sub, pk_mul, nI_m1, nI_le0, nI_lt0, nI_0le, nI_0lt, nI_z, inb_nI, decide_eq_true_eq]; omega), e1]
      refine Ok.lpN (m0 := 61) (fun m z => ∃ i, i + m = 61 ∧ z.1 = nI i ∧ z.2 40 4 = nI (h - 1) ∧ z.2 40 6 = M 40 6 ∧ (∀ u, u < i → z.2 41 u = M 42 (61 * (h - 1) + u)) ∧ ∀ k, k ≠ 41 → k ≠ 40 → z.2 k = M k) ?_ ?_ (by omega)
      · intro m z hz
        obtain ⟨z1, M1⟩ := z
        obtain ⟨i, hi, g1, g2, g3, g4, g5⟩ := hz
        dsimp only at g1 g2 g3 g4 g5 ⊢
        subst g1
        simp only [g2]
        by_cases hd : 61 ≤ i
        · rw [if_pos (by simp (disch := omega) only [nI_leI, nI_ltI, nI_eq, nI_add, nI_clamp, pk_sub, pk_mul, nI_m1, nI_le0, nI_lt0, nI_0le, nI_0lt, nI_z, inb_nI, decide_eq_true_eq]; omega)]
          obtain ⟨s1, s2⟩ := (x.2.1.2.2 (h - 1) (by omega)).1
          refine ⟨rfl, ⟨⟨?_, fun u hu => ?_⟩, ⟨g2, by omega, fun j hj => ?_⟩, ?_, fun u hu => ?_⟩, fun k hk => g5 k (by omega) (by omega)⟩
          · show M1 41 0 = _
            rw [g4 0 (by omega)]
            exact s1
          · show M1 41 (0 + 1 + u) = _
            have hr1 := hr.1
            rw [g4 _ (by omega), show 61 * (h - 1) + (0 + 1 + u) = 61 * (h - 1) + 1 + u by omega]
            exact s2 u hu
          · show SqP (M1 42) _ _ ∧ _
            rw [g5 42 (by omega) (by omega)]
            exact x.2.1.2.2 j (by omega)
          · show M1 40 6 = _
            rw [g3]
            exact x.2.2.1
          · show M1 45 u = _
            rw [g5 45 (by omega) (by omega)]
            exact x.2.2.2 u hu
        · have e2 : nI 61 * nI (h - 1) + nI i = nI (61 * (h - 1) + i) := by simp (disch := omega) only [nI_leI, nI_ltI, nI_eq, nI_add, nI_clamp, pk_sub, pk_mul, nI_m1, nI_le0, nI_lt0, nI_0le, nI_0lt, nI_z, inb_nI, decide_eq_true_eq]
          rw [if_neg (by simp (disch := omega) only [nI_leI, nI_ltI, nI_eq, nI_add, nI_clamp, pk_sub, pk_mul, nI_m1, nI_le0, nI_lt0, nI_0le, nI_0lt, nI_z, inb_nI, decide_eq_true_eq]; omega), e2, if_pos (by simp (disch := omega) only [nI_leI, nI_ltI, nI_eq, nI_add, nI_clamp, pk_sub, pk_mul, nI_m1, nI_le0, nI_lt0, nI_0le, nI_0lt, nI_z, inb_nI, decide_eq_true_eq]; omega), if_pos (by simp (disch := omega) only [nI_leI, nI_ltI, nI_eq, nI_add, nI_clamp, pk_sub, pk_mul, nI_m1, nI_le0, nI_lt0, nI_0le, nI_0lt, nI_z, inb_nI, decide_eq_true_eq]; omega), nI_clamp (by omega), nI_clamp (by omega), g5 42 (by omega) (by omega)]
          refine ⟨m - 1, by omega, i + 1, by omega, nI_add i 1, ?_, ?_, fun u hu => ?_, fun k hk1 hk2 => ?_⟩
          · exact g2
          · exact g3
          · show up M1 41 _ _ 41 u = _
            by_cases hu2 : u = i
            · subst hu2
              rw [up_ss]
            · rw [up_sn hu2]
              exact g4 u (by omega)
          · show up M1 41 _ _ k = _
            rw [up_n hk1]
            exact g5 k hk1 hk2
      · refine ⟨0, by omega, rfl, ?_, ?_, fun u hu => by omega, fun k hk1 hk2 => ?_⟩
        · rfl
        · rfl
        · exact up_n (M := M) (k := 40) (i := 4) (x := nI (h - 1)) hk2
theorem chr_t {c : Nat} (h : c < 127) : vp_nar .char (((Int32.toUInt32 (nI c)) % 65536).toInt32) = nI c := by
  have : ∀ c, c < 127 → vp_nar .char (((Int32.toUInt32 (nI c)) % 65536).toInt32) = nI c := by decide +kernel
  exact this c h
theorem op_clearText {r : Rw} {h : Nat} {H : Nat → Rw} {t : Rw} (ho : okR r) (ot : okT t) : Op f_X6_clearText f_X7_clearText r h H t := by
  refine ⟨nI t.1, r, h, H, (0, t.2), ho, ⟨Nat.zero_le _, fun i hi => absurd hi (Nat.not_lt_zero i)⟩, fun M x => ?_, fun M x => ?_⟩
  · unfold f_X6_clearText f_X5_length f_X5_empty
    rw [Option.bind_some, x.2.2.1]
    refine ⟨rfl, ⟨x.1.keep ?_ ?_, x.2.1.keep (fun k hk => ?_), ⟨?_, fun i hi => absurd hi (Nat.not_lt_zero i)⟩⟩, fun k hk => ?_⟩
    · rfl
    · rfl
    · exact up_n (M := M) (k := 37) (i := 1) (x := nI 0) (by omega)
    · rfl
    · exact up_n (M := M) (k := 37) (i := 1) (x := nI 0) (by omega)
  · unfold f_X7_clearText
    rw [x.2.2.1]
    refine ⟨rfl, ⟨?_, x.2.1.keep ?_ ?_, ?_, fun i hi => absurd hi (Nat.not_lt_zero i)⟩, fun k hk => ?_⟩
    · exact x.1
    · rfl
    · rfl
    · rfl
    · exact up_n (M := M) (k := 40) (i := 6) (x := nI 0) (by omega)
def insT (t : Rw) (c : Nat) : Rw := (t.1 + 1, fun i => if i = t.1 then c else t.2 i)
theorem insT_ok {t : Rw} {c : Nat} (ot : okT t) (h1 : t.1 < 60) (h2 : 32 ≤ c) (h3 : c ≤ 126) : okT (insT t c) := by
  refine ⟨h1, fun i hi => ?_⟩
  show 32 ≤ (if i = t.1 then c else t.2 i) ∧ (if i = t.1 then c else t.2 i) ≤ 126
  by_cases e : i = t.1
  · rw [if_pos e]
    exact ⟨h2, h3⟩
  · rw [if_neg e]
    have hi' : i < t.1 + 1 := hi
    exact ot.2 i (by omega)
theorem op_type {r : Rw} {h : Nat} {H : Nat → Rw} {t : Rw} (ho : okR r) (ot : okT t) (a : Int32) : Op (f_X6_type a) (f_X7_type a) r h H t := by
  have ht := ot.1
  by_cases hlo : a < nI 32
  · refine Op.err (-1000001) ho ot (fun M x => ?_) (fun M x => ?_)
    · unfold f_X6_type
      rw [if_pos hlo]
    · unfold f_X7_type
      rw [in_f (Or.inl hlo), Option.bind_some, if_pos (by decide)]
  rcases le_cases a (n := 126) (by omega) with (hi | hi) | ⟨c, rfl, hc⟩
  · exact absurd (Int32.lt_trans hi (by decide)) hlo
  · refine Op.err (-1000001) ho ot (fun M x => ?_) (fun M x => ?_)
    · unfold f_X6_type
      rw [if_neg hlo, if_neg (Int32.not_le.mpr hi)]
    · unfold f_X7_type
      rw [in_f (Or.inr hi), Option.bind_some, if_pos (by decide)]
  have hc1 : 32 ≤ c := by
    rw [nI_ltI (by omega) (by omega)] at hlo
    omega
  have ec := chr_t (c := c) (by omega)
  by_cases hf : t.1 < 60
  · refine ⟨nI (t.1 + 1), r, h, H, insT t c, ho, insT_ok ot hf hc1 hc, fun M x => ?_, fun M x => ?_⟩
    · unfold f_X6_type f_X5_length f_X5_append
      rw [if_neg hlo, if_pos (by simp (disch := omega) only [nI_leI, nI_ltI, nI_eq, nI_add, nI_clamp, pk_sub, pk_mul, nI_m1, nI_le0, nI_lt0, nI_0le, nI_0lt, nI_z, inb_nI, decide_eq_true_eq]; omega), Option.bind_some]
      have e9 : Int32.toNatClampNeg (nI t.1) = t.1 := nI_clamp (by omega)
      simp only [x.2.2.1, e9]
      rw [if_pos (by simp (disch := omega) only [nI_leI, nI_ltI, nI_eq, nI_add, nI_clamp, pk_sub, pk_mul, nI_m1, nI_le0, nI_lt0, nI_0le, nI_0lt, nI_z, inb_nI, decide_eq_true_eq]; omega), if_neg (by simp (disch := omega) only [nI_leI, nI_ltI, nI_eq, nI_add, nI_clamp, pk_sub, pk_mul, nI_m1, nI_le0, nI_lt0, nI_0le, nI_0lt, nI_z, inb_nI, decide_eq_true_eq]; omega), if_pos (by simp (disch := omega) only [nI_leI, nI_ltI, nI_eq, nI_add, nI_clamp, pk_sub, pk_mul, nI_m1, nI_le0, nI_lt0, nI_0le, nI_0lt, nI_z, inb_nI, decide_eq_true_eq]; omega), Option.bind_some, Option.bind_some]
      have e10 : up M 38 t.1 (nI c) 37 1 + nI 1 = nI (t.1 + 1) := by
        show M 37 1 + nI 1 = _
        rw [x.2.2.1, nI_add]
      simp only [ec, e10]
      refine ⟨rfl, ⟨x.1.keep rfl rfl, x.2.1.keep (fun k hk => ?_), ⟨rfl, fun i hi => ?_⟩⟩, fun k hk => ?_⟩
      · show up (up M 38 t.1 (nI c)) 37 1 (nI (t.1 + 1)) k = M k
        rw [up_n (by omega), up_n (by omega)]
      · show up M 38 t.1 (nI c) 38 i = nI (if i = t.1 then c else t.2 i)
        by_cases hi2 : i = t.1
        · rw [if_pos hi2, hi2, up_ss]
        · rw [if_neg hi2, up_sn hi2]
          have hi' : i < t.1 + 1 := hi
          exact x.2.2.2 i (by omega)
      · show up (up M 38 t.1 (nI c)) 37 1 (nI (t.1 + 1)) k = M k
        rw [up_n (by omega), up_n (by omega)]
    · unfold f_X7_type
      have e9 : Int32.toNatClampNeg (nI t.1) = t.1 := nI_clamp (by omega)
      rw [in_t (by omega) (by omega) hc, Option.bind_some, if_neg (by decide)]
      simp only [x.2.2.1, e9]
      rw [if_neg (by simp (disch := omega) only [nI_leI, nI_ltI, nI_eq, nI_add, nI_clamp, pk_sub, pk_mul, nI_m1, nI_le0, nI_lt0, nI_0le, nI_0lt, nI_z, inb_nI, decide_eq_true_eq]; omega), if_pos (by simp (disch := omega) only [nI_leI, nI_ltI, nI_eq, nI_add, nI_clamp, pk_sub, pk_mul, nI_m1, nI_le0, nI_lt0, nI_0le, nI_0lt, nI_z, inb_nI, decide_eq_true_eq]; omega)]
      have e10 : up M 45 t.1 (nI c) 40 6 + nI 1 = nI (t.1 + 1) := by
        show M 40 6 + nI 1 = _
        rw [x.2.2.1, nI_add]
      simp only [ec, e10]
      refine ⟨rfl, ⟨x.1, x.2.1.keep rfl rfl, rfl, fun i hi => ?_⟩, fun k hk => ?_⟩
      · show up M 45 t.1 (nI c) 45 i = nI (if i = t.1 then c else t.2 i)
        by_cases hi2 : i = t.1
        · rw [if_pos hi2, hi2, up_ss]
        · rw [if_neg hi2, up_sn hi2]
          have hi' : i < t.1 + 1 := hi
          exact x.2.2.2 i (by omega)
      · show up (up M 45 t.1 (nI c)) 40 6 (nI (t.1 + 1)) k = M k
        rw [up_n (by omega), up_n (by omega)]
  · have hf : t.1 = 60 := by omega
    refine Op.err (-1000003) ho ot (fun M x => ?_) (fun M x => ?_)
    · unfold f_X6_type f_X5_length
      rw [if_neg hlo, if_pos (by simp (disch := omega) only [nI_leI, nI_ltI, nI_eq, nI_add, nI_clamp, pk_sub, pk_mul, nI_m1, nI_le0, nI_lt0, nI_0le, nI_0lt, nI_z, inb_nI, decide_eq_true_eq]; omega), Option.bind_some, x.2.2.1, if_neg (by simp (disch := omega) only [nI_leI, nI_ltI, nI_eq, nI_add, nI_clamp, pk_sub, pk_mul, nI_m1, nI_le0, nI_lt0, nI_0le, nI_0lt, nI_z, inb_nI, decide_eq_true_eq]; omega)]
    · unfold f_X7_type
      rw [in_t (by omega) (by omega) hc, Option.bind_some, if_neg (by decide), x.2.2.1, if_pos (by rw [hf])]
