theorem timesBelow_t {F : Nat} {M : Mm} {k b : Nat} {c : Nat → Nat} (hF : 100 ≤ F) (h : Tl (M (k + 1)) c) (hb : b ≤ 16) : f_X4_timesBelow F k (nI b) M = some (nI (pre c b)) := by
  apply Ok.eq
  unfold f_X4_timesBelow
  refine Ok.lpN (m0 := b) (fun m z => ∃ v, v + m = b ∧ z = (nI (pre c v), nI v)) ?_ ?_ (by omega)
  · rintro m z ⟨v, hv, rfl⟩
    dsimp only
    by_cases hd : b ≤ v
    · rw [if_pos (by simp (disch := omega) only [nI_leI, nI_ltI, nI_eq, nI_add, nI_clamp, pk_sub, pk_mul, nI_m1, nI_le0, nI_lt0, nI_0le, nI_0lt, nI_z, inb_nI, decide_eq_true_eq]; omega)]
      have e : v = b := by omega
      subst e
      rfl
    · rw [if_neg (by simp (disch := omega) only [nI_leI, nI_ltI, nI_eq, nI_add, nI_clamp, pk_sub, pk_mul, nI_m1, nI_le0, nI_lt0, nI_0le, nI_0lt, nI_z, inb_nI, decide_eq_true_eq]; omega), if_neg (by simp (disch := omega) only [nI_leI, nI_ltI, nI_eq, nI_add, nI_clamp, pk_sub, pk_mul, nI_m1, nI_le0, nI_lt0, nI_0le, nI_0lt, nI_z, inb_nI, decide_eq_true_eq]; omega), if_pos (by simp (disch := omega) only [nI_leI, nI_ltI, nI_eq, nI_add, nI_clamp, pk_sub, pk_mul, nI_m1, nI_le0, nI_lt0, nI_0le, nI_0lt, nI_z, inb_nI, decide_eq_true_eq]; omega), nI_clamp (by omega), h v (by omega)]
      refine ⟨m - 1, by omega, v + 1, by omega, ?_⟩
      rw [nI_add, nI_add]
      rfl
  · exact ⟨0, by omega, rfl⟩
theorem isAtMost16 {b : Int32} (h : b < 0 ∨ nI 16 < b) : f_X6_isAtMost b (nI 16) = some (nI 0) := isAtMost_f h
theorem op_below {F : Nat} {r : Rw} {h : Nat} {H : Nat → Rw} {t : Rw} (hF : 300 ≤ F) (ho : okR r) (ot : okT t) (a b i : Int32) : Op (f_X6_below F a b i) (rd (f_X7_below F a b i)) r h H t := by
  have hn := ho.1
  rcases span_cases a b (n := r.1) (by omega) with hs | ⟨a, b, rfl, rfl, hab, hb⟩
  · refine Op.err (-1000001) ho ot (fun M x => ?_) (fun M x => ?_)
    · unfold f_X6_below
      rw [hasSpan_f x.1 hs, Option.bind_some, if_pos (by decide)]
    · unfold rd f_X7_below
      rw [isSpan_f x.1 hn hs, Option.bind_some, if_pos (by decide)]
      rfl
  · rcases le_cases i (n := 16) (by omega) with hi | ⟨c, rfl, hc⟩
    · refine Op.err (-1000001) ho ot (fun M x => ?_) (fun M x => ?_)
      · unfold f_X6_below
        rw [hasSpan_t x.1 hn hab hb, Option.bind_some, if_neg (by decide), isAtMost_f hi, Option.bind_some, if_pos (by decide)]
      · unfold rd f_X7_below
        rw [isSpan_t x.1 hn hab hb, Option.bind_some, if_neg (by decide), in_f0 hi, Option.bind_some, if_pos (by decide)]
        rfl
    · refine Op.same (nI (bel r.2 a c (b - a))) ho ot (fun M x => ?_) (fun M x => rd_ok (v := nI (bel r.2 a c (b - a))) ?_ ⟨rfl, rfl, rfl, fun _ _ => rfl⟩)
      · unfold f_X6_below
        rw [hasSpan_t x.1 hn hab hb, Option.bind_some, if_neg (by decide), isAtMost_t (by omega) hc, Option.bind_some, if_neg (by decide)]
        refine Ok.bindI (fill_t (by omega) x.1 ho hab hb (by omega) (by omega)) ?_
        rintro M1 ⟨t1, t2⟩
        rw [timesBelow_t (by omega) t1 hc, Option.bind_some, pre_cnt]
        exact ⟨rfl, fun k hk => t2 k (by omega)⟩
      · unfold f_X7_below
        rw [isSpan_t x.1 hn hab hb, Option.bind_some, if_neg (by decide), in_t (by omega) (by omega) hc, Option.bind_some, if_neg (by decide)]
        apply Ok.eq
        refine Ok.lpN (m0 := b - a) (fun m z => ∃ j, j + m = b - a ∧ z = (nI (bel r.2 a c j), nI (a + j))) ?_ ?_ (by omega)
        · rintro m z ⟨j, hj, rfl⟩
          dsimp only
          by_cases hd : b ≤ a + j
          · rw [if_pos (by simp (disch := omega) only [nI_leI, nI_ltI, nI_eq, nI_add, nI_clamp, pk_sub, pk_mul, nI_m1, nI_le0, nI_lt0, nI_0le, nI_0lt, nI_z, inb_nI, decide_eq_true_eq]; omega)]
            have e : b - a = j := by omega
            rw [e]
            rfl
          · have e3 : nI 1 + nI (a + j) = nI (1 + (a + j)) := nI_add _ _
            have e4 : Int32.toNatClampNeg (nI (1 + (a + j))) = 1 + (a + j) := nI_clamp (by omega)
            have hs2 := ho.2 (a + j) (by omega)
            rw [if_neg (by simp (disch := omega) only [nI_leI, nI_ltI, nI_eq, nI_add, nI_clamp, pk_sub, pk_mul, nI_m1, nI_le0, nI_lt0, nI_0le, nI_0lt, nI_z, inb_nI, decide_eq_true_eq]; omega)]
            simp only [e3, e4, x.1.el (show a + j < r.1 by omega)]
            rw [if_pos (by simp (disch := omega) only [nI_leI, nI_ltI, nI_eq, nI_add, nI_clamp, pk_sub, pk_mul, nI_m1, nI_le0, nI_lt0, nI_0le, nI_0lt, nI_z, inb_nI, decide_eq_true_eq]; omega)]
            by_cases hq : r.2 (a + j) < c
            · rw [if_neg (by simp (disch := omega) only [nI_leI, nI_ltI, nI_eq, nI_add, nI_clamp, pk_sub, pk_mul, nI_m1, nI_le0, nI_lt0, nI_0le, nI_0lt, nI_z, inb_nI, decide_eq_true_eq]; omega)]
              refine ⟨m - 1, by omega, j + 1, by omega, ?_⟩
              rw [nI_add, nI_add, Nat.add_assoc]
              show _ = (nI (bel r.2 a c j + _), _)
              rw [if_pos hq]
            · rw [if_pos (by simp (disch := omega) only [nI_leI, nI_ltI, nI_eq, nI_add, nI_clamp, pk_sub, pk_mul, nI_m1, nI_le0, nI_lt0, nI_0le, nI_0lt, nI_z, inb_nI, decide_eq_true_eq]; omega)]
              refine ⟨m - 1, by omega, j + 1, by omega, ?_⟩
              rw [nI_add, nI_add, Nat.add_assoc]
              show _ = (nI (bel r.2 a c j + _), _)
              rw [if_neg hq]
        · exact ⟨0, by omega, rfl⟩
def leastG (c : Nat → Nat) : Nat → Nat → Nat
  | 0, _ => 16
  | m + 1, v => if 0 < c v then v else leastG c m (v + 1)
theorem leastG_ge (c : Nat → Nat) : ∀ m v, v + m = 16 → v ≤ leastG c m v
  | 0, v, h => by unfold leastG; omega
  | m + 1, v, h => by
    unfold leastG
    split
    · exact Nat.le_refl v
    · have := leastG_ge c m (v + 1) (by omega)
      omega
theorem leastG_le (c : Nat → Nat) : ∀ m v, v + m = 16 → leastG c m v ≤ 16
  | 0, v, h => Nat.le_refl 16
  | m + 1, v, h => by
    unfold leastG
    split
    · omega
    · exact leastG_le c m (v + 1) (by omega)
theorem leastG_add {c d : Nat → Nat} {s : Nat} (h : ∀ v, d v = c v + (if s = v then 1 else 0)) (hs : s < 16) : ∀ m v, v + m = 16 → leastG d m v = if v ≤ s ∧ s < leastG c m v then s else leastG c m v
  | 0, v, hv => by
    rw [if_neg (by omega)]
    rfl
  | m + 1, v, hv => by
    have ih := leastG_add h hs m (v + 1) (by omega)
    have hge := leastG_ge c m (v + 1) (by omega)
    show (if 0 < d v then v else leastG d m (v + 1)) = if v ≤ s ∧ s < (if 0 < c v then v else leastG c m (v + 1)) then s else (if 0 < c v then v else leastG c m (v + 1))
    rw [h v]
    by_cases h1 : 0 < c v
    · rw [if_pos h1, if_pos (by omega), if_neg (by omega)]
    · rw [if_neg h1]
      by_cases h2 : s = v
      · subst h2
        rw [if_pos rfl, if_pos (by omega), if_pos (by omega)]
      · rw [if_neg h2, if_neg (by omega), ih]
        by_cases h3 : v ≤ s ∧ s < leastG c m (v + 1)
        · rw [if_pos (by omega), if_pos h3]
        · rw [if_neg (by omega), if_neg h3]
theorem leastG_0 (m : Nat) : ∀ v, v + m = 16 → leastG (fun _ => 0) m v = 16 := by
  induction m with
  | zero => intro v _; rfl
  | succ m ih =>
    intro v hv
    unfold leastG
    rw [if_neg (by omega)]
    exact ih (v + 1) (by omega)
theorem leastFrom_t {F : Nat} {M : Mm} {k b : Nat} {c : Nat → Nat} (hF : 100 ≤ F) (h : Tl (M (k + 1)) c) (hc : ∀ v, c v ≤ 60) (hb : b ≤ 16) : f_X4_leastFrom F k (nI b) M = some (if leastG c (16 - b) b < 16 then nI (leastG c (16 - b) b) else -1) := by
  apply Ok.eq
  unfold f_X4_leastFrom
  rw [if_neg (by simp (disch := omega) only [nI_leI, nI_ltI, nI_eq, nI_add, nI_clamp, pk_sub, pk_mul, nI_m1, nI_le0, nI_lt0, nI_0le, nI_0lt, nI_z, inb_nI, decide_eq_true_eq]; omega)]
  refine Ok.lpN (m0 := 16 - b) (fun m z => ∃ v, v + m = 16 ∧ z = nI v ∧ leastG c m v = leastG c (16 - b) b) ?_ ?_ (by omega)
  · rintro m z ⟨v, hv, rfl, he⟩
    by_cases hd : 16 ≤ v
    · have hm : m = 0 := by omega
      subst hm
      rw [if_pos (by simp (disch := omega) only [nI_leI, nI_ltI, nI_eq, nI_add, nI_clamp, pk_sub, pk_mul, nI_m1, nI_le0, nI_lt0, nI_0le, nI_0lt, nI_z, inb_nI, decide_eq_true_eq]; omega), ← he]
      rfl
    · obtain ⟨m', rfl⟩ : ∃ m', m = m' + 1 := ⟨m - 1, by omega⟩
      have hcv := hc v
      rw [if_neg (by simp (disch := omega) only [nI_leI, nI_ltI, nI_eq, nI_add, nI_clamp, pk_sub, pk_mul, nI_m1, nI_le0, nI_lt0, nI_0le, nI_0lt, nI_z, inb_nI, decide_eq_true_eq]; omega), if_pos (by simp (disch := omega) only [nI_leI, nI_ltI, nI_eq, nI_add, nI_clamp, pk_sub, pk_mul, nI_m1, nI_le0, nI_lt0, nI_0le, nI_0lt, nI_z, inb_nI, decide_eq_true_eq]; omega), nI_clamp (by omega)]
      simp only [h v (by omega)]
      have e0 : leastG c (m' + 1) v = if 0 < c v then v else leastG c m' (v + 1) := rfl
      rw [e0] at he
      by_cases hq : 0 < c v
      · rw [if_pos hq] at he
        rw [if_neg (by simp (disch := omega) only [nI_leI, nI_ltI, nI_eq, nI_add, nI_clamp, pk_sub, pk_mul, nI_m1, nI_le0, nI_lt0, nI_0le, nI_0lt, nI_z, inb_nI, decide_eq_true_eq]; omega), ← he]
        show nI v = _
        rw [if_pos (by omega)]
      · rw [if_neg hq] at he
        rw [if_pos (by simp (disch := omega) only [nI_leI, nI_ltI, nI_eq, nI_add, nI_clamp, pk_sub, pk_mul, nI_m1, nI_le0, nI_lt0, nI_0le, nI_0lt, nI_z, inb_nI, decide_eq_true_eq]; omega)]
        exact ⟨m', by omega, v + 1, by omega, nI_add v 1, he⟩
  · exact ⟨b, by omega, rfl, rfl⟩
theorem op_notBelow {F : Nat} {r : Rw} {h : Nat} {H : Nat → Rw} {t : Rw} (hF : 300 ≤ F) (ho : okR r) (ot : okT t) (a b i : Int32) : Op (f_X6_notBelow F a b i) (rd (f_X7_notBelow F a b i)) r h H t := by
  have hn := ho.1
  rcases span_cases a b (n := r.1) (by omega) with hs | ⟨a, b, rfl, rfl, hab, hb⟩
  · refine Op.err (-1000001) ho ot (fun M x => ?_) (fun M x => ?_)
    · unfold f_X6_notBelow
      rw [hasSpan_f x.1 hs, Option.bind_some, if_pos (by decide)]
    · unfold rd f_X7_notBelow
      rw [isSpan_f x.1 hn hs, Option.bind_some, if_pos (by decide)]
      rfl
  · rcases lt_cases i (n := 16) (by omega) with hi | ⟨c, rfl, hc⟩
    · refine Op.err (-1000001) ho ot (fun M x => ?_) (fun M x => ?_)
      · unfold f_X6_notBelow
        rw [hasSpan_t x.1 hn hab hb, Option.bind_some, if_neg (by decide), isSymbol_f hi, Option.bind_some, if_pos (by decide)]
      · unfold rd f_X7_notBelow
        rw [isSpan_t x.1 hn hab hb, Option.bind_some, if_neg (by decide), in_f0 (hi.imp id (fun h => lt_15 h)), Option.bind_some, if_pos (by decide)]
        rfl
    · have hcl := fun v => cnt_le r.2 a v (b - a)
      refine Op.same (if leastG (cnt r.2 a (b - a)) (16 - c) c < 16 then nI (leastG (cnt r.2 a (b - a)) (16 - c) c) else -1000004) ho ot (fun M x => ?_) (fun M x => rd_ok (v := if leastG (cnt r.2 a (b - a)) (16 - c) c < 16 then nI (leastG (cnt r.2 a (b - a)) (16 - c) c) else -1000004) ?_ ⟨rfl, rfl, rfl, fun _ _ => rfl⟩)
      · unfold f_X6_notBelow
        rw [hasSpan_t x.1 hn hab hb, Option.bind_some, if_neg (by decide), isSymbol_t hc, Option.bind_some, if_neg (by decide)]
        refine Ok.bindI (fill_t (by omega) x.1 ho hab hb (by omega) (by omega)) ?_
        rintro M1 ⟨t1, t2⟩
        rw [leastFrom_t (by omega) t1 (fun v => by have := hcl v; omega) (by omega), Option.bind_some]
        by_cases hq : leastG (cnt r.2 a (b - a)) (16 - c) c < 16
        · rw [if_pos hq, if_pos hq, foundOr_t hq, Option.bind_some]
          exact ⟨rfl, fun k hk => t2 k (by omega)⟩
        · rw [if_neg hq, if_neg hq, foundOr_f, Option.bind_some]
          exact ⟨rfl, fun k hk => t2 k (by omega)⟩
      · unfold f_X7_notBelow
        rw [isSpan_t x.1 hn hab hb, Option.bind_some, if_neg (by decide), in_t (by omega) (by omega) (by omega), Option.bind_some, if_neg (by decide)]
        apply Ok.eq
        refine Ok.lpN (m0 := b - a) (fun m z => ∃ j, j + m = b - a ∧ z = (nI (leastG (cnt r.2 a j) (16 - c) c), nI (a + j))) ?_ ?_ (by omega)
        · rintro m z ⟨j, hj, rfl⟩
          dsimp only
          have hl16 := leastG_le (cnt r.2 a j) (16 - c) c (by omega)
          by_cases hd : b ≤ a + j
          · rw [if_pos (by simp (disch := omega) only [nI_leI, nI_ltI, nI_eq, nI_add, nI_clamp, pk_sub, pk_mul, nI_m1, nI_le0, nI_lt0, nI_0le, nI_0lt, nI_z, inb_nI, decide_eq_true_eq]; omega)]
            have e : b - a = j := by omega
            rw [e]
            by_cases hq : leastG (cnt r.2 a j) (16 - c) c < 16
            · rw [if_neg (by simp (disch := omega) only [nI_leI, nI_ltI, nI_eq, nI_add, nI_clamp, pk_sub, pk_mul, nI_m1, nI_le0, nI_lt0, nI_0le, nI_0lt, nI_z, inb_nI, decide_eq_true_eq]; omega), if_pos hq]
              rfl
            · rw [if_pos (by simp (disch := omega) only [nI_leI, nI_ltI, nI_eq, nI_add, nI_clamp, pk_sub, pk_mul, nI_m1, nI_le0, nI_lt0, nI_0le, nI_0lt, nI_z, inb_nI, decide_eq_true_eq]; omega), if_neg hq]
              rfl
          · have e3 : nI 1 + nI (a + j) = nI (1 + (a + j)) := nI_add _ _
            have e4 : Int32.toNatClampNeg (nI (1 + (a + j))) = 1 + (a + j) := nI_clamp (by omega)
            have hs2 := ho.2 (a + j) (by omega)
            have ladd := leastG_add (c := cnt r.2 a j) (d := cnt r.2 a (j + 1)) (s := r.2 (a + j)) (fun v => rfl) hs2 (16 - c) c (by omega)
            rw [if_neg (by simp (disch := omega) only [nI_leI, nI_ltI, nI_eq, nI_add, nI_clamp, pk_sub, pk_mul, nI_m1, nI_le0, nI_lt0, nI_0le, nI_0lt, nI_z, inb_nI, decide_eq_true_eq]; omega)]
            simp only [e3, e4, x.1.el (show a + j < r.1 by omega)]
            rw [if_pos (by simp (disch := omega) only [nI_leI, nI_ltI, nI_eq, nI_add, nI_clamp, pk_sub, pk_mul, nI_m1, nI_le0, nI_lt0, nI_0le, nI_0lt, nI_z, inb_nI, decide_eq_true_eq]; omega)]
            by_cases hq : r.2 (a + j) < c
            · rw [if_pos (by simp (disch := omega) only [nI_leI, nI_ltI, nI_eq, nI_add, nI_clamp, pk_sub, pk_mul, nI_m1, nI_le0, nI_lt0, nI_0le, nI_0lt, nI_z, inb_nI, decide_eq_true_eq]; omega)]
              rw [if_neg (by omega)] at ladd
              exact ⟨m - 1, by omega, j + 1, by omega, by rw [ladd, nI_add, Nat.add_assoc]⟩
            · rw [if_neg (by simp (disch := omega) only [nI_leI, nI_ltI, nI_eq, nI_add, nI_clamp, pk_sub, pk_mul, nI_m1, nI_le0, nI_lt0, nI_0le, nI_0lt, nI_z, inb_nI, decide_eq_true_eq]; omega)]
              by_cases hq2 : leastG (cnt r.2 a j) (16 - c) c ≤ r.2 (a + j)
              · rw [if_pos (by simp (disch := omega) only [nI_leI, nI_ltI, nI_eq, nI_add, nI_clamp, pk_sub, pk_mul, nI_m1, nI_le0, nI_lt0, nI_0le, nI_0lt, nI_z, inb_nI, decide_eq_true_eq]; omega)]
                rw [if_neg (by omega)] at ladd
                exact ⟨m - 1, by omega, j + 1, by omega, by rw [ladd, nI_add, Nat.add_assoc]⟩
              · rw [if_neg (by simp (disch := omega) only [nI_leI, nI_ltI, nI_eq, nI_add, nI_clamp, pk_sub, pk_mul, nI_m1, nI_le0, nI_lt0, nI_0le, nI_0lt, nI_z, inb_nI, decide_eq_true_eq]; omega)]
                rw [if_pos (by omega)] at ladd
                exact ⟨m - 1, by omega, j + 1, by omega, by rw [ladd, nI_add, Nat.add_assoc]⟩
        · refine ⟨0, by omega, ?_⟩
          have : leastG (cnt r.2 a 0) (16 - c) c = 16 := leastG_0 (16 - c) c (by omega)
          rw [this]
          rfl
