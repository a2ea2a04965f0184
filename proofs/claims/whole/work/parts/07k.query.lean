theorem Ok.inlI {α β : Type} {z : α} {P : α → Prop} {Q : β → Prop} (h : P z) : Ok (some (Sum.inl z : α ⊕ β)) (Sum.elim P Q) := h
theorem fr48 {M M1 : Mm} (t2 : ∀ k, k ≠ 48 → M1 k = M k) : M1 40 4 = M 40 4 ∧ M1 40 6 = M 40 6 ∧ ∀ k, k < 40 ∨ k = 41 ∨ k = 42 ∨ k = 45 → M1 k = M k := ⟨by rw [t2 40 (by omega)], by rw [t2 40 (by omega)], fun k hk => t2 k (by omega)⟩
theorem neg_le {a : Int32} (h : a < 0) : ¬ 0 ≤ a := Int32.not_le.mpr h
theorem ge_le {a : Int32} {n : Nat} (hn : n < 2 ^ 31) (h : nI n ≤ a) : 0 ≤ a := Int32.not_lt.mp (ge_of hn h)
theorem op_symbolAt {r : Rw} {h : Nat} {H : Nat → Rw} {t : Rw} (ho : okR r) (ot : okT t) (a : Int32) : Op (rd (f_X6_symbolAt a)) (rd (f_X7_symbolAt a)) r h H t := by
  have hn := ho.1
  by_cases h0 : a < 0
  · refine Op.same (-1000001) ho ot (fun M x => rd_ok (v := -1000001) ?_ ⟨rfl, fun _ _ => rfl⟩) (fun M x => rd_ok (v := -1000001) ?_ ⟨rfl, rfl, rfl, fun _ _ => rfl⟩)
    · unfold f_X6_symbolAt
      rw [if_neg (neg_le h0)]
    · unfold f_X7_symbolAt
      rw [if_neg (neg_le h0)]
  · rcases lt_cases a (n := r.1) (by omega) with ha | ⟨j, rfl, hj⟩
    · have h1 := ha.resolve_left h0
      refine Op.same (-1000004) ho ot (fun M x => rd_ok (v := -1000004) ?_ ⟨rfl, fun _ _ => rfl⟩) (fun M x => rd_ok (v := -1000004) ?_ ⟨rfl, rfl, rfl, fun _ _ => rfl⟩)
      · unfold f_X6_symbolAt
        rw [if_pos (ge_le (by omega) h1), hasPlace_f x.1 ha, Option.bind_some, if_pos (by decide)]
      · unfold f_X7_symbolAt
        rw [if_pos (ge_le (by omega) h1), isPlace_f x.1 hn ha, Option.bind_some, if_pos (by decide)]
    · refine Op.same (nI (r.2 j)) ho ot (fun M x => rd_ok (v := nI (r.2 j)) ?_ ⟨rfl, fun _ _ => rfl⟩) (fun M x => rd_ok (v := nI (r.2 j)) ?_ ⟨rfl, rfl, rfl, fun _ _ => rfl⟩)
      · unfold f_X6_symbolAt
        rw [if_pos (nI_pos' (by omega)), hasPlace_t x.1 hn hj, Option.bind_some, if_neg (by decide), at_t x.1 hn hj, Option.bind_some]
      · unfold f_X7_symbolAt
        rw [if_pos (nI_pos' (by omega)), isPlace_t x.1 hn hj, Option.bind_some, if_neg (by decide), nI_add, nI_clamp (by omega), if_pos (by simp (disch := omega) only [nI_leI, nI_ltI, nI_eq, nI_add, nI_clamp, pk_sub, pk_mul, nI_m1, nI_le0, nI_lt0, nI_0le, nI_0lt, nI_z, inb_nI, decide_eq_true_eq]; omega), x.1.el hj]
theorem times_t {M : Mm} {k v : Nat} {c : Nat → Nat} (h : Tl (M (k + 1)) c) (hv : v < 16) : f_X4_times k (nI v) M = some (nI (c v)) := by
  unfold f_X4_times
  rw [isSymbol_t hv, Option.bind_some, if_neg (by decide), if_pos (by simp (disch := omega) only [nI_leI, nI_ltI, nI_eq, nI_add, nI_clamp, pk_sub, pk_mul, nI_m1, nI_le0, nI_lt0, nI_0le, nI_0lt, nI_z, inb_nI, decide_eq_true_eq]; omega), nI_clamp (by omega), h v hv]
theorem op_rank {F : Nat} {r : Rw} {h : Nat} {H : Nat → Rw} {t : Rw} (hF : 300 ≤ F) (ho : okR r) (ot : okT t) (a b : Int32) : Op (f_X6_rank F a b) (f_X7_rank F a b) r h H t := by
  have hn := ho.1
  rcases lt_cases a (n := 16) (by omega) with ha | ⟨c, rfl, hc⟩
  · refine Op.err (-1000001) ho ot (fun M x => ?_) (fun M x => ?_)
    · unfold f_X6_rank
      rw [isSymbol_f ha, Option.bind_some, if_pos (by decide)]
    · unfold f_X7_rank
      rw [in_f0 (ha.imp id (fun h => lt_15 h)), Option.bind_some, if_pos (by decide)]
  · rcases le_cases b (n := r.1) (by omega) with hb | ⟨j, rfl, hj⟩
    · refine Op.err (-1000001) ho ot (fun M x => ?_) (fun M x => ?_)
      · unfold f_X6_rank f_X3_size
        rw [isSymbol_t hc, Option.bind_some, if_neg (by decide), Option.bind_some, x.1.1, isAtMost_f hb, Option.bind_some, if_pos (by decide)]
      · unfold f_X7_rank
        rw [in_t (by omega) (by omega) (by omega), Option.bind_some, if_neg (by decide), if_pos (in0 (by omega)), cl0, x.1.1, in_f0 hb, Option.bind_some, if_pos (by decide)]
    · refine Op.same (nI (cnt r.2 0 (j - 0) c)) ho ot (fun M x => ?_) (fun M x => ?_)
      · unfold f_X6_rank f_X3_size
        rw [isSymbol_t hc, Option.bind_some, if_neg (by decide), Option.bind_some, x.1.1, isAtMost_t (by omega) hj, Option.bind_some, if_neg (by decide)]
        refine Ok.bindI (fill_t (by omega) x.1 ho (by omega) hj (by omega) (by omega)) ?_
        rintro M1 ⟨t1, t2⟩
        rw [times_t t1 hc, Option.bind_some]
        exact ⟨rfl, fun k hk => t2 k (by omega)⟩
      · unfold f_X7_rank
        rw [in_t (by omega) (by omega) (by omega), Option.bind_some, if_neg (by decide), if_pos (in0 (by omega)), cl0, x.1.1, in_t (by omega) (by omega) hj, Option.bind_some, if_neg (by decide)]
        refine Ok.bindI (counts_t (by omega) x.1 ho (by omega) hj) ?_
        rintro M1 ⟨t1, t2⟩
        rw [if_pos (by simp (disch := omega) only [nI_leI, nI_ltI, nI_eq, nI_add, nI_clamp, pk_sub, pk_mul, nI_m1, nI_le0, nI_lt0, nI_0le, nI_0lt, nI_z, inb_nI, decide_eq_true_eq]; omega), nI_clamp (by omega), t1 c hc]
        exact ⟨rfl, fr48 t2⟩
/-- where a symbol stands for some time -/
def selG (f : Nat → Nat) (c : Nat) : Nat → Nat → Nat → Option Nat
  | 0, _, _ => none
  | m + 1, i, l => if f i = c then (if l = 0 then some i else selG f c m (i + 1) (l - 1)) else selG f c m (i + 1) l
def orNF : Option Nat → Int32
  | none => -1000004
  | some i => nI i
theorem op_select {F : Nat} {r : Rw} {h : Nat} {H : Nat → Rw} {t : Rw} (hF : 300 ≤ F) (ho : okR r) (ot : okT t) (a b : Int32) : Op (rd (f_X6_select F a b)) (rd (f_X7_select F a b)) r h H t := by
  have hn := ho.1
  rcases lt_cases a (n := 16) (by omega) with ha | ⟨c, rfl, hc⟩
  · refine Op.same (-1000001) ho ot (fun M x => rd_ok (v := -1000001) ?_ ⟨rfl, fun _ _ => rfl⟩) (fun M x => rd_ok (v := -1000001) ?_ ⟨rfl, rfl, rfl, fun _ _ => rfl⟩)
    · unfold f_X6_select
      rw [isSymbol_f ha, Option.bind_some, if_pos (by decide)]
    · unfold f_X7_select
      rw [in_f0 (ha.imp id (fun h => lt_15 h)), Option.bind_some, if_pos (by decide)]
  · by_cases h0 : b < 0
    · refine Op.same (-1000001) ho ot (fun M x => rd_ok (v := -1000001) ?_ ⟨rfl, fun _ _ => rfl⟩) (fun M x => rd_ok (v := -1000001) ?_ ⟨rfl, rfl, rfl, fun _ _ => rfl⟩)
      · unfold f_X6_select
        rw [isSymbol_t hc, Option.bind_some, if_neg (by decide), if_neg (neg_le h0)]
      · unfold f_X7_select
        rw [in_t (by omega) (by omega) (by omega), Option.bind_some, if_neg (by decide), if_neg (neg_le h0)]
    · obtain ⟨l, hl, rfl⟩ := nI_of h0
      refine Op.same (orNF (selG r.2 c r.1 0 l)) ho ot (fun M x => rd_ok (v := orNF (selG r.2 c r.1 0 l)) ?_ ⟨rfl, fun _ _ => rfl⟩) (fun M x => rd_ok (v := orNF (selG r.2 c r.1 0 l)) ?_ ⟨rfl, rfl, rfl, fun _ _ => rfl⟩)
      · unfold f_X6_select
        rw [isSymbol_t hc, Option.bind_some, if_neg (by decide), if_pos (nI_pos' hl)]
        apply Ok.eq
        refine Ok.lpN (m0 := r.1) (fun m z => ∃ i s, i + m = r.1 ∧ s ≤ l ∧ s ≤ i ∧ z = (nI s, nI i) ∧ selG r.2 c m i (l - s) = selG r.2 c r.1 0 l) ?_ ?_ (by omega)
        · rintro m z ⟨i, s, hi, hs, hsi, rfl, he⟩
          dsimp only
          unfold f_X3_size
          rw [Option.bind_some, x.1.1]
          by_cases hd : r.1 ≤ i
          · have hm : m = 0 := by omega
            subst hm
            rw [if_pos (by simp (disch := omega) only [nI_leI, nI_ltI, nI_eq, nI_add, nI_clamp, pk_sub, pk_mul, nI_m1, nI_le0, nI_lt0, nI_0le, nI_0lt, nI_z, inb_nI, decide_eq_true_eq]; omega), ← he]
            rfl
          · obtain ⟨m', rfl⟩ : ∃ m', m = m' + 1 := ⟨m - 1, by omega⟩
            have hs2 := ho.2 i (by omega)
            rw [if_neg (by simp (disch := omega) only [nI_leI, nI_ltI, nI_eq, nI_add, nI_clamp, pk_sub, pk_mul, nI_m1, nI_le0, nI_lt0, nI_0le, nI_0lt, nI_z, inb_nI, decide_eq_true_eq]; omega), at_t x.1 hn (by omega), Option.bind_some]
            have e0 : selG r.2 c (m' + 1) i (l - s) = if r.2 i = c then (if l - s = 0 then some i else selG r.2 c m' (i + 1) (l - s - 1)) else selG r.2 c m' (i + 1) (l - s) := rfl
            rw [e0] at he
            by_cases hq : r.2 i = c
            · rw [if_pos hq] at he
              rw [if_pos (by simp (disch := omega) only [nI_leI, nI_ltI, nI_eq, nI_add, nI_clamp, pk_sub, pk_mul, nI_m1, nI_le0, nI_lt0, nI_0le, nI_0lt, nI_z, inb_nI, decide_eq_true_eq]; exact hq)]
              by_cases hz : s = l
              · rw [if_pos (by omega)] at he
                rw [if_pos (by rw [hz]), ← he]
                rfl
              · rw [if_neg (by omega)] at he
                rw [if_neg (by simp (disch := omega) only [nI_leI, nI_ltI, nI_eq, nI_add, nI_clamp, pk_sub, pk_mul, nI_m1, nI_le0, nI_lt0, nI_0le, nI_0lt, nI_z, inb_nI, decide_eq_true_eq]; exact hz)]
                exact ⟨m', by omega, i + 1, s + 1, by omega, by omega, by omega, by rw [nI_add, nI_add], by rw [show l - (s + 1) = l - s - 1 by omega]; exact he⟩
            · rw [if_neg hq] at he
              rw [if_neg (by simp (disch := omega) only [nI_leI, nI_ltI, nI_eq, nI_add, nI_clamp, pk_sub, pk_mul, nI_m1, nI_le0, nI_lt0, nI_0le, nI_0lt, nI_z, inb_nI, decide_eq_true_eq]; exact hq)]
              exact ⟨m', by omega, i + 1, s, by omega, hs, by omega, by rw [nI_add], he⟩
        · exact ⟨0, 0, by omega, by omega, by omega, rfl, rfl⟩
      · unfold f_X7_select
        rw [in_t (by omega) (by omega) (by omega), Option.bind_some, if_neg (by decide), if_pos (nI_pos' hl)]
        apply Ok.eq
        refine Ok.lpN (m0 := r.1) (fun m z => ∃ i l', i + m = r.1 ∧ l' ≤ l ∧ z = (nI l', nI i) ∧ selG r.2 c m i l' = selG r.2 c r.1 0 l) ?_ ?_ (by omega)
        · rintro m z ⟨i, l', hi, hl', rfl, he⟩
          dsimp only
          rw [if_pos (in0 (by omega)), cl0, x.1.1]
          by_cases hd : r.1 ≤ i
          · have hm : m = 0 := by omega
            subst hm
            rw [if_pos (by simp (disch := omega) only [nI_leI, nI_ltI, nI_eq, nI_add, nI_clamp, pk_sub, pk_mul, nI_m1, nI_le0, nI_lt0, nI_0le, nI_0lt, nI_z, inb_nI, decide_eq_true_eq]; omega), ← he]
            rfl
          · obtain ⟨m', rfl⟩ : ∃ m', m = m' + 1 := ⟨m - 1, by omega⟩
            have hs2 := ho.2 i (by omega)
            have e3 : nI 1 + nI i = nI (1 + i) := nI_add _ _
            have e4 : Int32.toNatClampNeg (nI (1 + i)) = 1 + i := nI_clamp (by omega)
            rw [if_neg (by simp (disch := omega) only [nI_leI, nI_ltI, nI_eq, nI_add, nI_clamp, pk_sub, pk_mul, nI_m1, nI_le0, nI_lt0, nI_0le, nI_0lt, nI_z, inb_nI, decide_eq_true_eq]; omega)]
            simp only [e3, e4, x.1.el (show i < r.1 by omega)]
            rw [if_pos (by simp (disch := omega) only [nI_leI, nI_ltI, nI_eq, nI_add, nI_clamp, pk_sub, pk_mul, nI_m1, nI_le0, nI_lt0, nI_0le, nI_0lt, nI_z, inb_nI, decide_eq_true_eq]; omega)]
            have e0 : selG r.2 c (m' + 1) i l' = if r.2 i = c then (if l' = 0 then some i else selG r.2 c m' (i + 1) (l' - 1)) else selG r.2 c m' (i + 1) l' := rfl
            rw [e0] at he
            refine Ok.jnI ?_
            by_cases hq : r.2 i = c
            · rw [if_pos hq] at he
              rw [if_pos (by simp (disch := omega) only [nI_leI, nI_ltI, nI_eq, nI_add, nI_clamp, pk_sub, pk_mul, nI_m1, nI_le0, nI_lt0, nI_0le, nI_0lt, nI_z, inb_nI, decide_eq_true_eq]; exact hq)]
              refine Ok.inlI (Ok.jnI ?_)
              rw [if_neg (by decide)]
              by_cases hz : l' = 0
              · rw [if_pos hz] at he
                rw [if_pos (by simp (disch := omega) only [nI_leI, nI_ltI, nI_eq, nI_add, nI_clamp, pk_sub, pk_mul, nI_m1, nI_le0, nI_lt0, nI_0le, nI_0lt, nI_z, inb_nI, decide_eq_true_eq]; exact hz)]
                show nI i = _
                rw [← he]
                rfl
              · rw [if_neg hz] at he
                rw [if_neg (by simp (disch := omega) only [nI_leI, nI_ltI, nI_eq, nI_add, nI_clamp, pk_sub, pk_mul, nI_m1, nI_le0, nI_lt0, nI_0le, nI_0lt, nI_z, inb_nI, decide_eq_true_eq]; exact hz)]
                show Ok _ _
                rw [if_neg (by decide)]
                exact ⟨m', by omega, i + 1, l' - 1, by omega, by omega, by rw [pk_sub (by omega), nI_add], he⟩
            · rw [if_neg hq] at he
              rw [if_neg (by simp (disch := omega) only [nI_leI, nI_ltI, nI_eq, nI_add, nI_clamp, pk_sub, pk_mul, nI_m1, nI_le0, nI_lt0, nI_0le, nI_0lt, nI_z, inb_nI, decide_eq_true_eq]; exact hq)]
              refine Ok.inlI (Ok.jnI ?_)
              rw [if_pos (by decide)]
              show Ok _ _
              rw [if_pos (by decide)]
              exact ⟨m', by omega, i + 1, l', by omega, by omega, by rw [pk_sub (by omega), Nat.sub_zero, nI_add], he⟩
        · exact ⟨0, l, by omega, by omega, rfl, rfl⟩
theorem foundOr_t {s : Nat} (hs : s < 16) : f_X6_symbolOrNotFound (nI s) = some (nI s) := by
  unfold f_X6_symbolOrNotFound
  rw [if_neg]
  intro h
  have h1 : (nI s).toInt = s := nI_toInt (by omega)
  rw [h] at h1
  have h2 : (-1 : Int32).toInt = -1 := by decide
  omega
theorem foundOr_f : f_X6_symbolOrNotFound (-1) = some (-1000004) := by decide
theorem op_smallest {F : Nat} {r : Rw} {h : Nat} {H : Nat → Rw} {t : Rw} (hF : 300 ≤ F) (ho : okR r) (ot : okT t) (a b i : Int32) : Op (f_X6_smallest F a b i) (f_X7_smallest F a b i) r h H t := by
  have hn := ho.1
  rcases span_cases a b (n := r.1) (by omega) with hs | ⟨a, b, rfl, rfl, hab, hb⟩
  · refine Op.err (-1000001) ho ot (fun M x => ?_) (fun M x => ?_)
    · unfold f_X6_smallest
      rw [hasSpan_f x.1 hs, Option.bind_some, if_pos (by decide)]
    · unfold f_X7_smallest
      rw [isSpan_f x.1 hn hs, Option.bind_some, if_pos (by decide)]
  · by_cases h0 : i < 0
    · refine Op.err (-1000001) ho ot (fun M x => ?_) (fun M x => ?_)
      · unfold f_X6_smallest
        rw [hasSpan_t x.1 hn hab hb, Option.bind_some, if_neg (by decide), if_neg (neg_le h0)]
      · unfold f_X7_smallest
        rw [isSpan_t x.1 hn hab hb, Option.bind_some, if_neg (by decide), if_neg (neg_le h0)]
    · obtain ⟨l, hl, rfl⟩ := nI_of h0
      have hcl := fun v => cnt_le r.2 a v (b - a)
      refine Op.same (if sasG (cnt r.2 a (b - a)) 16 0 l < 16 then nI (sasG (cnt r.2 a (b - a)) 16 0 l) else -1000004) ho ot (fun M x => ?_) (fun M x => ?_)
      · unfold f_X6_smallest
        rw [hasSpan_t x.1 hn hab hb, Option.bind_some, if_neg (by decide), if_pos (nI_pos' hl)]
        refine Ok.bindI (fill_t (by omega) x.1 ho hab hb (by omega) (by omega)) ?_
        rintro M1 ⟨t1, t2⟩
        rw [symbolAtSorted_t (by omega) t1 (fun v => by have := hcl v; omega) hl, Option.bind_some]
        by_cases hq : sasG (cnt r.2 a (b - a)) 16 0 l < 16
        · rw [if_pos hq, if_pos hq, foundOr_t hq, Option.bind_some]
          exact ⟨rfl, fun k hk => t2 k (by omega)⟩
        · rw [if_neg hq, if_neg hq, foundOr_f, Option.bind_some]
          exact ⟨rfl, fun k hk => t2 k (by omega)⟩
      · unfold f_X7_smallest
        rw [isSpan_t x.1 hn hab hb, Option.bind_some, if_neg (by decide), if_pos (nI_pos' hl)]
        refine Ok.bindI (counts_t (by omega) x.1 ho hab hb) ?_
        rintro M1 ⟨t1, t2⟩
        generalize cnt r.2 a (b - a) = c at t1 hcl ⊢
        refine Ok.lpN (m0 := 16) (fun m z => ∃ v l', v + m = 16 ∧ z = (nI l', nI v) ∧ l' < 2 ^ 31 ∧ sasG c m v l' = sasG c 16 0 l) ?_ ?_ (by omega)
        · rintro m z ⟨v, l', hv, rfl, h1, h2⟩
          dsimp only
          have fr : M1 40 4 = M 40 4 ∧ M1 40 6 = M 40 6 ∧ ∀ k, k < 40 ∨ k = 41 ∨ k = 42 ∨ k = 45 → M1 k = M k := ⟨by rw [t2 40 (by omega)], by rw [t2 40 (by omega)], fun k hk => t2 k (by omega)⟩
          by_cases hm : 16 ≤ v
          · have hm0 : m = 0 := by omega
            subst hm0
            have h3 : sasG c 16 0 l = 16 := h2.symm
            rw [if_pos (by simp (disch := omega) only [nI_leI, nI_ltI, nI_eq, nI_add, nI_clamp, pk_sub, pk_mul, nI_m1, nI_le0, nI_lt0, nI_0le, nI_0lt, nI_z, inb_nI, decide_eq_true_eq]; omega), h3]
            exact ⟨rfl, fr⟩
          · obtain ⟨m', rfl⟩ : ∃ m', m = m' + 1 := ⟨m - 1, by omega⟩
            have e := t1 v (by omega)
            have hcv := hcl v
            rw [if_neg (by simp (disch := omega) only [nI_leI, nI_ltI, nI_eq, nI_add, nI_clamp, pk_sub, pk_mul, nI_m1, nI_le0, nI_lt0, nI_0le, nI_0lt, nI_z, inb_nI, decide_eq_true_eq]; omega), if_pos (by simp (disch := omega) only [nI_leI, nI_ltI, nI_eq, nI_add, nI_clamp, pk_sub, pk_mul, nI_m1, nI_le0, nI_lt0, nI_0le, nI_0lt, nI_z, inb_nI, decide_eq_true_eq]; omega), nI_clamp (by omega)]
            simp only [e]
            have h3 : sasG c (m' + 1) v l' = if l' < c v then v else sasG c m' (v + 1) (l' - c v) := rfl
            rw [h3] at h2
            by_cases hq : l' < c v
            · rw [if_pos hq] at h2
              rw [if_neg (by simp (disch := omega) only [nI_leI, nI_ltI, nI_eq, nI_add, nI_clamp, pk_sub, pk_mul, nI_m1, nI_le0, nI_lt0, nI_0le, nI_0lt, nI_z, inb_nI, decide_eq_true_eq]; omega), ← h2]
              refine ⟨?_, fr⟩
              show nI v = _
              rw [if_pos (by omega)]
            · rw [if_neg hq] at h2
              rw [if_pos (by simp (disch := omega) only [nI_leI, nI_ltI, nI_eq, nI_add, nI_clamp, pk_sub, pk_mul, nI_m1, nI_le0, nI_lt0, nI_0le, nI_0lt, nI_z, inb_nI, decide_eq_true_eq]; omega), if_pos (by simp (disch := omega) only [nI_leI, nI_ltI, nI_eq, nI_add, nI_clamp, pk_sub, pk_mul, nI_m1, nI_le0, nI_lt0, nI_0le, nI_0lt, nI_z, inb_nI, decide_eq_true_eq]; omega)]
              refine ⟨m', by omega, v + 1, l' - c v, by omega, ?_, by omega, h2⟩
              rw [nI_add, pk_sub (by omega)]
        · exact ⟨0, l, by omega, rfl, hl, rfl⟩
