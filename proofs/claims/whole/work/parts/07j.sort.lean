theorem RwP.conv {M : Mm} {k n : Nat} {f g : Nat → Nat} (h : RwP M k n f) (e : ∀ i, i < n → f i = g i) : RwP M k n g := ⟨h.1, fun i hi => by rw [← e i hi]; exact h.2 i hi⟩
def chg (f : Nat → Nat) (a : Nat) (c : Nat → Nat) : Nat → Nat
  | 0 => 0
  | m + 1 => chg f a c m + (if sasG c 16 0 m = f (a + m) then 0 else 1)
def srt (f : Nat → Nat) (a : Nat) (c : Nat → Nat) (m : Nat) : Nat → Nat := fun i => if a ≤ i ∧ i < a + m then sasG c 16 0 (i - a) else f i
theorem chg_le (f : Nat → Nat) (a : Nat) (c : Nat → Nat) : ∀ m, chg f a c m ≤ m
  | 0 => Nat.le_refl 0
  | m + 1 => by
    have := chg_le f a c m
    unfold chg
    split <;> omega
theorem srt_next (f : Nat → Nat) (a : Nat) (c : Nat → Nat) (m i : Nat) : (if i = a + m then sasG c 16 0 m else srt f a c m i) = srt f a c (m + 1) i := by
  unfold srt
  by_cases h1 : i = a + m
  · rw [if_pos h1, if_pos (by omega), show i - a = m by omega]
  · rw [if_neg h1]
    by_cases h2 : a ≤ i ∧ i < a + m
    · rw [if_pos h2, if_pos (by omega)]
    · rw [if_neg h2, if_neg (by omega)]
theorem srt_here (f : Nat → Nat) (a : Nat) (c : Nat → Nat) (m : Nat) : srt f a c m (a + m) = f (a + m) := if_neg (by omega)
theorem srt_0 (f : Nat → Nat) (a : Nat) (c : Nat → Nat) (i : Nat) : srt f a c 0 i = f i := if_neg (by omega)
theorem srt_ok {n : Nat} {f : Nat → Nat} {a m : Nat} {c : Nat → Nat} (ho : okR (n, f)) (hm : m ≤ pre c 16) : okR (n, srt f a c m) := by
  refine ⟨ho.1, fun i hi => ?_⟩
  dsimp only
  unfold srt
  by_cases h : a ≤ i ∧ i < a + m
  · rw [if_pos h]
    exact sas_lt (by omega)
  · rw [if_neg h]
    exact ho.2 i hi
theorem span_tot {n : Nat} {f : Nat → Nat} {a b : Nat} (ho : okR (n, f)) (hab : a ≤ b) (hb : b ≤ n) : pre (cnt f a (b - a)) 16 = b - a := by
  rw [pre_cnt]
  exact bel_all _ (fun i hi => ho.2 (a + i) (by dsimp only; omega))
theorem layOut_t {F : Nat} {M : Mm} {k k1 a b : Nat} {r : Rw} (hF : 100 ≤ F) (h : RwP M k r.1 r.2) (ho : okR r) (hab : a ≤ b) (hb : b ≤ r.1) (ht : Tl (M (k1 + 1)) (cnt r.2 a (b - a))) (e1 : k1 + 1 ≠ k) (e2 : k1 ≠ k) : Ok (f_X3_layOut F k (nI a) (nI b) k1 M) (fun z => z.1 = nI (chg r.2 a (cnt r.2 a (b - a)) (b - a)) ∧ RwP z.2 k r.1 (srt r.2 a (cnt r.2 a (b - a)) (b - a)) ∧ ∀ k', k' ≠ k → k' ≠ k + 1 → z.2 k' = M k') := by
  obtain ⟨n, f⟩ := r
  have hn := ho.1
  dsimp only at h hn hb ht ⊢
  have htot := span_tot ho hab hb
  have hcl := fun v => cnt_le f a v (b - a)
  generalize cnt f a (b - a) = c at ht htot hcl ⊢
  unfold f_X3_layOut
  refine Ok.lpN (m0 := b - a) (fun m z => ∃ j, j + m = b - a ∧ z.1 = nI (chg f a c j) ∧ z.2.1 = nI (a + j) ∧ RwP z.2.2 k n (srt f a c j) ∧ ∀ k', k' ≠ k → k' ≠ k + 1 → z.2.2 k' = M k') ?_ ?_ (by omega)
  · rintro m ⟨x1, x2, M1⟩ ⟨j, hj, h1, h2, h3, h4⟩
    dsimp only at h1 h2 h3 h4 ⊢
    subst h1 h2
    have hchg := chg_le f a c j
    by_cases hd : b ≤ a + j
    · rw [if_pos (by simp (disch := omega) only [nI_leI, nI_ltI, nI_eq, nI_add, nI_clamp, pk_sub, pk_mul, nI_m1, nI_le0, nI_lt0, nI_0le, nI_0lt, nI_z, inb_nI, decide_eq_true_eq]; omega)]
      have e : b - a = j := by omega
      rw [e]
      exact ⟨rfl, h3, h4⟩
    · have hs : sasG c 16 0 j < 16 := sas_lt (by omega)
      have ht1 : Tl (M1 (k1 + 1)) c := by
        rw [h4 (k1 + 1) e1 (by omega)]
        exact ht
      have es : nI (a + j) - nI a = nI j := by rw [pk_sub (by omega), show a + j - a = j by omega]
      have hfs : f (a + j) < 16 := ho.2 (a + j) (by dsimp only; omega)
      rw [if_neg (by simp (disch := omega) only [nI_leI, nI_ltI, nI_eq, nI_add, nI_clamp, pk_sub, pk_mul, nI_m1, nI_le0, nI_lt0, nI_0le, nI_0lt, nI_z, inb_nI, decide_eq_true_eq]; omega), es, symbolAtSorted_t hF ht1 (fun v => by have := hcl v; omega) (by omega), if_pos hs, Option.bind_some, at_t h3 hn (by omega), Option.bind_some, srt_here]
      have ex := replace_t h3 hn (j := a + j) (b := sasG c 16 0 j) (by omega)
      have e0 : chg f a c (j + 1) = chg f a c j + (if sasG c 16 0 j = f (a + j) then 0 else 1) := rfl
      by_cases hq : sasG c 16 0 j = f (a + j)
      · rw [if_pos (by simp (disch := omega) only [nI_leI, nI_ltI, nI_eq, nI_add, nI_clamp, pk_sub, pk_mul, nI_m1, nI_le0, nI_lt0, nI_0le, nI_0lt, nI_z, inb_nI, decide_eq_true_eq]; exact hq)]
        refine Ok.bindI ex ?_
        rintro M2 ⟨g1, g2⟩
        rw [if_pos hq] at e0
        refine ⟨m - 1, by omega, j + 1, by omega, ?_, ?_, g1.conv (fun i _ => srt_next f a c j i), fun k' a1 a2 => ?_⟩
        · show nI _ = nI _
          rw [e0, Nat.add_zero]
        · show nI (a + j) + nI 1 = _
          rw [nI_add, Nat.add_assoc]
        · show M2 k' = _
          rw [g2 k' a1 a2]
          exact h4 k' a1 a2
      · rw [if_neg (by simp (disch := omega) only [nI_leI, nI_ltI, nI_eq, nI_add, nI_clamp, pk_sub, pk_mul, nI_m1, nI_le0, nI_lt0, nI_0le, nI_0lt, nI_z, inb_nI, decide_eq_true_eq]; exact hq)]
        refine Ok.bindI ex ?_
        rintro M2 ⟨g1, g2⟩
        rw [if_neg hq] at e0
        refine ⟨m - 1, by omega, j + 1, by omega, ?_, ?_, g1.conv (fun i _ => srt_next f a c j i), fun k' a1 a2 => ?_⟩
        · show nI _ + nI 1 = nI _
          rw [e0, nI_add]
        · show nI (a + j) + nI 1 = _
          rw [nI_add, Nat.add_assoc]
        · show M2 k' = _
          rw [g2 k' a1 a2]
          exact h4 k' a1 a2
  · exact ⟨0, by omega, rfl, rfl, h.conv (fun i _ => (srt_0 f a c i).symm), fun _ _ _ => rfl⟩
theorem op_sort {F : Nat} {r : Rw} {h : Nat} {H : Nat → Rw} {t : Rw} (hF : 300 ≤ F) (ho : okR r) (ot : okT t) (a b : Int32) : Op (f_X6_sort F a b) (f_X7_sort F a b) r h H t := by
  have hn := ho.1
  rcases span_cases a b (n := r.1) (by omega) with hs | ⟨a, b, rfl, rfl, hab, hb⟩
  · refine Op.err (-1000001) ho ot (fun M x => ?_) (fun M x => ?_)
    · unfold f_X6_sort
      rw [hasSpan_f x.1 hs, Option.bind_some, if_pos (by decide)]
    · unfold f_X7_sort
      rw [isSpan_f x.1 hn hs, Option.bind_some, if_pos (by decide)]
  · have hchg := chg_le r.2 a (cnt r.2 a (b - a)) (b - a)
    have htot := span_tot ho hab hb
    refine ⟨nI (chg r.2 a (cnt r.2 a (b - a)) (b - a)), (r.1, srt r.2 a (cnt r.2 a (b - a)) (b - a)), pshN h, pshH h H r, t, srt_ok ho (by omega), ot, fun M x => ?_, fun M x => ?_⟩
    · unfold f_X6_sort
      rw [hasSpan_t x.1 hn hab hb, Option.bind_some, if_neg (by decide)]
      refine Ok.bindI (remember_t (by omega) x.2.1 x.1 ho (Or.inl rfl)) ?_
      rintro M1 ⟨y1, y2⟩
      have hr1 : RwP M1 1 r.1 r.2 := x.1.keep (y2 1 (by omega) (by omega)) (y2 2 (by omega) (by omega))
      refine Ok.bindI (fill_t (by omega) hr1 ho hab hb (by omega) (by omega)) ?_
      rintro M2 ⟨t1, t2⟩
      have hr2 : RwP M2 1 r.1 r.2 := hr1.keep (t2 1 (by omega)) (t2 2 (by omega))
      refine Ok.bindI (layOut_t (by omega) hr2 ho hab hb t1 (by omega) (by omega)) ?_
      rintro ⟨v, M3⟩ ⟨z0, z1, z2⟩
      dsimp only at z0 z1 z2
      refine ⟨z0, ?_⟩
      have y1' : HsC M2 (pshN h) (pshH h H r) := y1.keep (fun k hk => t2 k (by omega))
      refine ⟨⟨z1, y1'.keep (fun k hk => z2 k (by omega) (by omega)), x.2.2.keep ?_ ?_⟩, fun k hk => ?_⟩
      · show M3 37 = _
        rw [z2 37 (by omega) (by omega), t2 37 (by omega), y2 37 (by omega) (by omega)]
      · show M3 38 = _
        rw [z2 38 (by omega) (by omega), t2 38 (by omega), y2 38 (by omega) (by omega)]
      · show M3 k = _
        rw [z2 k (by omega) (by omega), t2 k (by omega), y2 k (by omega) (by omega)]
    · unfold f_X7_sort
      rw [isSpan_t x.1 hn hab hb, Option.bind_some, if_neg (by decide)]
      refine Ok.bindI (keeps_t (by omega)) ?_
      rintro M1 ⟨k1, k2⟩
      have hq1 : SqP (M1 41) 0 r := by
        rw [k2 41 (by omega)]
        exact x.1
      refine Ok.bindI (counts_t (by omega) hq1 ho hab hb) ?_
      rintro M2 ⟨t1, t2⟩
      have hcl := fun v => cnt_le r.2 a v (b - a)
      obtain ⟨n, f⟩ := r
      dsimp only at hn hb hchg htot t1 hcl ⊢
      generalize cnt f a (b - a) = c at hchg htot t1 hcl ⊢
      have hbeg : SqP (M2 43) 0 (n, f) := x.1.of_copy hn (fun i hi => by rw [t2 43 (by omega)]; exact k1 i hi)
      have hs2 : HsR M2 h H := x.2.1.keep (by rw [t2 40 (by omega), k2 40 (by omega)]) (by rw [t2 42 (by omega), k2 42 (by omega)])
      have hq2 : SqP (M2 41) 0 (n, f) := by
        rw [t2 41 (by omega)]
        exact hq1
      refine Ok.lpN (m0 := 16) (fun m z => ∃ v, v + m = 16 ∧ z.1 = nI (a + pre c v) ∧ z.2.1 = nI (chg f a c (pre c v)) ∧ z.2.2.1 = nI v ∧ SqP (z.2.2.2 41) 0 (n, srt f a c (pre c v)) ∧ ∀ k, k ≠ 41 → z.2.2.2 k = M2 k) ?_ ?_ (by omega)
      · rintro m ⟨x1, x2, x3, M3⟩ ⟨v, hv, h1, h2, h3, h4, h5⟩
        dsimp only at h1 h2 h3 h4 h5 ⊢
        subst h1 h2 h3
        have hpv := pre_mono c (show v ≤ 16 by omega)
        have hcv := chg_le f a c (pre c v)
        by_cases hd : 16 ≤ v
        · have e : v = 16 := by omega
          subst e
          rw [if_pos (by simp (disch := omega) only [nI_leI, nI_ltI, nI_eq, nI_add, nI_clamp, pk_sub, pk_mul, nI_m1, nI_le0, nI_lt0, nI_0le, nI_0lt, nI_z, inb_nI, decide_eq_true_eq]; omega)]
          have hs3 : HsR M3 h H := hs2.keep (by rw [h5 40 (by omega)]) (h5 42 (by omega))
          refine Ok.bindI (acted_t hF (nI_not_err (by omega)) hs3 (by rw [h5 43 (by omega)]; exact hbeg) ho) ?_
          rintro ⟨v2, M4⟩ ⟨q1, q2, q3, q4⟩
          dsimp only at q1 q2 q3 q4
          subst q1
          rw [htot] at h4
          refine ⟨by rw [htot], ⟨?_, q2, ?_, fun i hi => ?_⟩, fun k hk => ?_⟩
          · show SqP (M4 41) 0 _
            rw [q4 41 (by omega) (by omega)]
            exact h4
          · show M4 40 6 = _
            rw [q3 6 (by omega), h5 40 (by omega), t2 40 (by omega), k2 40 (by omega)]
            exact x.2.2.1
          · show M4 45 i = _
            rw [q4 45 (by omega) (by omega), h5 45 (by omega), t2 45 (by omega), k2 45 (by omega)]
            exact x.2.2.2 i hi
          · show M4 k = _
            rw [q4 k (by omega) (by omega), h5 k (by omega), t2 k (by omega), k2 k (by omega)]
        · rw [if_neg (by simp (disch := omega) only [nI_leI, nI_ltI, nI_eq, nI_add, nI_clamp, pk_sub, pk_mul, nI_m1, nI_le0, nI_lt0, nI_0le, nI_0lt, nI_z, inb_nI, decide_eq_true_eq]; omega)]
          have hp1 : pre c (v + 1) = pre c v + c v := rfl
          have hp2 := pre_mono c (show v + 1 ≤ 16 by omega)
          have hcv1 := hcl v
          refine Ok.lpN (m0 := c v) (fun m z => ∃ k, k + m = c v ∧ z.1 = nI (a + (pre c v + k)) ∧ z.2.1 = nI (chg f a c (pre c v + k)) ∧ z.2.2.1 = nI k ∧ SqP (z.2.2.2 41) 0 (n, srt f a c (pre c v + k)) ∧ ∀ k', k' ≠ 41 → z.2.2.2 k' = M2 k') ?_ ?_ (by omega)
          · rintro m' ⟨y1, y2, y3, M4⟩ ⟨k, hk, g1, g2, g3, g4, g5⟩
            dsimp only at g1 g2 g3 g4 g5 ⊢
            subst g1 g2 g3
            have hchk := chg_le f a c (pre c v + k)
            have e48 : M4 48 v = nI (c v) := by
              rw [g5 48 (by omega)]
              exact t1 v (by omega)
            rw [if_pos (by simp (disch := omega) only [nI_leI, nI_ltI, nI_eq, nI_add, nI_clamp, pk_sub, pk_mul, nI_m1, nI_le0, nI_lt0, nI_0le, nI_0lt, nI_z, inb_nI, decide_eq_true_eq]; omega), nI_clamp (by omega)]
            simp only [e48]
            by_cases hd2 : c v ≤ k
            · rw [if_pos (by simp (disch := omega) only [nI_leI, nI_ltI, nI_eq, nI_add, nI_clamp, pk_sub, pk_mul, nI_m1, nI_le0, nI_lt0, nI_0le, nI_0lt, nI_z, inb_nI, decide_eq_true_eq]; omega)]
              have ek : k = c v := by omega
              subst ek
              refine ⟨m - 1, by omega, v + 1, by omega, ?_, ?_, nI_add v 1, ?_, g5⟩
              · rw [hp1]
              · rw [hp1]
              · rw [hp1]
                exact g4
            · have hp : a + (pre c v + k) < n := by omega
              have e3 : nI 1 + nI (a + (pre c v + k)) = nI (1 + (a + (pre c v + k))) := nI_add _ _
              have e4 : Int32.toNatClampNeg (nI (1 + (a + (pre c v + k)))) = 1 + (a + (pre c v + k)) := nI_clamp (by omega)
              have e43 : up M4 41 (1 + (a + (pre c v + k))) (nI v) 43 (1 + (a + (pre c v + k))) = nI (f (a + (pre c v + k))) := by
                rw [up_n (by omega), g5 43 (by omega)]
                exact hbeg.el hp
              have hfs : f (a + (pre c v + k)) < 16 := ho.2 _ (by dsimp only; omega)
              have hsas : sasG c 16 0 (pre c v + k) = v := by
                have := sas_at (show k < c v by omega) 16 0 (by omega) (by omega) (by omega)
                rwa [show pre c v - pre c 0 + k = pre c v + k by rfl] at this
              have e0 : chg f a c (pre c v + k + 1) = chg f a c (pre c v + k) + (if sasG c 16 0 (pre c v + k) = f (a + (pre c v + k)) then 0 else 1) := rfl
              rw [hsas] at e0
              have gq : SqP (up M4 41 (1 + (a + (pre c v + k))) (nI v) 41) 0 (n, srt f a c (pre c v + (k + 1))) := by
                refine ⟨?_, fun i hi => ?_⟩
                · rw [up_sn (by omega)]
                  exact g4.1
                · dsimp only at hi ⊢
                  rw [show pre c v + (k + 1) = pre c v + k + 1 by omega, ← srt_next, hsas, show 0 + 1 + i = 1 + i by omega]
                  by_cases hi2 : i = a + (pre c v + k)
                  · subst hi2
                    rw [up_ss, if_pos rfl]
                  · rw [up_sn (by omega), if_neg hi2]
                    exact g4.el hi
              rw [if_neg (by simp (disch := omega) only [nI_leI, nI_ltI, nI_eq, nI_add, nI_clamp, pk_sub, pk_mul, nI_m1, nI_le0, nI_lt0, nI_0le, nI_0lt, nI_z, inb_nI, decide_eq_true_eq]; omega)]
              simp only [e3, e4, e43]
              rw [if_pos (by simp (disch := omega) only [nI_leI, nI_ltI, nI_eq, nI_add, nI_clamp, pk_sub, pk_mul, nI_m1, nI_le0, nI_lt0, nI_0le, nI_0lt, nI_z, inb_nI, decide_eq_true_eq]; omega), if_pos (by simp (disch := omega) only [nI_leI, nI_ltI, nI_eq, nI_add, nI_clamp, pk_sub, pk_mul, nI_m1, nI_le0, nI_lt0, nI_0le, nI_0lt, nI_z, inb_nI, decide_eq_true_eq]; omega)]
              have ep : nI (a + (pre c v + k)) + nI 1 = nI (a + (pre c v + (k + 1))) := nI_add _ _
              by_cases hq : f (a + (pre c v + k)) = v
              · rw [if_pos (by simp (disch := omega) only [nI_leI, nI_ltI, nI_eq, nI_add, nI_clamp, pk_sub, pk_mul, nI_m1, nI_le0, nI_lt0, nI_0le, nI_0lt, nI_z, inb_nI, decide_eq_true_eq]; exact hq)]
                rw [if_pos hq.symm] at e0
                refine ⟨m' - 1, by omega, k + 1, by omega, ep, ?_, nI_add k 1, gq, fun k' a1 => ?_⟩
                · show nI _ + nI 0 = nI _
                  rw [nI_add, show pre c v + (k + 1) = pre c v + k + 1 by omega, e0]
                · show up M4 41 _ _ k' = _
                  rw [up_n a1]
                  exact g5 k' a1
              · rw [if_neg (by simp (disch := omega) only [nI_leI, nI_ltI, nI_eq, nI_add, nI_clamp, pk_sub, pk_mul, nI_m1, nI_le0, nI_lt0, nI_0le, nI_0lt, nI_z, inb_nI, decide_eq_true_eq]; exact hq)]
                rw [if_neg (fun e => hq e.symm)] at e0
                refine ⟨m' - 1, by omega, k + 1, by omega, ep, ?_, nI_add k 1, gq, fun k' a1 => ?_⟩
                · show nI _ + nI 1 = nI _
                  rw [nI_add, show pre c v + (k + 1) = pre c v + k + 1 by omega, e0]
                · show up M4 41 _ _ k' = _
                  rw [up_n a1]
                  exact g5 k' a1
          · exact ⟨0, by omega, by rw [Nat.add_zero], by rw [Nat.add_zero], rfl, by rw [Nat.add_zero]; exact h4, h5⟩
      · refine ⟨0, by omega, rfl, rfl, rfl, ?_, fun _ _ => rfl⟩
        exact ⟨hq2.1, fun i hi => by
          have := hq2.2 i hi
          dsimp only at this ⊢
          rw [show srt f a c (pre c 0) i = f i from srt_0 f a c i]
          exact this⟩
