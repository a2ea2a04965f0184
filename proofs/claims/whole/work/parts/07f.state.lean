def okT (t : Rw) : Prop := t.1 ≤ 60 ∧ ∀ i, i < t.1 → 32 ≤ t.2 i ∧ t.2 i ≤ 126
def Cls (M : Mm) (r : Rw) (h : Nat) (H : Nat → Rw) (t : Rw) : Prop := RwP M 1 r.1 r.2 ∧ HsC M h H ∧ RwP M 37 t.1 t.2
def Ref (M : Mm) (r : Rw) (h : Nat) (H : Nat → Rw) (t : Rw) : Prop := SqP (M 41) 0 r ∧ HsR M h H ∧ M 40 6 = nI t.1 ∧ ∀ i, i < t.1 → M 45 i = nI (t.2 i)
theorem Cls.keep {M M' : Mm} {r : Rw} {h : Nat} {H : Nat → Rw} {t : Rw} (x : Cls M r h H t) (e : ∀ k, (1 ≤ k ∧ k ≤ 10) ∨ k = 13 ∨ k = 37 ∨ k = 38 → M' k = M k) : Cls M' r h H t :=
  ⟨x.1.keep (e _ (by omega)) (e _ (by omega)), x.2.1.keep (fun k hk => e k (by omega)), x.2.2.keep (e _ (by omega)) (e _ (by omega))⟩
theorem Ref.keep {M M' : Mm} {r : Rw} {h : Nat} {H : Nat → Rw} {t : Rw} (x : Ref M r h H t) (e1 : M' 40 4 = M 40 4) (e2 : M' 40 6 = M 40 6) (e : ∀ k, k = 41 ∨ k = 42 ∨ k = 45 → M' k = M k) : Ref M' r h H t :=
  ⟨by rw [e 41 (by omega)]; exact x.1, x.2.1.keep e1 (e 42 (by omega)), by rw [e2]; exact x.2.2.1, fun i hi => by rw [e 45 (by omega)]; exact x.2.2.2 i hi⟩
/-- one call on both sides: the same answer, the same state behind -/
def Op {α : Type} (oc om : Mm → Option (α × Mm)) (r : Rw) (h : Nat) (H : Nat → Rw) (t : Rw) : Prop :=
  ∃ (v : α) (r' : Rw) (h' : Nat) (H' : Nat → Rw) (t' : Rw), okR r' ∧ okT t' ∧ (∀ M, Cls M r h H t → Ok (oc M) (fun z => z.1 = v ∧ Cls z.2 r' h' H' t' ∧ ∀ k, 40 ≤ k → z.2 k = M k)) ∧ (∀ M, Ref M r h H t → Ok (om M) (fun z => z.1 = v ∧ Ref z.2 r' h' H' t' ∧ ∀ k, k < 40 → z.2 k = M k))
/-- a call that only reads, as one that writes -/
def rd {α : Type} (o : Mm → Option α) : Mm → Option (α × Mm) := fun M => (o M).bind (fun v => some (v, M))
theorem rd_ok {α : Type} {o : Mm → Option α} {M : Mm} {v : α} {P : α × Mm → Prop} (e : o M = some v) (h : P (v, M)) : Ok (rd o M) P := by
  unfold rd
  rw [e]
  exact h
theorem Cls.edit {M M1 M2 : Mm} {r r' : Rw} {h h' : Nat} {H H' : Nat → Rw} {t : Rw} (x : Cls M r h H t) (y : HsC M1 h' H') (f1 : ∀ k, (k < 3 ∨ 10 < k) → k ≠ 13 → M1 k = M k) (z : RwP M2 1 r'.1 r'.2) (f2 : ∀ k, k ≠ 1 → k ≠ 2 → M2 k = M1 k) : Cls M2 r' h' H' t ∧ ∀ k, 40 ≤ k → M2 k = M k := by
  refine ⟨⟨z, y.keep (fun k hk => f2 k (by omega) (by omega)), x.2.2.keep ?_ ?_⟩, fun k hk => ?_⟩
  · rw [f2 37 (by omega) (by omega), f1 37 (by omega) (by omega)]
  · rw [f2 38 (by omega) (by omega), f1 38 (by omega) (by omega)]
  · rw [f2 k (by omega) (by omega), f1 k (by omega) (by omega)]
theorem SqP.of_copy {g g' : Nat → Int32} {r : Rw} (h : SqP g 0 r) (hn : r.1 ≤ 60) (e : ∀ i, i < 61 → g' i = g i) : SqP g' 0 r := ⟨by rw [e 0 (by omega)]; exact h.1, fun i hi => by rw [e _ (by omega)]; exact h.2 i hi⟩
theorem ref_edit {F : Nat} {M : Mm} {r r' : Rw} {h : Nat} {H : Nat → Rw} {t : Rw} {om : Mm → Option (Int32 × Mm)} {v : Int32} (hF : 300 ≤ F) (x : Ref M r h H t) (ho : okR r) (hv : ¬ v ≤ (-1000001 : Int32)) (hop : ∀ M1, SqP (M1 41) 0 r → Ok (om M1) (fun z => z.1 = v ∧ SqP (z.2 41) 0 r' ∧ ∀ k, k ≠ 41 → z.2 k = M1 k)) :
    Ok ((f_X7_keeps F M).bind fun r1 => (om r1).bind fun r3 => (f_X7_acted F r3.1 r3.2).bind fun r5 => some (r5.1, r5.2)) (fun z => z.1 = v ∧ Ref z.2 r' (pshN h) (pshH h H r) t ∧ ∀ k, k < 40 → z.2 k = M k) := by
  refine Ok.bindI (keeps_t (by omega)) ?_
  rintro M1 ⟨k1, k2⟩
  refine Ok.bindI (hop M1 (by rw [k2 41 (by omega)]; exact x.1)) ?_
  rintro ⟨v', M2⟩ ⟨p1, p2, p3⟩
  dsimp only at p1 p2 p3 ⊢
  subst p1
  have e43 : SqP (M2 43) 0 r := x.1.of_copy ho.1 (fun i hi => by rw [p3 43 (by omega)]; exact k1 i hi)
  have hs : HsR M2 h H := x.2.1.keep (by rw [p3 40 (by omega), k2 40 (by omega)]) (by rw [p3 42 (by omega), k2 42 (by omega)])
  refine Ok.bindI (acted_t hF hv hs e43 ho) ?_
  rintro ⟨v2, M3⟩ ⟨q1, q2, q3, q4⟩
  refine ⟨q1, ⟨?_, q2, ?_, fun i hi => ?_⟩, fun k hk => ?_⟩
  · dsimp only at q4 ⊢
    rw [q4 41 (by omega) (by omega)]
    exact p2
  · dsimp only at q3 ⊢
    rw [q3 6 (by omega), p3 40 (by omega), k2 40 (by omega)]
    exact x.2.2.1
  · dsimp only at q4 ⊢
    rw [q4 45 (by omega) (by omega), p3 45 (by omega), k2 45 (by omega)]
    exact x.2.2.2 i hi
  · dsimp only at q4 ⊢
    rw [q4 k (by omega) (by omega), p3 k (by omega), k2 k (by omega)]
theorem ref_err {F : Nat} {M : Mm} {r : Rw} {h : Nat} {H : Nat → Rw} {t : Rw} {om : Mm → Option (Int32 × Mm)} {v : Int32} (hF : 300 ≤ F) (x : Ref M r h H t) (hv : v ≤ (-1000001 : Int32)) (hop : ∀ M1, SqP (M1 41) 0 r → om M1 = some (v, M1)) :
    Ok ((f_X7_keeps F M).bind fun r1 => (om r1).bind fun r3 => (f_X7_acted F r3.1 r3.2).bind fun r5 => some (r5.1, r5.2)) (fun z => z.1 = v ∧ Ref z.2 r h H t ∧ ∀ k, k < 40 → z.2 k = M k) := by
  refine Ok.bindI (keeps_t (by omega)) ?_
  rintro M1 ⟨k1, k2⟩
  rw [hop M1 (by rw [k2 41 (by omega)]; exact x.1), Option.bind_some, acted_f hv]
  exact ⟨rfl, x.keep (by show M1 40 4 = _; rw [k2 40 (by omega)]) (by show M1 40 6 = _; rw [k2 40 (by omega)]) (fun k hk => k2 k (by omega)), fun k hk => k2 k (by omega)⟩
theorem okR.ins {r : Rw} (ho : okR r) (hn : r.1 < 60) {j b : Nat} (hj : j ≤ r.1) (hb : b < 16) : okR (r.1 + 1, insF r.2 j b) := by
  refine ⟨by dsimp only; omega, fun i hi => ?_⟩
  dsimp only at hi ⊢
  unfold insF
  by_cases h1 : i < j
  · rw [if_pos h1]
    exact ho.2 i (by omega)
  · by_cases h2 : i = j
    · rw [if_neg h1, if_pos h2]
      exact hb
    · rw [if_neg h1, if_neg h2]
      exact ho.2 _ (by omega)
theorem okR.rem {r : Rw} (ho : okR r) {j : Nat} (hj : j < r.1) : okR (r.1 - 1, remF r.2 j) := by
  have := ho.1
  refine ⟨by dsimp only; omega, fun i hi => ?_⟩
  dsimp only at hi ⊢
  unfold remF
  by_cases h1 : i < j
  · rw [if_pos h1]
    exact ho.2 i (by omega)
  · rw [if_neg h1]
    exact ho.2 _ (by omega)
theorem okR.set {r : Rw} (ho : okR r) {j b : Nat} (hb : b < 16) : okR (r.1, setF r.2 j b) := by
  refine ⟨ho.1, fun i hi => ?_⟩
  dsimp only at hi ⊢
  unfold setF
  by_cases h1 : i = j
  · rw [if_pos h1]
    exact hb
  · rw [if_neg h1]
    exact ho.2 _ hi
theorem okR.swp {r : Rw} (ho : okR r) {a b : Nat} (ha : a < r.1) (hb : b < r.1) : okR (r.1, swpF r.2 a b) := by
  refine ⟨ho.1, fun i hi => ?_⟩
  dsimp only at hi ⊢
  unfold swpF
  by_cases h1 : i = b
  · rw [if_pos h1]
    exact ho.2 _ ha
  · rw [if_neg h1]
    by_cases h2 : i = a
    · rw [if_pos h2]
      exact ho.2 _ hb
    · rw [if_neg h2]
      exact ho.2 _ hi
theorem nI_not_err {n : Nat} (h : n < 2 ^ 31) : ¬ nI n ≤ (-1000001 : Int32) := by
  rw [Int32.le_iff_toInt_le, nI_toInt h]
  have : (-1000001 : Int32).toInt = -1000001 := by decide
  omega
/-- a call that answers at once the same on both sides and changes nothing that counts -/
theorem Op.same {α : Type} {oc om : Mm → Option (α × Mm)} {r : Rw} {h : Nat} {H : Nat → Rw} {t : Rw} (v : α) (ho : okR r) (ot : okT t) (hc : ∀ M, Cls M r h H t → Ok (oc M) (fun z => z.1 = v ∧ ∀ k, (1 ≤ k ∧ k ≤ 10) ∨ k = 13 ∨ k = 37 ∨ k = 38 ∨ 40 ≤ k → z.2 k = M k)) (hm : ∀ M, Ref M r h H t → Ok (om M) (fun z => z.1 = v ∧ z.2 40 4 = M 40 4 ∧ z.2 40 6 = M 40 6 ∧ ∀ k, k < 40 ∨ k = 41 ∨ k = 42 ∨ k = 45 → z.2 k = M k)) : Op oc om r h H t :=
  ⟨v, r, h, H, t, ho, ot, fun M x => (hc M x).mono (fun z hz => ⟨hz.1, x.keep (fun k hk => hz.2 k (by omega)), fun k hk => hz.2 k (by omega)⟩), fun M x => (hm M x).mono (fun z hz => ⟨hz.1, x.keep hz.2.1 hz.2.2.1 (fun k hk => hz.2.2.2 k (by omega)), fun k hk => hz.2.2.2 k (by omega)⟩)⟩
/-- an error on both sides: nothing is done -/
theorem Op.err {α : Type} {oc om : Mm → Option (α × Mm)} {r : Rw} {h : Nat} {H : Nat → Rw} {t : Rw} (v : α) (ho : okR r) (ot : okT t) (hc : ∀ M, Cls M r h H t → oc M = some (v, M)) (hm : ∀ M, Ref M r h H t → om M = some (v, M)) : Op oc om r h H t :=
  Op.same v ho ot (fun M x => by rw [hc M x]; exact ⟨rfl, fun _ _ => rfl⟩) (fun M x => by rw [hm M x]; exact ⟨rfl, rfl, rfl, fun _ _ => rfl⟩)
theorem lt_15 {b : Int32} (h : nI 16 ≤ b) : nI 15 < b := by
  rw [Int32.le_iff_toInt_le, nI_toInt (by omega)] at h
  rw [Int32.lt_iff_toInt_lt, nI_toInt (by omega)]
  omega
