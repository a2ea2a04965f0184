/-! pure layer: rules for Ok, numbers -/
theorem Ok.bindI {α β : Type} {o : Option α} {f : α → Option β} {P : α → Prop} {Q : β → Prop} (h : Ok o P) (k : ∀ a, P a → Ok (f a) Q) : Ok (o.bind f) Q := by
  obtain ⟨a, rfl, ha⟩ := h.ex
  exact k a ha
theorem Ok.bindE {α β : Type} {o : Option α} {f : α → Option β} {a : α} {Q : β → Prop} (h : o = some a) (k : Ok (f a) Q) : Ok (o.bind f) Q := by
  subst h
  exact k
theorem Ok.ifT {α : Type} {c : Prop} [Decidable c] {a b : Option α} {P : α → Prop} (hc : c) (h : Ok a P) : Ok (if c then a else b) P := by rw [if_pos hc]; exact h
theorem Ok.ifF {α : Type} {c : Prop} [Decidable c] {a b : Option α} {P : α → Prop} (hc : ¬ c) (h : Ok b P) : Ok (if c then a else b) P := by rw [if_neg hc]; exact h
theorem Ok.ifc {α : Type} {c : Prop} [Decidable c] {a b : Option α} {P : α → Prop} (h1 : c → Ok a P) (h2 : ¬ c → Ok b P) : Ok (if c then a else b) P := by
  by_cases hc : c
  · exact Ok.ifT hc (h1 hc)
  · exact Ok.ifF hc (h2 hc)
theorem Ok.jnI {τ ρ : Type} {c : Option (τ ⊕ ρ)} {f : τ → Option ρ} {P : ρ → Prop} (h : Ok c (Sum.elim (fun z => Ok (f z) P) P)) : Ok (jn c f) P := by
  obtain ⟨a, rfl, ha⟩ := h.ex
  cases a with
  | inl z => exact ha
  | inr r => exact ha
theorem Ok.lp {σ ρ : Type} {body : σ → Option (σ ⊕ ρ)} {P : ρ → Prop} (I : σ → Prop) (μ : σ → Nat) (hs : ∀ s, I s → Ok (body s) (Sum.elim (fun s' => I s' ∧ μ s' < μ s) P)) {F : Nat} {s0 : σ} (h0 : I s0) (hF : μ s0 < F) : Ok (lpf body F s0) P := by
  induction F generalizing s0 with
  | zero => omega
  | succ n ih =>
    show Ok ((body s0).bind (Sum.elim (lpf body n) some)) P
    refine Ok.bindI (hs s0 h0) ?_
    intro a ha
    cases a with
    | inl s' => exact ih ha.1 (by have := ha.2; omega)
    | inr r => exact ha
theorem Ok.eq {α : Type} {o : Option α} {a : α} (h : Ok o (fun r => r = a)) : o = some a := by
  obtain ⟨b, rfl, rfl⟩ := h.ex
  rfl
theorem inb_nI {j n : Nat} (hj : j < 2 ^ 31) : (inb (nI j) n = true) = (j < n) := by
  unfold inb
  rw [nI_clamp hj]
  have h : ¬ nI j < 0 := nI_pos hj
  simp only [h, decide_false, Bool.false_or, Bool.not_eq_true', decide_eq_false_iff_not, Nat.not_le]
theorem nI_m1 {n : Nat} (h : 0 < n) : nI n + (-1 : Int32) = nI (n - 1) := by
  obtain ⟨m, rfl⟩ : ∃ m, n = m + 1 := ⟨n - 1, by omega⟩
  exact pk_m1 m
theorem nI_le0 {n : Nat} (h : n < 2 ^ 31) : (nI n ≤ 0) = (n = 0) := by
  have h0 : (0 : Int32) = nI 0 := by decide
  rw [h0, nI_leI h (by omega)]
  exact propext (by omega)
theorem nI_lt0 {n : Nat} (h : n < 2 ^ 31) : (nI n < 0) = False := eq_false (nI_pos h)
theorem nI_0le {n : Nat} (h : n < 2 ^ 31) : (0 ≤ nI n) = True := eq_true (nI_pos' h)
theorem nI_0lt {n : Nat} (h : n < 2 ^ 31) : (0 < nI n) = (0 < n) := by
  have h0 : (0 : Int32) = nI 0 := by decide
  rw [h0, nI_ltI (by omega) h]
theorem nI_z {n : Nat} (h : n < 2 ^ 31) : (nI n = 0) = (n = 0) := by
  have h0 : (0 : Int32) = nI 0 := by decide
  rw [h0, nI_eq h (by omega)]
theorem upd_s {f : Nat → Int32} {k : Nat} {x : Int32} : upd f k x k = x := if_pos rfl
theorem upd_n {f : Nat → Int32} {k j : Nat} {x : Int32} (h : j ≠ k) : upd f k x j = f j := if_neg h
theorem up_s {M : Mm} {k i : Nat} {x : Int32} : up M k i x k = upd (M k) i x := if_pos rfl
theorem up_n {M : Mm} {k k' i : Nat} {x : Int32} (h : k' ≠ k) : up M k i x k' = M k' := if_neg h
theorem up_ss {M : Mm} {k i : Nat} {x : Int32} : up M k i x k i = x := by rw [up_s, upd_s]
theorem up_sn {M : Mm} {k i j : Nat} {x : Int32} (h : j ≠ i) : up M k i x k j = M k j := by rw [up_s, upd_n h]
/-- a row: n symbols, f -/
def RwP (M : Mm) (k n : Nat) (f : Nat → Nat) : Prop := M k 1 = nI n ∧ ∀ i, i < n → M (k + 1) i = nI (f i)
theorem RwP.keep {M M' : Mm} {k n : Nat} {f : Nat → Nat} (h : RwP M k n f) (h1 : M' k = M k) (h2 : M' (k + 1) = M (k + 1)) : RwP M' k n f := ⟨by rw [h1]; exact h.1, fun i hi => by rw [h2]; exact h.2 i hi⟩
theorem hasPlace_t {M : Mm} {k n j : Nat} {f : Nat → Nat} (h : RwP M k n f) (hn : n ≤ 60) (hj : j < n) : f_X3_hasPlace k (nI j) M = some (nI 1) := by
  unfold f_X3_hasPlace
  rw [h.1]
  simp (disch := omega) only [nI_leI, nI_ltI, nI_eq, nI_add, nI_clamp, pk_sub, pk_mul, nI_m1, nI_le0, nI_lt0, nI_0le, nI_0lt, nI_z, inb_nI, decide_eq_true_eq]
  (repeat' split) <;> first | rfl | (exfalso; omega) | omega | contradiction
theorem hasPlace_f {M : Mm} {k n : Nat} {a : Int32} {f : Nat → Nat} (h : RwP M k n f) (ha : a < 0 ∨ nI n ≤ a) : f_X3_hasPlace k a M = some (nI 0) := by
  unfold f_X3_hasPlace
  rw [h.1]
  by_cases h0 : a < 0
  · rw [if_pos h0]
  · rw [if_neg h0, if_pos (ha.resolve_left h0)]
theorem at_t {M : Mm} {k n j : Nat} {f : Nat → Nat} (h : RwP M k n f) (hn : n ≤ 60) (hj : j < n) : f_X3_at k (nI j) M = some (nI (f j)) := by
  unfold f_X3_at
  rw [hasPlace_t h hn hj, Option.bind_some]
  simp (disch := omega) only [nI_leI, nI_ltI, nI_eq, nI_add, nI_clamp, pk_sub, pk_mul, nI_m1, nI_le0, nI_lt0, nI_0le, nI_0lt, nI_z, inb_nI, decide_eq_true_eq]
  rw [if_neg (by omega), if_pos (by omega), h.2 j hj]
theorem at_f {M : Mm} {k n : Nat} {a : Int32} {f : Nat → Nat} (h : RwP M k n f) (ha : a < 0 ∨ nI n ≤ a) : f_X3_at k a M = some (-1) := by
  unfold f_X3_at
  rw [hasPlace_f h ha, Option.bind_some, if_pos (by decide)]
theorem isAtMost_t {j m : Nat} (hm : m < 2 ^ 31) (hj : j ≤ m) : f_X6_isAtMost (nI j) (nI m) = some (nI 1) := by
  unfold f_X6_isAtMost
  simp (disch := omega) only [nI_leI, nI_ltI, nI_eq, nI_add, nI_clamp, pk_sub, pk_mul, nI_m1, nI_le0, nI_lt0, nI_0le, nI_0lt, nI_z, inb_nI, decide_eq_true_eq]
  (repeat' split) <;> first | rfl | (exfalso; omega) | omega | contradiction
theorem isAtMost_f {a : Int32} {m : Nat} (ha : a < 0 ∨ nI m < a) : f_X6_isAtMost a (nI m) = some (nI 0) := by
  unfold f_X6_isAtMost
  by_cases h0 : a < 0
  · rw [if_pos h0]
  · rw [if_neg h0, if_pos (ha.resolve_left h0)]
theorem isSymbol_t {j : Nat} (hj : j < 16) : f_X6_isSymbol (nI j) = some (nI 1) := by
  unfold f_X6_isSymbol
  simp (disch := omega) only [nI_leI, nI_ltI, nI_eq, nI_add, nI_clamp, pk_sub, pk_mul, nI_m1, nI_le0, nI_lt0, nI_0le, nI_0lt, nI_z, inb_nI, decide_eq_true_eq]
  (repeat' split) <;> first | rfl | (exfalso; omega) | omega | contradiction
theorem isSymbol_f {a : Int32} (ha : a < 0 ∨ nI 16 ≤ a) : f_X6_isSymbol a = some (nI 0) := by
  unfold f_X6_isSymbol
  by_cases h0 : a < 0
  · rw [if_pos h0]
  · rw [if_neg h0, if_pos (ha.resolve_left h0)]
theorem hasSpan_t {M : Mm} {k n a b : Nat} {f : Nat → Nat} (h : RwP M k n f) (hn : n ≤ 60) (hab : a ≤ b) (hb : b ≤ n) : f_X3_hasSpan k (nI a) (nI b) M = some (nI 1) := by
  unfold f_X3_hasSpan
  rw [h.1]
  simp (disch := omega) only [nI_leI, nI_ltI, nI_eq, nI_add, nI_clamp, pk_sub, pk_mul, nI_m1, nI_le0, nI_lt0, nI_0le, nI_0lt, nI_z, inb_nI, decide_eq_true_eq]
  (repeat' split) <;> first | rfl | (exfalso; omega) | omega | contradiction
theorem hasSpan_f {M : Mm} {k n : Nat} {a b : Int32} {f : Nat → Nat} (h : RwP M k n f) (hab : a < 0 ∨ b < a ∨ nI n < b) : f_X3_hasSpan k a b M = some (nI 0) := by
  unfold f_X3_hasSpan
  rw [h.1]
  by_cases h0 : a < 0
  · rw [if_pos h0]
  · by_cases h1 : b < a
    · rw [if_neg h0, if_pos h1]
    · rw [if_neg h0, if_neg h1, if_pos ((hab.resolve_left h0).resolve_left h1)]
/-- what a span's two numbers can be -/
theorem span_cases (a b : Int32) {n : Nat} (hn : n < 2 ^ 31) : (a < 0 ∨ b < a ∨ nI n < b) ∨ ∃ i j : Nat, a = nI i ∧ b = nI j ∧ i ≤ j ∧ j ≤ n := by
  by_cases h0 : a < 0
  · exact Or.inl (Or.inl h0)
  · by_cases h1 : b < a
    · exact Or.inl (Or.inr (Or.inl h1))
    · by_cases h2 : nI n < b
      · exact Or.inl (Or.inr (Or.inr h2))
      · obtain ⟨i, hi, rfl⟩ := nI_of h0
        have h3 : nI i ≤ b := Int32.not_lt.mp h1
        have hb0 : ¬ b < 0 := fun h => by
          rw [Int32.lt_iff_toInt_lt] at h h0
          rw [Int32.le_iff_toInt_le] at h3
          omega
        obtain ⟨j, hj, rfl⟩ := nI_of hb0
        rw [nI_leI hi hj] at h3
        rw [nI_ltI hn hj] at h2
        exact Or.inr ⟨i, j, rfl, rfl, h3, by omega⟩
theorem le_cases (a : Int32) {n : Nat} (hn : n < 2 ^ 31) : (a < 0 ∨ nI n < a) ∨ ∃ j : Nat, a = nI j ∧ j ≤ n := by
  by_cases h0 : a < 0
  · exact Or.inl (Or.inl h0)
  · by_cases h2 : nI n < a
    · exact Or.inl (Or.inr h2)
    · obtain ⟨j, hj, rfl⟩ := nI_of h0
      rw [nI_ltI hn hj] at h2
      exact Or.inr ⟨j, rfl, by omega⟩
theorem lt_cases (a : Int32) {n : Nat} (hn : n < 2 ^ 31) : (a < 0 ∨ nI n ≤ a) ∨ ∃ j : Nat, a = nI j ∧ j < n := by
  rcases pk_ix a hn with h | h | ⟨j, h1, h2⟩
  · exact Or.inl (Or.inl h)
  · exact Or.inl (Or.inr h)
  · exact Or.inr ⟨j, h2, h1⟩
