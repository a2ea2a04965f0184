theorem and_byte {a b x y : Nat} (ha : a < 256) (hb : b < 256) : (a + 256 * x) &&& (b + 256 * y) = (a &&& b) + 256 * (x &&& y) := by
  have h1 : ((a + 256 * x) &&& (b + 256 * y)) / 2 ^ 8 = (x &&& y) := by
    rw [Nat.and_div_two_pow]
    congr 1 <;> omega
  have h2 : ((a + 256 * x) &&& (b + 256 * y)) % 2 ^ 8 = (a &&& b) := by
    rw [Nat.and_mod_two_pow]
    congr 1 <;> omega
  have h3 := Nat.div_add_mod ((a + 256 * x) &&& (b + 256 * y)) (2 ^ 8)
  rw [h1, h2] at h3
  rw [← h3]
  omega
def m1 : Nat → Nat
  | 0 => 0
  | k + 1 => 85 + 256 * m1 k
def m2 : Nat → Nat
  | 0 => 0
  | k + 1 => 51 + 256 * m2 k
def m4 : Nat → Nat
  | 0 => 0
  | k + 1 => 15 + 256 * m4 k
def t1 (k x : Nat) : Nat := x - (x / 2 &&& m1 k)
def t2 (k x : Nat) : Nat := (x &&& m2 k) + (x / 4 &&& m2 k)
def t3 (k x : Nat) : Nat := (x + x / 16) &&& m4 k
theorem t1_s {k b X : Nat} (hb : b < 256) : t1 (k + 1) (b + 256 * X) = t1 1 b + 256 * t1 k X := by
  have h0 : (b + 256 * X) / 2 = (b / 2 + 128 * (X % 2)) + 256 * (X / 2) := by omega
  have h1 : (b + 256 * X) / 2 &&& m1 (k + 1) = ((b / 2 + 128 * (X % 2)) &&& 85) + 256 * (X / 2 &&& m1 k) := by
    rw [h0]
    exact and_byte (by omega) (by omega)
  have h2 : ∀ b, b < 256 → ∀ y, y < 2 → ((b / 2 + 128 * y) &&& 85) = (b / 2 &&& 85) ∧ (b / 2 &&& 85) ≤ b := by decide +kernel
  obtain ⟨h3, h4⟩ := h2 b hb (X % 2) (Nat.mod_lt _ (by omega))
  have h5 : (X / 2 &&& m1 k) ≤ X := Nat.le_trans Nat.and_le_left (Nat.div_le_self X 2)
  have h6 : t1 1 b = b - (b / 2 &&& 85) := rfl
  unfold t1 at h6 ⊢
  rw [h1, h3, h6]
  omega
theorem t2_s {k b X : Nat} (hb : b < 256) : t2 (k + 1) (b + 256 * X) = t2 1 b + 256 * t2 k X := by
  have h0 : (b + 256 * X) / 4 = (b / 4 + 64 * (X % 4)) + 256 * (X / 4) := by omega
  have h1 : (b + 256 * X) / 4 &&& m2 (k + 1) = ((b / 4 + 64 * (X % 4)) &&& 51) + 256 * (X / 4 &&& m2 k) := by
    rw [h0]
    exact and_byte (by omega) (by omega)
  have h1' : (b + 256 * X) &&& m2 (k + 1) = (b &&& 51) + 256 * (X &&& m2 k) := and_byte hb (by omega)
  have h2 : ∀ b, b < 256 → ∀ y, y < 4 → ((b / 4 + 64 * y) &&& 51) = (b / 4 &&& 51) := by decide +kernel
  have h3 := h2 b hb (X % 4) (Nat.mod_lt _ (by omega))
  have h6 : t2 1 b = (b &&& 51) + (b / 4 &&& 51) := rfl
  unfold t2 at h6 ⊢
  rw [h1, h1', h3, h6]
  omega
theorem t3_s {k b X : Nat} (hb : b % 16 ≤ 4) (hb2 : b / 16 ≤ 4) (hX : X % 16 ≤ 4) : t3 (k + 1) (b + 256 * X) = (b % 16 + b / 16) + 256 * t3 k X := by
  have h0 : (b + 256 * X) + (b + 256 * X) / 16 = (b + b / 16 + 16 * (X % 16)) + 256 * (X + X / 16) := by omega
  have h2 : ∀ p, p < 5 → ∀ q, q < 5 → ∀ y, y < 5 → ((16 * q + p + q + 16 * y) &&& 15) = p + q := by decide +kernel
  have h3 := h2 (b % 16) (by omega) (b / 16) (by omega) (X % 16) (by omega)
  have h4 : 16 * (b / 16) + b % 16 + b / 16 + 16 * (X % 16) = b + b / 16 + 16 * (X % 16) := by omega
  rw [h4] at h3
  unfold t3
  rw [h0, ← h3]
  exact and_byte (by omega) (by omega)
def popN : Nat → Nat → Nat
  | 0, _ => 0
  | k + 1, x => x % 2 + popN k (x / 2)
def sumB : Nat → Nat → Nat
  | 0, _ => 0
  | k + 1, x => popN 8 (x % 256) + 256 * sumB k (x / 256)
theorem byte_t : ∀ b, b < 256 → t2 1 (t1 1 b) % 16 ≤ 4 ∧ t2 1 (t1 1 b) / 16 ≤ 4 ∧ t2 1 (t1 1 b) % 16 + t2 1 (t1 1 b) / 16 = popN 8 b ∧ t1 1 b < 256 := by decide +kernel
theorem swar_t : ∀ k x, x < 256 ^ k → t3 k (t2 k (t1 k x)) = sumB k x ∧ t2 k (t1 k x) % 16 ≤ 4
  | 0, x, h => by
    have e : x = 0 := by
      rw [Nat.pow_zero] at h
      omega
    subst e
    decide
  | k + 1, x, h => by
    have hX : x / 256 < 256 ^ k := by
      rw [Nat.pow_succ] at h
      exact Nat.div_lt_of_lt_mul (by rw [Nat.mul_comm]; exact h)
    obtain ⟨i1, i2⟩ := swar_t k (x / 256) hX
    have hb : x % 256 < 256 := Nat.mod_lt _ (by omega)
    obtain ⟨b1, b2, b3, b4⟩ := byte_t (x % 256) hb
    have ex : x = x % 256 + 256 * (x / 256) := by omega
    have e1 : t1 (k + 1) x = t1 1 (x % 256) + 256 * t1 k (x / 256) := by
      have := t1_s (k := k) (b := x % 256) (X := x / 256) hb
      rw [← ex] at this
      exact this
    rw [e1, t2_s b4, t3_s b1 b2 i2, i1, b3]
    refine ⟨rfl, ?_⟩
    omega
