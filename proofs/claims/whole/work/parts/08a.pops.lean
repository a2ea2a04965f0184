theorem popN_le : ∀ k x, popN k x ≤ k
  | 0, _ => Nat.le_refl 0
  | k + 1, x => by
    have h1 := popN_le k (x / 2)
    have h2 : popN (k + 1) x = x % 2 + popN k (x / 2) := rfl
    omega
theorem popN_8 (k x : Nat) : popN (k + 8) x = popN 8 (x % 256) + popN k (x / 256) := by
  have e : x / 2 / 2 / 2 / 2 / 2 / 2 / 2 / 2 = x / 256 := by omega
  rw [← e]
  show x % 2 + (x / 2 % 2 + (x / 2 / 2 % 2 + (x / 2 / 2 / 2 % 2 + (x / 2 / 2 / 2 / 2 % 2 + (x / 2 / 2 / 2 / 2 / 2 % 2 + (x / 2 / 2 / 2 / 2 / 2 / 2 % 2 + (x / 2 / 2 / 2 / 2 / 2 / 2 / 2 % 2 + popN k (x / 2 / 2 / 2 / 2 / 2 / 2 / 2 / 2)))))))) = (x % 256 % 2 + (x % 256 / 2 % 2 + (x % 256 / 2 / 2 % 2 + (x % 256 / 2 / 2 / 2 % 2 + (x % 256 / 2 / 2 / 2 / 2 % 2 + (x % 256 / 2 / 2 / 2 / 2 / 2 % 2 + (x % 256 / 2 / 2 / 2 / 2 / 2 / 2 % 2 + (x % 256 / 2 / 2 / 2 / 2 / 2 / 2 / 2 % 2 + 0)))))))) + popN k (x / 2 / 2 / 2 / 2 / 2 / 2 / 2 / 2)
  generalize popN k (x / 2 / 2 / 2 / 2 / 2 / 2 / 2 / 2) = w
  omega
theorem sumB_s (k x : Nat) : sumB (k + 1) x = popN 8 (x % 256) + 256 * sumB k (x / 256) := rfl
theorem popN_z : ∀ k, popN k 0 = 0
  | 0 => rfl
  | k + 1 => by
    show 0 % 2 + popN k (0 / 2) = 0
    rw [Nat.zero_mod, Nat.zero_div, popN_z k]
theorem popN_pk {b : Nat → Nat} (hb : ∀ i, b i < 2) : ∀ m k v, m ≤ k → popN k (pkF b m v) = sm b v m
  | 0, k, v, _ => popN_z k
  | m + 1, 0, v, h => absurd h (by omega)
  | m + 1, k + 1, v, h => by
    have h1 := popN_pk hb m k (v + 1) (by omega)
    have h2 := hb v
    have h3 : popN (k + 1) (pkF b (m + 1) v) = (b v + 2 * pkF b m (v + 1)) % 2 + popN k ((b v + 2 * pkF b m (v + 1)) / 2) := rfl
    have h4 : (b v + 2 * pkF b m (v + 1)) / 2 = pkF b m (v + 1) := by omega
    have h5 : ∀ m v, sm b v (m + 1) = b v + sm b (v + 1) m := by
      intro m
      induction m with
      | zero =>
        intro v
        show 0 + b (v + 0) = b v + 0
        rw [Nat.zero_add, Nat.add_zero, Nat.add_zero]
      | succ m ih =>
        intro v
        have g1 : sm b v (m + 1 + 1) = sm b v (m + 1) + b (v + (m + 1)) := rfl
        have g2 : sm b (v + 1) (m + 1) = sm b (v + 1) m + b (v + 1 + m) := rfl
        rw [g1, g2, ih v, show v + 1 + m = v + (m + 1) by omega]
        omega
    rw [h3, h4, h1, h5]
    omega
