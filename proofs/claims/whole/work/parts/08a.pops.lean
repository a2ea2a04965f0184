theorem popN_le : ∀ k x, popN k x ≤ k
  | 0, _ => Nat.le_refl 0
  | k + 1, x => by
    have h1 := popN_le k (x / 2)
    have h2 : popN (k + 1) x = x % 2 + popN k (x / 2) := rfl
    omega
theorem popN_8 (k x : Nat) : popN (k + 8) x = popN 8 (x % 256) + popN k (x / 256) := by
  have e : x / 2 / 2 / 2 / 2 / 2 / 2 / 2 / 2 = x / 256 := by omega
  rw [← e]
  show x % 2 + (x / 2 % 2 + (x / 2 / 2 % 2 + (x / 2 / 2 / 2 % 2 + (x / 2 / 2 / 2 / 2 % 2 + (x / 2 / 2 / 2 / 2 / 2 % 2 + (x / 2 / 2 / 2 / 2 / 2 / 2 % 2 + (x / 2 / 2 / 2 / 2 / 2 / 2 / 2 % 2 + popN k (x / 2 / 2 / 2 / 2 / 2 / 2 / 2 / 2)))))))) = (x % 256 % 2 + (x % 256 / 2 % 2 + (x % 256 / 2 / 2 % 2 + (x % 256 / 2 / 2 / 2 % 2 + (x % 256 / 2 / 2 / 2 / 2 % 2 + (x % 256 / 2 / 2 / 2 / 2 / 2 % 2 + (x % 256 / 2 / 2 / 2 / 2 / 2 / 2 % 2 + (x % 256 / 2 / 2 / 2 / 2 / 2 / 2 / 2 % 2 + 0)))))))) + popN k (x / 2 / 2 / 2 / 2 / 2 / 2 / 2 / 2)
  generalize popN k (x / 2 / 2 / 2 / 2 / 2 / 2 / 2 / 2) = w
  omega
theorem sumB_s (k x : Nat) : sumB (k + 1) x = popN 8 (x % 256) + 256 * sumB k (x / 256) := rfl
def foldB (y : Nat) : Nat := y + y / 256 + (y + y / 256) / 65536 + (y + y / 256 + (y + y / 256) / 65536) / 4294967296
theorem foldB_t {q0 q1 q2 q3 q4 q5 q6 q7 : Nat} (h0 : q0 ≤ 8) (h1 : q1 ≤ 8) (h2 : q2 ≤ 8) (h3 : q3 ≤ 8) (h4 : q4 ≤ 8) (h5 : q5 ≤ 8) (h6 : q6 ≤ 8) (h7 : q7 ≤ 8) :
    foldB (q0 + 256 * (q1 + 256 * (q2 + 256 * (q3 + 256 * (q4 + 256 * (q5 + 256 * (q6 + 256 * (q7 + 256 * 0)))))))) % 128 = q0 + q1 + q2 + q3 + q4 + q5 + q6 + q7 := by
  have e1 : (q0 + 256 * (q1 + 256 * (q2 + 256 * (q3 + 256 * (q4 + 256 * (q5 + 256 * (q6 + 256 * (q7 + 256 * 0)))))))) + (q0 + 256 * (q1 + 256 * (q2 + 256 * (q3 + 256 * (q4 + 256 * (q5 + 256 * (q6 + 256 * (q7 + 256 * 0)))))))) / 256 = (q0 + q1) + 256 * ((q1 + q2) + 256 * ((q2 + q3) + 256 * ((q3 + q4) + 256 * ((q4 + q5) + 256 * ((q5 + q6) + 256 * ((q6 + q7) + 256 * q7)))))) := by omega
  unfold foldB
  rw [e1]
  have e2 : (q0 + q1) + 256 * ((q1 + q2) + 256 * ((q2 + q3) + 256 * ((q3 + q4) + 256 * ((q4 + q5) + 256 * ((q5 + q6) + 256 * ((q6 + q7) + 256 * q7)))))) + ((q0 + q1) + 256 * ((q1 + q2) + 256 * ((q2 + q3) + 256 * ((q3 + q4) + 256 * ((q4 + q5) + 256 * ((q5 + q6) + 256 * ((q6 + q7) + 256 * q7))))))) / 65536 = (q0 + q1 + q2 + q3) + 256 * ((q1 + q2 + q3 + q4) + 256 * ((q2 + q3 + q4 + q5) + 256 * ((q3 + q4 + q5 + q6) + 256 * ((q4 + q5 + q6 + q7) + 256 * ((q5 + q6 + q7) + 256 * ((q6 + q7) + 256 * q7)))))) := by omega
  rw [e2]
  have e3 : ((q0 + q1 + q2 + q3) + 256 * ((q1 + q2 + q3 + q4) + 256 * ((q2 + q3 + q4 + q5) + 256 * ((q3 + q4 + q5 + q6) + 256 * ((q4 + q5 + q6 + q7) + 256 * ((q5 + q6 + q7) + 256 * ((q6 + q7) + 256 * q7))))))) / 4294967296 = (q4 + q5 + q6 + q7) + 256 * ((q5 + q6 + q7) + 256 * ((q6 + q7) + 256 * q7)) := by omega
  rw [e3]
  omega
theorem pop64_t (x : Nat) : foldB (sumB 8 x) % 128 = popN 64 x := by
  have e : sumB 8 x = popN 8 (x % 256) + 256 * (popN 8 (x / 256 % 256) + 256 * (popN 8 (x / 256 / 256 % 256) + 256 * (popN 8 (x / 256 / 256 / 256 % 256) + 256 * (popN 8 (x / 256 / 256 / 256 / 256 % 256) + 256 * (popN 8 (x / 256 / 256 / 256 / 256 / 256 % 256) + 256 * (popN 8 (x / 256 / 256 / 256 / 256 / 256 / 256 % 256) + 256 * (popN 8 (x / 256 / 256 / 256 / 256 / 256 / 256 / 256 % 256) + 256 * 0))))))) := rfl
  rw [e, foldB_t (popN_le _ _) (popN_le _ _) (popN_le _ _) (popN_le _ _) (popN_le _ _) (popN_le _ _) (popN_le _ _) (popN_le _ _)]
  have a56 : popN 64 (x) = popN 8 (x % 256) + popN 56 (x / 256) := popN_8 56 _
  have a48 : popN 56 (x / 256) = popN 8 (x / 256 % 256) + popN 48 (x / 256 / 256) := popN_8 48 _
  have a40 : popN 48 (x / 256 / 256) = popN 8 (x / 256 / 256 % 256) + popN 40 (x / 256 / 256 / 256) := popN_8 40 _
  have a32 : popN 40 (x / 256 / 256 / 256) = popN 8 (x / 256 / 256 / 256 % 256) + popN 32 (x / 256 / 256 / 256 / 256) := popN_8 32 _
  have a24 : popN 32 (x / 256 / 256 / 256 / 256) = popN 8 (x / 256 / 256 / 256 / 256 % 256) + popN 24 (x / 256 / 256 / 256 / 256 / 256) := popN_8 24 _
  have a16 : popN 24 (x / 256 / 256 / 256 / 256 / 256) = popN 8 (x / 256 / 256 / 256 / 256 / 256 % 256) + popN 16 (x / 256 / 256 / 256 / 256 / 256 / 256) := popN_8 16 _
  have a8 : popN 16 (x / 256 / 256 / 256 / 256 / 256 / 256) = popN 8 (x / 256 / 256 / 256 / 256 / 256 / 256 % 256) + popN 8 (x / 256 / 256 / 256 / 256 / 256 / 256 / 256) := popN_8 8 _
  have a0 : popN 8 (x / 256 / 256 / 256 / 256 / 256 / 256 / 256) = popN 8 (x / 256 / 256 / 256 / 256 / 256 / 256 / 256 % 256) + popN 0 (x / 256 / 256 / 256 / 256 / 256 / 256 / 256 / 256) := popN_8 0 _
  have e0 : ∀ y, popN 0 y = 0 := fun _ => rfl
  rw [e0] at a0
  omega
theorem popN_z : ∀ k, popN k 0 = 0
  | 0 => rfl
  | k + 1 => by
    show 0 % 2 + popN k (0 / 2) = 0
    rw [Nat.zero_mod, Nat.zero_div, popN_z k]
theorem popN_pk {b : Nat → Nat} (hb : ∀ i, b i < 2) : ∀ m k v, m ≤ k → popN k (pkF b m v) = sm b v m
  | 0, k, v, _ => popN_z k
  | m + 1, 0, v, h => absurd h (by omega)
  | m + 1, k + 1, v, h => by
    have h1 := popN_pk hb m k (v + 1) (by omega)
    have h2 := hb v
    have h3 : popN (k + 1) (pkF b (m + 1) v) = (b v + 2 * pkF b m (v + 1)) % 2 + popN k ((b v + 2 * pkF b m (v + 1)) / 2) := rfl
    have h4 : (b v + 2 * pkF b m (v + 1)) / 2 = pkF b m (v + 1) := by omega
    have h5 : ∀ m v, sm b v (m + 1) = b v + sm b (v + 1) m := by
      intro m
      induction m with
      | zero =>
        intro v
        show 0 + b (v + 0) = b v + 0
        rw [Nat.zero_add, Nat.add_zero, Nat.add_zero]
      | succ m ih =>
        intro v
        have g1 : sm b v (m + 1 + 1) = sm b v (m + 1) + b (v + (m + 1)) := rfl
        have g2 : sm b (v + 1) (m + 1) = sm b (v + 1) m + b (v + 1 + m) := rfl
        rw [g1, g2, ih v, show v + 1 + m = v + (m + 1) by omega]
        omega
    rw [h3, h4, h1, h5]
    omega
