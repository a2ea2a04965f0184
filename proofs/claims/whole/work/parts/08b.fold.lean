/-! the bits of a long, counted -/
theorem wb_tb (n : Nat) : (lN n).toBitVec = BitVec.ofNat 64 n := rfl
theorem wb_inj {a b : Int64} (h : a.toBitVec = b.toBitVec) : a = b := Int64.toBitVec_inj.mp h
theorem wb_tn {n : Nat} (h : n < 2 ^ 64) : (lN n).toBitVec.toNat = n := by rw [wb_tb, BitVec.toNat_ofNat, Nat.mod_eq_of_lt h]
theorem wb_cu : ∀ k, k < 64 → ((nI k).toInt64.toUInt64 &&& Int64.toUInt64 63) = UInt64.ofNat k := by decide +kernel
theorem wb_shr {n k : Nat} (hn : n < 2 ^ 64) (hk : k < 64) : ((lN n).toUInt64 >>> ((nI k).toInt64.toUInt64 &&& Int64.toUInt64 63)).toInt64 = lN (n / 2 ^ k) := by
  rw [wb_cu k hk]
  apply wb_inj
  apply BitVec.eq_of_toNat_eq
  show ((lN n).toUInt64 >>> UInt64.ofNat k).toNat = (BitVec.ofNat 64 _).toNat
  have h1 : (UInt64.ofNat k).toNat = k := by
    show (BitVec.ofNat 64 k).toNat = k
    rw [BitVec.toNat_ofNat, Nat.mod_eq_of_lt (by omega)]
  have h2 : (lN n).toUInt64.toNat = n := wb_tn hn
  rw [UInt64.toNat_shiftRight, h1, h2, Nat.mod_eq_of_lt hk, Nat.shiftRight_eq_div_pow, BitVec.toNat_ofNat, Nat.mod_eq_of_lt (Nat.lt_of_le_of_lt (Nat.div_le_self _ _) hn)]
theorem wb_and {a b : Nat} (ha : a < 2 ^ 64) (hb : b < 2 ^ 64) : lN a &&& lN b = lN (a &&& b) := by
  apply wb_inj
  rw [Int64.toBitVec_and, wb_tb, wb_tb, wb_tb]
  apply BitVec.eq_of_toNat_eq
  rw [BitVec.toNat_and, BitVec.toNat_ofNat, BitVec.toNat_ofNat, BitVec.toNat_ofNat, Nat.mod_eq_of_lt ha, Nat.mod_eq_of_lt hb, Nat.mod_eq_of_lt (Nat.and_lt_two_pow _ hb)]
def js (n : Nat) (a : Int64) : Int64 := ((Int64.toUInt64 a) >>> ((Int32.toInt64 (nI n)).toUInt64 &&& Int64.toUInt64 63)).toInt64
def j1 (a : Int64) : Int64 := a - (js 1 a &&& (6148914691236517205 : Int64))
def j2 (a : Int64) : Int64 := (a &&& (3689348814741910323 : Int64)) + (js 2 a &&& (3689348814741910323 : Int64))
def j3 (a : Int64) : Int64 := (a + js 4 a) &&& (1085102592571150095 : Int64)
def jA (n : Nat) (a : Int64) : Int64 := a + js n a
theorem j_all (a : Int64) : f_J13_bitCount_95d88 a = some ((Int64.toInt32 (jA 32 (jA 16 (jA 8 (j3 (j2 (j1 a))))))) &&& (nI 127)) := rfl
theorem js_t {n x : Nat} (hx : x < 2 ^ 64) (hn : n < 64) : js n (lN x) = lN (x / 2 ^ n) := wb_shr hx hn
theorem jA_t {n x : Nat} (hx : x < 2 ^ 64) (hn : n < 64) : jA n (lN x) = lN (x + x / 2 ^ n) := by
  unfold jA
  rw [js_t hx hn, lN_add]
theorem m1_8 : m1 8 = 6148914691236517205 := by decide +kernel
theorem m2_8 : m2 8 = 3689348814741910323 := by decide +kernel
theorem m4_8 : m4 8 = 1085102592571150095 := by decide +kernel
theorem j1_t {x : Nat} (hx : x < 2 ^ 64) : j1 (lN x) = lN (t1 8 x) := by
  unfold j1 t1
  have e : (6148914691236517205 : Int64) = lN (m1 8) := by rw [m1_8]; rfl
  have h8 : m1 8 < 2 ^ 64 := by rw [m1_8]; decide +kernel
  have hd : x / 2 ^ 1 < 2 ^ 64 := Nat.lt_of_le_of_lt (Nat.div_le_self _ _) hx
  rw [js_t hx (by omega), e, wb_and hd h8, lN_sub (Nat.le_trans Nat.and_le_left (Nat.div_le_self _ _))]
theorem j2_t {x : Nat} (hx : x < 2 ^ 64) : j2 (lN x) = lN (t2 8 x) := by
  unfold j2 t2
  have e : (3689348814741910323 : Int64) = lN (m2 8) := by rw [m2_8]; rfl
  have h8 : m2 8 < 2 ^ 64 := by rw [m2_8]; decide +kernel
  have hd : x / 2 ^ 2 < 2 ^ 64 := Nat.lt_of_le_of_lt (Nat.div_le_self _ _) hx
  rw [js_t hx (by omega), e, wb_and hd h8, wb_and hx h8, lN_add]
theorem t2_lt (x : Nat) : t2 8 x < 2 ^ 63 := by
  unfold t2
  have h1 : (x &&& m2 8) ≤ m2 8 := Nat.and_le_right
  have h2 : (x / 4 &&& m2 8) ≤ m2 8 := Nat.and_le_right
  rw [m2_8] at h1 h2 ⊢
  omega
theorem j3_t {x : Nat} (hx : x < 2 ^ 63) : j3 (lN x) = lN (t3 8 x) := by
  unfold j3 t3
  have e : (1085102592571150095 : Int64) = lN (m4 8) := by rw [m4_8]; rfl
  have h8 : m4 8 < 2 ^ 64 := by rw [m4_8]; decide +kernel
  have hd : x + x / 2 ^ 4 < 2 ^ 64 := by
    have := Nat.div_le_self x (2 ^ 4)
    omega
  rw [js_t (by omega) (by omega), e, lN_add, wb_and hd h8]
theorem t3_lt (x : Nat) : t3 8 x < 2 ^ 60 := by
  unfold t3
  have h1 : ((x + x / 16) &&& m4 8) ≤ m4 8 := Nat.and_le_right
  rw [m4_8] at h1 ⊢
  omega
def foldB (y : Nat) : Nat := y + y / 256 + (y + y / 256) / 65536 + (y + y / 256 + (y + y / 256) / 65536) / 4294967296
theorem nI_127 (n : Nat) : nI n &&& nI 127 = nI (n % 128) := by
  have e : nI n = nI (n % 2 ^ 32) := by
    apply Int32.toBitVec_inj.mp
    show BitVec.ofNat 32 n = BitVec.ofNat 32 (n % 2 ^ 32)
    apply BitVec.eq_of_toNat_eq
    rw [BitVec.toNat_ofNat, BitVec.toNat_ofNat, Nat.mod_mod]
  rw [e, pk_andN (Nat.mod_lt _ (by omega)) 7 (by decide)]
  congr 1
  omega
theorem jall_t {x : Nat} (hx : x < 256 ^ 8) : f_J13_bitCount_95d88 (lN x) = some (nI (foldB (sumB 8 x) % 128)) := by
  have hx2 : x < 2 ^ 64 := by
    have : (256 : Nat) ^ 8 = 2 ^ 64 := by decide +kernel
    omega
  have h1 : t1 8 x < 2 ^ 64 := Nat.lt_of_le_of_lt (Nat.sub_le _ _) hx2
  rw [j_all, j1_t hx2, j2_t h1, j3_t (t2_lt _), (swar_t 8 x hx).1]
  have hy : sumB 8 x < 2 ^ 60 := by
    rw [← (swar_t 8 x hx).1]
    exact t3_lt _
  generalize sumB 8 x = y at hy
  have g1 := Nat.div_le_self y (2 ^ 8)
  rw [jA_t (by omega) (by omega)]
  have g2 := Nat.div_le_self (y + y / 2 ^ 8) (2 ^ 16)
  rw [jA_t (by omega) (by omega)]
  rw [jA_t (by omega) (by omega), lN_i, nI_127]
  rfl
theorem dv2 {a b Z : Nat} (ha : a < 256) (hb : b < 256) : (a + 256 * (b + 256 * Z)) / 65536 = Z := by omega
theorem dv1 {a Z : Nat} (ha : a < 256) : (a + 256 * Z) / 256 = Z := by omega
theorem dv4 {a b c d Z : Nat} (ha : a < 256) (hb : b < 256) (hc : c < 256) (hd : d < 256) : (a + 256 * (b + 256 * (c + 256 * (d + 256 * Z)))) / 4294967296 = Z := by
  rw [show 4294967296 = 65536 * 65536 from rfl, ← Nat.div_div_eq_div_mul, dv2 ha hb, dv2 hc hd]
theorem ad2 (a b X Y : Nat) : (a + 256 * X) + (b + 256 * Y) = (a + b) + 256 * (X + Y) := by omega
theorem md1 (a X : Nat) (h : a < 128) : (a + 256 * X) % 128 = a := by omega
theorem foldB_t {q0 q1 q2 q3 q4 q5 q6 q7 : Nat} (h0 : q0 ≤ 8) (h1 : q1 ≤ 8) (h2 : q2 ≤ 8) (h3 : q3 ≤ 8) (h4 : q4 ≤ 8) (h5 : q5 ≤ 8) (h6 : q6 ≤ 8) (h7 : q7 ≤ 8) :
    foldB (q0 + 256 * (q1 + 256 * (q2 + 256 * (q3 + 256 * (q4 + 256 * (q5 + 256 * (q6 + 256 * (q7 + 256 * 0)))))))) % 128 = q0 + q1 + q2 + q3 + q4 + q5 + q6 + q7 := by
  unfold foldB
  rw [dv1 (by omega), ad2 q0 q1, ad2 q1 q2, ad2 q2 q3, ad2 q3 q4, dv2 (by omega) (by omega), ad2 (q0 + q1) (q2 + q3), ad2 (q1 + q2) (q3 + q4), ad2 q4 q5, ad2 q5 q6, ad2 (q2 + q3) (q4 + q5), ad2 (q3 + q4) (q5 + q6), dv4 (by omega) (by omega) (by omega) (by omega), ad2 q6 q7, ad2 (q4 + q5) (q6 + q7), ad2, md1 _ _ (by omega)]
  omega
theorem pop64_t (x : Nat) : foldB (sumB 8 x) % 128 = popN 64 x := by
  have e : sumB 8 x = popN 8 (x % 256) + 256 * (popN 8 (x / 256 % 256) + 256 * (popN 8 (x / 256 / 256 % 256) + 256 * (popN 8 (x / 256 / 256 / 256 % 256) + 256 * (popN 8 (x / 256 / 256 / 256 / 256 % 256) + 256 * (popN 8 (x / 256 / 256 / 256 / 256 / 256 % 256) + 256 * (popN 8 (x / 256 / 256 / 256 / 256 / 256 / 256 % 256) + 256 * (popN 8 (x / 256 / 256 / 256 / 256 / 256 / 256 / 256 % 256) + 256 * 0))))))) := rfl
  rw [e, foldB_t (popN_le _ _) (popN_le _ _) (popN_le _ _) (popN_le _ _) (popN_le _ _) (popN_le _ _) (popN_le _ _) (popN_le _ _)]
  rw [show popN 64 (x) = popN 8 (x % 256) + popN 56 (x / 256) from popN_8 56 _]
  rw [show popN 56 (x / 256) = popN 8 (x / 256 % 256) + popN 48 (x / 256 / 256) from popN_8 48 _]
  rw [show popN 48 (x / 256 / 256) = popN 8 (x / 256 / 256 % 256) + popN 40 (x / 256 / 256 / 256) from popN_8 40 _]
  rw [show popN 40 (x / 256 / 256 / 256) = popN 8 (x / 256 / 256 / 256 % 256) + popN 32 (x / 256 / 256 / 256 / 256) from popN_8 32 _]
  rw [show popN 32 (x / 256 / 256 / 256 / 256) = popN 8 (x / 256 / 256 / 256 / 256 % 256) + popN 24 (x / 256 / 256 / 256 / 256 / 256) from popN_8 24 _]
  rw [show popN 24 (x / 256 / 256 / 256 / 256 / 256) = popN 8 (x / 256 / 256 / 256 / 256 / 256 % 256) + popN 16 (x / 256 / 256 / 256 / 256 / 256 / 256) from popN_8 16 _]
  rw [show popN 16 (x / 256 / 256 / 256 / 256 / 256 / 256) = popN 8 (x / 256 / 256 / 256 / 256 / 256 / 256 % 256) + popN 8 (x / 256 / 256 / 256 / 256 / 256 / 256 / 256) from popN_8 8 _]
  rw [show popN 8 (x / 256 / 256 / 256 / 256 / 256 / 256 / 256) = popN 8 (x / 256 / 256 / 256 / 256 / 256 / 256 / 256 % 256) + popN 0 (x / 256 / 256 / 256 / 256 / 256 / 256 / 256 / 256) from popN_8 0 _]
  simp only [popN, Nat.add_zero, Nat.add_assoc]
theorem bc64_t {x : Nat} (hx : x < 256 ^ 8) : f_J13_bitCount_95d88 (lN x) = some (nI (popN 64 x)) := by
  rw [jall_t hx, pop64_t]
