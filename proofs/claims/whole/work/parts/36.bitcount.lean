/-! ===== Long.bitCount counts the bits ===== -/
def uX (x : Int64) : Nat := x.toBitVec.toNat
theorem uX_lt (x : Int64) : uX x < 18446744073709551616 := x.toBitVec.isLt
theorem uX_and (x y : Int64) : uX (x &&& y) = uX x &&& uX y := by unfold uX; rw [Int64.toBitVec_and, BitVec.toNat_and]
theorem uX_ushr (x : Int64) (y : Int32) (k : Nat) (hy : y = nI k) (hk : k < 64) : uX (zLushr x y) = uX x / 2 ^ k := by
  subst hy
  show (x.toUInt64 >>> ((nI k).toInt64.toUInt64 &&& Int64.toUInt64 63)).toBitVec.toNat = x.toUInt64.toBitVec.toNat / 2 ^ k
  rw [UInt64.toBitVec_shiftRight]
  show (x.toUInt64.toBitVec >>> (((nI k).toInt64.toUInt64 &&& Int64.toUInt64 63).toBitVec % 64).toNat).toNat = _
  rw [su64 k hk, BitVec.toNat_ushiftRight, Nat.shiftRight_eq_div_pow]
theorem uX_add (x y : Int64) (h : uX x + uX y < 18446744073709551616) : uX (x + y) = uX x + uX y := by
  unfold uX at h ⊢
  rw [Int64.toBitVec_add, BitVec.toNat_add]
  exact Nat.mod_eq_of_lt h
theorem uX_sub (x y : Int64) (h : uX y ≤ uX x) : uX (x - y) = uX x - uX y := by
  have h1 := uX_lt x
  unfold uX at h h1 ⊢
  rw [Int64.toBitVec_sub, BitVec.toNat_sub]
  omega
theorem tb_uX (x : Int64) (k : Nat) : tb x k = decide (uX x / 2 ^ k % 2 = 1) := by
  unfold tb uX
  rw [← BitVec.testBit_toNat, Nat.testBit_eq_decide_div_mod_eq]
def m55 : Nat → Nat
  | 0 => 0
  | n + 1 => 85 + 256 * m55 n
def m33 : Nat → Nat
  | 0 => 0
  | n + 1 => 51 + 256 * m33 n
def m0f : Nat → Nat
  | 0 => 0
  | n + 1 => 15 + 256 * m0f n
theorem and256 (a b c d : Nat) (ha : a < 256) (hc : c < 256) : (a + 256 * b) &&& (c + 256 * d) = (a &&& c) + 256 * (b &&& d) := by
  have h1 : ((a + 256 * b) &&& (c + 256 * d)) % 2 ^ 8 = ((a + 256 * b) % 2 ^ 8) &&& ((c + 256 * d) % 2 ^ 8) := Nat.and_mod_two_pow
  have h2 : ((a + 256 * b) &&& (c + 256 * d)) / 2 ^ 8 = ((a + 256 * b) / 2 ^ 8) &&& ((c + 256 * d) / 2 ^ 8) := Nat.and_div_two_pow
  have e1 : (a + 256 * b) % 2 ^ 8 = a := by omega
  have e2 : (c + 256 * d) % 2 ^ 8 = c := by omega
  have e3 : (a + 256 * b) / 2 ^ 8 = b := by omega
  have e4 : (c + 256 * d) / 2 ^ 8 = d := by omega
  rw [e1, e2] at h1
  rw [e3, e4] at h2
  omega
def q1 (m N : Nat) : Nat := N - (N / 2 &&& m55 m)
def q2 (m N : Nat) : Nat := (N &&& m33 m) + (N / 4 &&& m33 m)
def q3 (m N : Nat) : Nat := (N + N / 16) &&& m0f m
def g1 (l : Nat) : Nat := l - (l / 2 &&& 85)
def g2 (l : Nat) : Nat := (l &&& 51) + (l / 4 &&& 51)
def pb (l : Nat) : Nat := l % 2 + l / 2 % 2 + l / 4 % 2 + l / 8 % 2 + l / 16 % 2 + l / 32 % 2 + l / 64 % 2 + l / 128 % 2
theorem d1 : ∀ l, l < 256 → ∀ r, r < 2 → (l / 2 + 128 * r) &&& 85 = l / 2 &&& 85 := by decide +kernel
theorem d2 : ∀ l, l < 256 → ∀ r, r < 4 → (l / 4 + 64 * r) &&& 51 = l / 4 &&& 51 := by decide +kernel
theorem d3 : ∀ y, y < 69 → ∀ r, r < 5 → (y + y / 16 + 16 * r) &&& 15 = (y + y / 16) &&& 15 := by decide +kernel
theorem d4 : ∀ l, l < 256 → g1 l < 256 ∧ g2 (g1 l) < 69 ∧ g2 (g1 l) % 16 ≤ 4 ∧ ((g2 (g1 l) + g2 (g1 l) / 16) &&& 15) = pb l ∧ pb l ≤ 8 := by decide +kernel
theorem q1_s (m l h : Nat) (hl : l < 256) : q1 (m + 1) (l + 256 * h) = g1 l + 256 * q1 m h := by
  unfold q1 g1
  have e : (l + 256 * h) / 2 = (l / 2 + 128 * (h % 2)) + 256 * (h / 2) := by omega
  rw [e, m55, and256 _ _ _ _ (by omega) (by omega), d1 l hl _ (by omega)]
  have a1 : (l / 2 &&& 85) ≤ l / 2 := Nat.and_le_left
  have a2 : (h / 2 &&& m55 m) ≤ h / 2 := Nat.and_le_left
  omega
theorem q2_s (m l h : Nat) (hl : l < 256) : q2 (m + 1) (l + 256 * h) = g2 l + 256 * q2 m h := by
  unfold q2 g2
  have e : (l + 256 * h) / 4 = (l / 4 + 64 * (h % 4)) + 256 * (h / 4) := by omega
  rw [e, m33, and256 l h 51 _ hl (by omega), and256 _ _ _ _ (by omega) (by omega), d2 l hl _ (by omega)]
  omega
theorem q3_s (m y z : Nat) (hy : y < 69) (hz : z % 16 ≤ 4) : q3 (m + 1) (y + 256 * z) = ((y + y / 16) &&& 15) + 256 * q3 m z := by
  unfold q3
  have e : y + 256 * z + (y + 256 * z) / 16 = (y + y / 16 + 16 * (z % 16)) + 256 * (z + z / 16) := by omega
  rw [e, m0f, and256 _ _ _ _ (by omega) (by omega), d3 y hy _ (by omega)]
theorem q12_16 : ∀ m N, q2 m (q1 m N) % 16 ≤ 4
  | 0, N => by
    have : q2 0 (q1 0 N) = 0 := by unfold q2 m33; simp
    rw [this]; omega
  | m + 1, N => by
    have e : N = N % 256 + 256 * (N / 256) := by omega
    have hl : N % 256 < 256 := by omega
    have := d4 (N % 256) hl
    rw [e, q1_s m _ _ hl, q2_s m _ _ this.1]
    omega
def rb : Nat → Nat → Nat
  | 0, _ => 0
  | m + 1, N => pb (N % 256) + 256 * rb m (N / 256)
theorem q_rb : ∀ m N, q3 m (q2 m (q1 m N)) = rb m N
  | 0, N => by unfold q3 m0f rb; simp
  | m + 1, N => by
    have e : N = N % 256 + 256 * (N / 256) := by omega
    have hl : N % 256 < 256 := by omega
    have h4 := d4 (N % 256) hl
    have h16 := q12_16 m (N / 256)
    rw [rb, ← q_rb m (N / 256)]
    have : q3 (m + 1) (q2 (m + 1) (q1 (m + 1) (N % 256 + 256 * (N / 256)))) = pb (N % 256) + 256 * q3 m (q2 m (q1 m (N / 256))) := by
      rw [q1_s m _ _ hl, q2_s m _ _ h4.1, q3_s m _ _ h4.2.1 h16, h4.2.2.2.1]
    rwa [← e] at this
theorem pcn_byte (x : Int64) (i : Nat) : pcn x (i + 8) = pcn x i + pb (uX x / 2 ^ i % 256) := by
  have b : ∀ j, tb x (i + j) = decide (uX x / 2 ^ i / 2 ^ j % 2 = 1) := fun j => by
    rw [tb_uX, Nat.pow_add, Nat.div_div_eq_div_mul]
  have c : ∀ n : Nat, (if decide (n % 2 = 1) = true then 1 else 0) = n % 2 := fun n => by
    rcases Nat.mod_two_eq_zero_or_one n with h | h <;> simp [h]
  show pcn x i + (if tb x i then 1 else 0) + (if tb x (i + 1) then 1 else 0) + (if tb x (i + 2) then 1 else 0) + (if tb x (i + 3) then 1 else 0) + (if tb x (i + 4) then 1 else 0) + (if tb x (i + 5) then 1 else 0) + (if tb x (i + 6) then 1 else 0) + (if tb x (i + 7) then 1 else 0) = _
  have b0 := b 0
  rw [Nat.add_zero] at b0
  rw [b0, b 1, b 2, b 3, b 4, b 5, b 6, b 7]
  simp only [c]
  unfold pb
  generalize uX x / 2 ^ i = Y
  simp only [Nat.pow_zero, Nat.div_one, Nat.reducePow]
  omega
theorem popc_bytes (x : Int64) : popc x = pb (uX x % 256) + pb (uX x / 256 % 256) + pb (uX x / 65536 % 256) + pb (uX x / 16777216 % 256) + pb (uX x / 4294967296 % 256) + pb (uX x / 1099511627776 % 256) + pb (uX x / 281474976710656 % 256) + pb (uX x / 72057594037927936 % 256) := by
  have h0 := pcn_byte x 0
  have h1 := pcn_byte x 8
  have h2 := pcn_byte x 16
  have h3 := pcn_byte x 24
  have h4 := pcn_byte x 32
  have h5 := pcn_byte x 40
  have h6 := pcn_byte x 48
  have h7 := pcn_byte x 56
  simp only [Nat.reducePow, Nat.reduceAdd, Nat.div_one] at h0 h1 h2 h3 h4 h5 h6 h7
  have hz : pcn x 0 = 0 := rfl
  unfold popc
  omega
theorem rb_8 (N : Nat) : rb 8 N = pb (N % 256) + 256 * (pb (N / 256 % 256) + 256 * (pb (N / 65536 % 256) + 256 * (pb (N / 16777216 % 256) + 256 * (pb (N / 4294967296 % 256) + 256 * (pb (N / 1099511627776 % 256) + 256 * (pb (N / 281474976710656 % 256) + 256 * pb (N / 72057594037927936 % 256))))))) := by
  simp only [rb, Nat.div_div_eq_div_mul, Nat.reduceMul, Nat.mul_zero, Nat.add_zero]
theorem low7 (x : Int64) : (x.toInt32 &&& 127) = nI (uX x % 128) := by
  have h : x.toInt32 = nI (uX x) := by
    apply Int32.toBitVec_inj.mp
    show x.toBitVec.signExtend 32 = BitVec.ofNat 32 x.toBitVec.toNat
    apply BitVec.eq_of_toNat_eq
    rw [BitVec.signExtend_eq_setWidth_of_le _ (by decide), BitVec.toNat_setWidth, BitVec.toNat_ofNat]
  rw [h]
  exact (by
    have := pk_and (nI (uX x)) (m := 127) 7 (by decide)
    rw [this]
    congr 1
    show (BitVec.ofNat 32 (uX x)).toNat % 2 ^ 7 = _
    rw [BitVec.toNat_ofNat]
    omega)
theorem dv (a q : Nat) (h : a < 256) : (a + 256 * q) / 256 = q := by omega
theorem dv2 (N : Nat) : N / 65536 = N / 256 / 256 := by rw [Nat.div_div_eq_div_mul]
theorem dv4 (N : Nat) : N / 4294967296 = N / 256 / 256 / 256 / 256 := by rw [Nat.div_div_eq_div_mul, Nat.div_div_eq_div_mul, Nat.div_div_eq_div_mul]
theorem hs1 {c0 c1 c2 c3 c4 c5 c6 c7 N : Nat} (h0 : c0 < 256) (hN : N = c0 + 256 * (c1 + 256 * (c2 + 256 * (c3 + 256 * (c4 + 256 * (c5 + 256 * (c6 + 256 * c7))))))) : N + N / 256 = (c0 + c1) + 256 * ((c1 + c2) + 256 * ((c2 + c3) + 256 * ((c3 + c4) + 256 * ((c4 + c5) + 256 * ((c5 + c6) + 256 * ((c6 + c7) + 256 * c7)))))) := by
  rw [hN, dv _ _ h0]
  omega
theorem hs2 {c0 c1 c2 c3 c4 c5 c6 c7 N : Nat} (h0 : c0 < 256) (h1 : c1 < 256) (hN : N = c0 + 256 * (c1 + 256 * (c2 + 256 * (c3 + 256 * (c4 + 256 * (c5 + 256 * (c6 + 256 * c7))))))) : N + N / 65536 = (c0 + c2) + 256 * ((c1 + c3) + 256 * ((c2 + c4) + 256 * ((c3 + c5) + 256 * ((c4 + c6) + 256 * ((c5 + c7) + 256 * (c6 + 256 * c7)))))) := by
  rw [dv2, hN, dv _ _ h0, dv _ _ h1]
  omega
theorem hs3 {c0 c1 c2 c3 c4 c5 c6 c7 N : Nat} (h0 : c0 < 256) (h1 : c1 < 256) (h2 : c2 < 256) (h3 : c3 < 256) (hN : N = c0 + 256 * (c1 + 256 * (c2 + 256 * (c3 + 256 * (c4 + 256 * (c5 + 256 * (c6 + 256 * c7))))))) : (N + N / 4294967296) % 128 = (c0 + c4) % 128 := by
  rw [dv4, hN, dv _ _ h0, dv _ _ h1, dv _ _ h2, dv _ _ h3]
  omega
theorem hsN {c0 c1 c2 c3 c4 c5 c6 c7 N : Nat} (h0 : c0 ≤ 40) (h1 : c1 ≤ 40) (h2 : c2 ≤ 40) (h3 : c3 ≤ 40) (h4 : c4 ≤ 40) (h5 : c5 ≤ 40) (h6 : c6 ≤ 40) (h7 : c7 ≤ 40) (hN : N = c0 + 256 * (c1 + 256 * (c2 + 256 * (c3 + 256 * (c4 + 256 * (c5 + 256 * (c6 + 256 * c7))))))) : N < 4611686018427387904 := by omega
theorem w1 {a : Nat} (h : a ≤ 8) : a ≤ 40 := by omega
theorem w2 {a b : Nat} (h : a ≤ 8) (h2 : b ≤ 8) : a + b ≤ 40 := by omega
theorem w3 {a b c : Nat} (h : a ≤ 8) (h2 : b ≤ 8) (h3 : c ≤ 8) : a + b + c ≤ 40 := by omega
theorem w4 {a b c d : Nat} (h : a ≤ 8) (h2 : b ≤ 8) (h3 : c ≤ 8) (h4 : d ≤ 8) : a + b + (c + d) ≤ 40 := by omega
theorem wl {a : Nat} (h : a ≤ 40) : a < 256 := by omega
theorem dbl {N : Nat} (d : Nat) (h : N < 4611686018427387904) : N + N / d < 18446744073709551616 := by
  have := Nat.div_le_self N d
  omega
theorem fin8 {c0 c1 c2 c3 c4 c5 c6 c7 : Nat} (h0 : c0 ≤ 8) (h1 : c1 ≤ 8) (h2 : c2 ≤ 8) (h3 : c3 ≤ 8) (h4 : c4 ≤ 8) (h5 : c5 ≤ 8) (h6 : c6 ≤ 8) (h7 : c7 ≤ 8) : (c0 + c1 + (c2 + c3) + (c4 + c5 + (c6 + c7))) % 128 = c0 + c1 + c2 + c3 + c4 + c5 + c6 + c7 := by omega
set_option maxHeartbeats 4000000 in
theorem countJ (x : Int64) : fJ13_bitCount_95d88 x = some (nI (popc x)) := by
  unfold fJ13_bitCount_95d88
  simp only [zL_t]
  have hX := uX_lt x
  have k55 : uX 6148914691236517205 = m55 8 := by decide +kernel
  have k33 : uX 3689348814741910323 = m33 8 := by decide +kernel
  have k0f : uX 1085102592571150095 = m0f 8 := by decide +kernel
  have e1 : uX (x - (zLushr x 1 &&& 6148914691236517205)) = q1 8 (uX x) := by
    have h : uX (zLushr x 1 &&& 6148914691236517205) = uX x / 2 &&& m55 8 := by rw [uX_and, uX_ushr x 1 1 rfl (by decide), k55]
    have a1 : (uX x / 2 &&& m55 8) ≤ uX x / 2 := Nat.and_le_left
    rw [uX_sub _ _ (by rw [h]; omega), h]
    rfl
  generalize x - (zLushr x 1 &&& 6148914691236517205) = n9 at e1 ⊢
  have h9 := uX_lt n9
  have e2 : uX ((n9 &&& 3689348814741910323) + (zLushr n9 2 &&& 3689348814741910323)) = q2 8 (uX n9) := by
    have h1 : uX (n9 &&& 3689348814741910323) = uX n9 &&& m33 8 := by rw [uX_and, k33]
    have h2 : uX (zLushr n9 2 &&& 3689348814741910323) = uX n9 / 4 &&& m33 8 := by rw [uX_and, uX_ushr n9 2 2 rfl (by decide), k33]
    have a1 : (uX n9 &&& m33 8) ≤ m33 8 := Nat.and_le_right
    have a2 : (uX n9 / 4 &&& m33 8) ≤ m33 8 := Nat.and_le_right
    have a3 : m33 8 = 3689348814741910323 := by decide +kernel
    rw [uX_add _ _ (by rw [h1, h2]; omega), h1, h2]
    rfl
  generalize (n9 &&& 3689348814741910323) + (zLushr n9 2 &&& 3689348814741910323) = n23 at e2 ⊢
  have b23 : uX n23 ≤ 2 * 3689348814741910323 := by
    rw [e2]
    unfold q2
    have a1 : (uX n9 &&& m33 8) ≤ m33 8 := Nat.and_le_right
    have a2 : (uX n9 / 4 &&& m33 8) ≤ m33 8 := Nat.and_le_right
    have a3 : m33 8 = 3689348814741910323 := by decide +kernel
    omega
  have e3 : uX ((n23 + zLushr n23 4) &&& 1085102592571150095) = q3 8 (uX n23) := by
    have h1 : uX (zLushr n23 4) = uX n23 / 16 := uX_ushr n23 4 4 rfl (by decide)
    rw [uX_and, uX_add _ _ (by rw [h1]; omega), h1, k0f]
    rfl
  generalize (n23 + zLushr n23 4) &&& 1085102592571150095 = n33 at e3 ⊢
  have e4 : uX n33 = rb 8 (uX x) := by rw [e3, e2, e1, q_rb]
  have hp := popc_bytes x
  rw [rb_8] at e4
  have pbl : ∀ l, pb (l % 256) ≤ 8 := fun l => (d4 (l % 256) (by omega)).2.2.2.2
  have l0 := pbl (uX x)
  have l1 := pbl (uX x / 256)
  have l2 := pbl (uX x / 65536)
  have l3 := pbl (uX x / 16777216)
  have l4 := pbl (uX x / 4294967296)
  have l5 := pbl (uX x / 1099511627776)
  have l6 := pbl (uX x / 281474976710656)
  have l7 := pbl (uX x / 72057594037927936)
  generalize pb (uX x % 256) = c0 at *
  generalize pb (uX x / 256 % 256) = c1 at *
  generalize pb (uX x / 65536 % 256) = c2 at *
  generalize pb (uX x / 16777216 % 256) = c3 at *
  generalize pb (uX x / 4294967296 % 256) = c4 at *
  generalize pb (uX x / 1099511627776 % 256) = c5 at *
  generalize pb (uX x / 281474976710656 % 256) = c6 at *
  generalize pb (uX x / 72057594037927936 % 256) = c7 at *
  clear b23 h9 hX k55 k33 k0f e1 e2 e3 pbl
  have b33 := hsN (w1 l0) (w1 l1) (w1 l2) (w1 l3) (w1 l4) (w1 l5) (w1 l6) (w1 l7) e4
  have s8 : uX (n33 + zLushr n33 8) = uX n33 + uX n33 / 256 := by
    have h1 : uX (zLushr n33 8) = uX n33 / 256 := uX_ushr n33 8 8 rfl (by decide)
    rw [uX_add _ _ (by rw [h1]; exact dbl 256 b33), h1]
  rw [hs1 (wl (w1 l0)) e4] at s8
  generalize n33 + zLushr n33 8 = n39 at s8 ⊢
  have b39 := hsN (w2 l0 l1) (w2 l1 l2) (w2 l2 l3) (w2 l3 l4) (w2 l4 l5) (w2 l5 l6) (w2 l6 l7) (w1 l7) s8
  have s16 : uX (n39 + zLushr n39 16) = uX n39 + uX n39 / 65536 := by
    have h1 : uX (zLushr n39 16) = uX n39 / 65536 := uX_ushr n39 16 16 rfl (by decide)
    rw [uX_add _ _ (by rw [h1]; exact dbl 65536 b39), h1]
  rw [hs2 (wl (w2 l0 l1)) (wl (w2 l1 l2)) s8] at s16
  generalize n39 + zLushr n39 16 = n47 at s16 ⊢
  have b47 := hsN (w4 l0 l1 l2 l3) (w4 l1 l2 l3 l4) (w4 l2 l3 l4 l5) (w4 l3 l4 l5 l6) (w4 l4 l5 l6 l7) (w3 l5 l6 l7) (w2 l6 l7) (w1 l7) s16
  have s32 : uX (n47 + zLushr n47 32) = uX n47 + uX n47 / 4294967296 := by
    have h1 : uX (zLushr n47 32) = uX n47 / 4294967296 := uX_ushr n47 32 32 rfl (by decide)
    rw [uX_add _ _ (by rw [h1]; exact dbl 4294967296 b47), h1]
  rw [low7, s32, hs3 (wl (w4 l0 l1 l2 l3)) (wl (w4 l1 l2 l3 l4)) (wl (w4 l2 l3 l4 l5)) (wl (w4 l3 l4 l5 l6)) s16, hp, fin8 l0 l1 l2 l3 l4 l5 l6 l7]
