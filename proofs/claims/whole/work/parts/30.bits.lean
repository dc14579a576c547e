/-! ===== Int64 by its bits ===== -/
def tb (x : Int64) (k : Nat) : Bool := x.toBitVec.getLsbD k
theorem tb_ext {x y : Int64} (h : ∀ k, k < 64 → tb x k = tb y k) : x = y := Int64.toBitVec_inj.mp (BitVec.eq_of_getLsbD_eq (fun i hi => h i hi))
theorem tb_or (x y : Int64) (k : Nat) : tb (x ||| y) k = (tb x k || tb y k) := by unfold tb; rw [Int64.toBitVec_or, BitVec.getLsbD_or]
theorem tb_and (x y : Int64) (k : Nat) : tb (x &&& y) k = (tb x k && tb y k) := by unfold tb; rw [Int64.toBitVec_and, BitVec.getLsbD_and]
theorem tb_xor (x y : Int64) (k : Nat) : tb (x ^^^ y) k = (tb x k ^^ tb y k) := by unfold tb; rw [Int64.toBitVec_xor, BitVec.getLsbD_xor]
theorem tb_big {x : Int64} {k : Nat} (h : 64 ≤ k) : tb x k = false := BitVec.getLsbD_of_ge _ _ h
theorem tb_0 (k : Nat) : tb 0 k = false := BitVec.getLsbD_zero
theorem tb_m1 : ∀ k, k < 64 → tb (-1) k = true := by decide +kernel
theorem tb_1 : ∀ k, k < 64 → tb 1 k = decide (k = 0) := by decide +kernel
theorem tb_not {k : Nat} (hk : k < 64) (x : Int64) : tb (x ^^^ (-1)) k = !tb x k := by
  rw [tb_xor, tb_m1 k hk]; cases tb x k <;> rfl
theorem sl64 : ∀ n, n < 64 → (((nI n).toInt64 &&& 63).toBitVec.smod 64).toNat = n := by decide +kernel
theorem su64 : ∀ n, n < 64 → (((nI n).toInt64.toUInt64 &&& Int64.toUInt64 63).toBitVec % 64).toNat = n := by decide +kernel
theorem tb_shl (n : Nat) (hn : n < 64) (x : Int64) {k : Nat} (hk : k < 64) : tb (x <<< ((nI n).toInt64 &&& 63)) k = (decide (n ≤ k) && tb x (k - n)) := by
  unfold tb
  rw [Int64.toBitVec_shiftLeft]
  show (x.toBitVec <<< (((nI n).toInt64 &&& 63).toBitVec.smod 64).toNat).getLsbD k = _
  rw [sl64 n hn, BitVec.getLsbD_shiftLeft]
  rcases Nat.lt_or_ge k n with h | h
  · simp [h, Nat.not_le.mpr h]
  · simp [hk, h, Nat.not_lt.mpr h]
theorem tb_ushr (n : Nat) (hn : n < 64) (x : Int64) (k : Nat) : tb (zLushr x (nI n)) k = tb x (n + k) := by
  show (x.toUInt64 >>> ((nI n).toInt64.toUInt64 &&& Int64.toUInt64 63)).toBitVec.getLsbD k = x.toUInt64.toBitVec.getLsbD (n + k)
  rw [UInt64.toBitVec_shiftRight]
  show (x.toUInt64.toBitVec >>> (((nI n).toInt64.toUInt64 &&& Int64.toUInt64 63).toBitVec % 64).toNat).getLsbD k = _
  rw [su64 n hn, BitVec.getLsbD_ushiftRight]
theorem tb_sshr (n : Nat) (hn : n < 64) (x : Int64) {k : Nat} (hk : k < 64) : tb (x >>> ((nI n).toInt64 &&& 63)) k = if n + k < 64 then tb x (n + k) else tb x 63 := by
  unfold tb
  rw [Int64.toBitVec_shiftRight]
  show (x.toBitVec.sshiftRight (((nI n).toInt64 &&& 63).toBitVec.smod 64).toNat).getLsbD k = _
  rw [sl64 n hn, BitVec.getLsbD_sshiftRight, BitVec.msb_eq_getLsbD_last]
  simp [hk]
def e1 (k : Nat) : Int64 := lN (2 ^ k)
theorem e1_shl : ∀ k, k < 64 → (1 : Int64) <<< ((nI k).toInt64 &&& 63) = e1 k := by decide +kernel
theorem tb_e1 : ∀ k, k < 64 → ∀ j, j < 64 → tb (e1 k) j = decide (j = k) := by decide +kernel
def b2i (b : Bool) : Int32 := if b then 1 else 0
theorem b2i_0 (b : Bool) : b2i b = 0 ↔ b = false := by cases b <;> decide
theorem b2i_1 (b : Bool) : b2i b = 1 ↔ b = true := by cases b <;> decide
theorem and1 (x : Int64) : x &&& 1 = if tb x 0 then 1 else 0 := by
  apply tb_ext
  intro k hk
  rw [tb_and, tb_1 k hk]
  by_cases h : k = 0
  · subst h
    cases hx : tb x 0 <;> simp [tb_0]
    exact (tb_1 0 (by omega)).symm
  · cases hx : tb x 0 <;> simp [h, tb_0]
    rw [tb_1 k hk]; simp [h]
theorem lg0 (x : Int64) : (lg_cmp x 0 = 0) = (x = 0) := propext (lg_cmp_eq x 0)
theorem xor_self (x : Int64) : x ^^^ x = 0 := tb_ext (fun k _ => by rw [tb_xor, tb_0]; cases tb x k <;> rfl)
theorem xor_0 (x : Int64) : x ^^^ 0 = x := tb_ext (fun k _ => by rw [tb_xor, tb_0]; cases tb x k <;> rfl)
theorem xor_0' (x : Int64) : 0 ^^^ x = x := tb_ext (fun k _ => by rw [tb_xor, tb_0]; cases tb x k <;> rfl)
theorem xor_c (x y : Int64) : x ^^^ y = y ^^^ x := tb_ext (fun k _ => by rw [tb_xor, tb_xor]; cases tb x k <;> cases tb y k <;> rfl)
theorem xor_a (x y z : Int64) : (x ^^^ y) ^^^ z = x ^^^ (y ^^^ z) := tb_ext (fun k _ => by simp only [tb_xor]; cases tb x k <;> cases tb y k <;> cases tb z k <;> rfl)
theorem xor_eq0 {x y : Int64} (h : x ^^^ y = 0) : x = y := by
  have : (x ^^^ y) ^^^ y = 0 ^^^ y := by rw [h]
  rw [xor_a, xor_self, xor_0, xor_0'] at this
  exact this
/-- a part of the bits, built one by one -/
def pt : Nat → Int64 → Int64
  | 0, _ => 0
  | n + 1, x => pt n x ^^^ (if tb x n then e1 n else 0)
theorem tb_pt (x : Int64) : ∀ n, n ≤ 64 → ∀ k, k < 64 → tb (pt n x) k = (decide (k < n) && tb x k)
  | 0, _, k, _ => by simp [pt, tb_0]
  | n + 1, h, k, hk => by
    rw [pt, tb_xor, tb_pt x n (by omega) k hk]
    by_cases hn : tb x n
    · rw [if_pos hn, tb_e1 n (by omega) k hk]
      by_cases e : k = n
      · subst e; simp [hn]
      · have : (k < n + 1) ↔ (k < n) := by omega
        simp [e, this]
    · rw [if_neg hn, tb_0]
      by_cases e : k = n
      · subst e; simp [hn]
      · have : (k < n + 1) ↔ (k < n) := by omega
        simp [this]
theorem pt_64 (x : Int64) : pt 64 x = x := tb_ext (fun k hk => by rw [tb_pt x 64 (by omega) k hk]; simp [hk])
/-- two maps that keep sums are one if they are so at each single bit -/
theorem lin_ext {f g : Int64 → Int64} (hf : ∀ a b, f (a ^^^ b) = f a ^^^ f b) (hg : ∀ a b, g (a ^^^ b) = g a ^^^ g b) (h : ∀ k, k < 64 → f (e1 k) = g (e1 k)) (x : Int64) : f x = g x := by
  have f0 : f 0 = 0 := by have := hf 0 0; rw [xor_self] at this; rw [this, xor_self]
  have g0 : g 0 = 0 := by have := hg 0 0; rw [xor_self] at this; rw [this, xor_self]
  have key : ∀ n, n ≤ 64 → f (pt n x) = g (pt n x) := by
    intro n
    induction n with
    | zero => intro _; simp [pt, f0, g0]
    | succ n ih =>
      intro hn
      rw [pt, hf, hg, ih (by omega)]
      by_cases hx : tb x n
      · rw [if_pos hx, h n (by omega)]
      · rw [if_neg hx, f0, g0]
  have := key 64 (by omega)
  rwa [pt_64] at this
theorem ifl0 {α : Type} (x : Int64) (a b : α) : (if lg_cmp x 0 = 0 then a else b) = if x = 0 then a else b := by
  by_cases h : x = 0
  · rw [if_pos h, if_pos ((lg_cmp_eq x 0).mpr h)]
  · rw [if_neg h, if_neg (fun q => h ((lg_cmp_eq x 0).mp q))]
theorem ifl1 {α : Type} (x : Int64) (a b : α) : (if lg_cmp x 1 = 0 then a else b) = if x = 1 then a else b := by
  by_cases h : x = 1
  · rw [if_pos h, if_pos ((lg_cmp_eq x 1).mpr h)]
  · rw [if_neg h, if_neg (fun q => h ((lg_cmp_eq x 1).mp q))]
theorem nle6 {k : Nat} (h : k < 6) : ¬ (6 : Int32) ≤ nI k := nI_ge h (by decide)
theorem nle64 {k : Nat} (h : k < 64) : ¬ (64 : Int32) ≤ nI k := nI_ge h (by decide)
