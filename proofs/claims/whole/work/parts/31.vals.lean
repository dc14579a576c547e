/-! ===== single bits asked, letters, values, products: both sides by one value ===== -/
theorem hasX (x : Int64) {k : Nat} (hk : k < 64) : fX2_hasBit x (nI k) = some (b2i (tb x k)) := by
  unfold fX2_hasBit
  rw [ifl0, and1, tb_ushr k hk, Nat.add_zero]
  cases h : tb x k <;> simp [b2i]
theorem hasM (x : Int64) {k : Nat} (hk : k < 64) : fX3_has x (nI k) = some (b2i (tb x k)) := by
  unfold fX3_has
  rw [ifl1, and1, tb_sshr k hk x (by omega : 0 < 64), Nat.add_zero, if_pos hk]
  cases h : tb x k <;> simp [b2i]
def lt6 (p : Nat) : Nat := p % 2 + p / 2 % 2 + p / 4 % 2 + p / 8 % 2 + p / 16 % 2 + p / 32 % 2
theorem lettersM : ∀ p, p < 64 → fX3_letters (nI p) = some (nI (lt6 p)) := by decide +kernel
theorem countI : ∀ p, p < 64 → fJ6_bitCount_0f7a4 (nI p) = some (nI (lt6 p)) := by decide +kernel
theorem lt6_le : ∀ p, p < 64 → lt6 p ≤ 6 := by decide +kernel
def lt8 (p : Nat) : Nat := lt6 (p % 64) + p / 64 % 2 + p / 128 % 2
theorem countI8 : ∀ p, p < 256 → fJ6_bitCount_0f7a4 (nI p) = some (nI (lt8 p)) := by decide +kernel
def ord (j : Nat) : Nat := (zOrd j).toNatClampNeg
theorem zOrd_ord : ∀ j, j < 64 → zOrd j = nI (ord j) := by decide +kernel
theorem ord_lt : ∀ j, j < 64 → ord j < 64 := by decide +kernel
/-- the place of a product in the order -/
def pos (p : Nat) : Nat := ([0, 1, 2, 7, 3, 8, 9, 22, 4, 10, 11, 23, 12, 24, 25, 42, 5, 13, 14, 26, 15, 27, 28, 43, 16, 29, 30, 44, 31, 45, 46, 57, 6, 17, 18, 32, 19, 33, 34, 47, 20, 35, 36, 48, 37, 49, 50, 58, 21, 38, 39, 51, 40, 52, 53, 59, 41, 54, 55, 60, 56, 61, 62, 63] : List Nat).getD p 0
theorem pos_ord : ∀ j, j < 64 → pos (ord j) = j := by decide +kernel
theorem ord_pos : ∀ p, p < 64 → ord (pos p) = p := by decide +kernel
theorem pos_lt : ∀ p, p < 64 → pos p < 64 := by decide +kernel
theorem ord_mono : ∀ i, i < 64 → ∀ j, j < 64 → i ≤ j → lt6 (ord i) ≤ lt6 (ord j) := by decide +kernel
theorem ord_cl (j : Nat) (hj : j < 64) : (nI (ord j)).toNatClampNeg = ord j := nI_clamp (Nat.lt_trans (ord_lt j hj) (by decide))
/-! the class's values -/
def vst (k : Nat) (a : Int64) : Int64 := a ^^^ ((a &&& (zHas k ^^^ (-1))) <<< ((nI (2 ^ k)).toInt64 &&& 63))
def vals (a : Int64) : Int64 := vst 5 (vst 4 (vst 3 (vst 2 (vst 1 (vst 0 a)))))
theorem sh6 : ∀ k, k < 6 → (1 : Int32) <<< (nI k &&& 31) = nI (2 ^ k) := by decide +kernel
theorem vstep (K : Int64 → Int32 → Option Int64) (a : Int64) (k : Nat) (hk : k < 6) : fX2_valuesOf_b5 K a (nI k) = K (vst k a) (nI (k + 1)) := by
  unfold fX2_valuesOf_b5
  rw [if_neg (nle6 hk), zGI_t (vp_in_nI hk (by decide)), nI_clamp (by omega), sh6 k hk, nI_1]
  rfl
theorem valsX (a : Int64) : fX2_valuesOf a = some (vals a) := by
  unfold fX2_valuesOf
  show fX2_valuesOf_b5 (fX2_valuesOf_b5L 999) a (nI 0) = _
  rw [vstep _ _ 0 (by omega)]
  show fX2_valuesOf_b5 (fX2_valuesOf_b5L 998) _ (nI 1) = _
  rw [vstep _ _ 1 (by omega)]
  show fX2_valuesOf_b5 (fX2_valuesOf_b5L 997) _ (nI 2) = _
  rw [vstep _ _ 2 (by omega)]
  show fX2_valuesOf_b5 (fX2_valuesOf_b5L 996) _ (nI 3) = _
  rw [vstep _ _ 3 (by omega)]
  show fX2_valuesOf_b5 (fX2_valuesOf_b5L 995) _ (nI 4) = _
  rw [vstep _ _ 4 (by omega)]
  show fX2_valuesOf_b5 (fX2_valuesOf_b5L 994) _ (nI 5) = _
  rw [vstep _ _ 5 (by omega)]
  show fX2_valuesOf_b5 (fX2_valuesOf_b5L 993) _ (nI 6) = _
  unfold fX2_valuesOf_b5
  rw [if_pos (by decide)]
  rfl
theorem p2_lt : ∀ k, k < 6 → 2 ^ k < 64 := by decide
theorem vst_xor (k : Nat) (hk : k < 6) (a b : Int64) : vst k (a ^^^ b) = vst k a ^^^ vst k b := by
  apply tb_ext
  intro w hw
  have h2 := p2_lt k hk
  simp only [vst, tb_xor, tb_shl (2 ^ k) h2 _ hw, tb_and]
  cases tb a w <;> cases tb b w <;> cases tb a (w - 2 ^ k) <;> cases tb b (w - 2 ^ k) <;> cases decide (2 ^ k ≤ w) <;> cases tb (zHas k) (w - 2 ^ k) <;> cases tb (-1) (w - 2 ^ k) <;> rfl
theorem vals_xor (a b : Int64) : vals (a ^^^ b) = vals a ^^^ vals b := by
  unfold vals
  rw [vst_xor 0 (by omega), vst_xor 1 (by omega), vst_xor 2 (by omega), vst_xor 3 (by omega), vst_xor 4 (by omega), vst_xor 5 (by omega)]
theorem vals_0 : vals 0 = 0 := by decide +kernel
theorem vals_e : ∀ k, k < 64 → vals (vals (e1 k)) = e1 k := by decide +kernel
theorem vals_vals (a : Int64) : vals (vals a) = a := lin_ext (f := fun x => vals (vals x)) (g := fun x => x) (fun a b => by rw [vals_xor, vals_xor]) (fun _ _ => rfl) vals_e a
theorem vals_inj {a b : Int64} (h : vals a = vals b) : a = b := by rw [← vals_vals a, h, vals_vals]
def sub6 (p w : Nat) : Bool := p &&& w == p
theorem tb_vals_e : ∀ k, k < 64 → ∀ w, w < 64 → tb (vals (e1 k)) w = sub6 k w := by decide +kernel
/-! products of sums -/
def mul (a b : Int64) : Int64 := vals (vals a &&& vals b)
theorem mulX (a b : Int64) : fX2_multiplied a b = some (mul a b) := by
  unfold fX2_multiplied
  rw [valsX, valsX]
  show (zB1 (fX2_valuesOf (vals a &&& vals b)) fun r => some r) = _
  rw [valsX]
  rfl
theorem and_xor (a b c : Int64) : (a ^^^ b) &&& c = (a &&& c) ^^^ (b &&& c) := tb_ext (fun k _ => by simp only [tb_xor, tb_and]; cases tb a k <;> cases tb b k <;> cases tb c k <;> rfl)
theorem and_c (a b : Int64) : a &&& b = b &&& a := tb_ext (fun k _ => by rw [tb_and, tb_and, Bool.and_comm])
theorem mul_c (a b : Int64) : mul a b = mul b a := by unfold mul; rw [and_c]
theorem mul_xor (a b c : Int64) : mul (a ^^^ b) c = mul a c ^^^ mul b c := by unfold mul; rw [vals_xor, and_xor, vals_xor]
theorem mul_xor' (a b c : Int64) : mul a (b ^^^ c) = mul a b ^^^ mul a c := by rw [mul_c, mul_xor, mul_c b, mul_c c]
theorem mul_0 (a : Int64) : mul 0 a = 0 := by
  have := mul_xor 0 0 a
  rw [xor_self] at this
  rw [this, xor_self]
theorem mul_0' (a : Int64) : mul a 0 = 0 := by rw [mul_c, mul_0]
theorem vals_mul (a b : Int64) : vals (mul a b) = vals a &&& vals b := by unfold mul; rw [vals_vals]
theorem mul_ee : ∀ q, q < 64 → ∀ p, p < 64 → mul (e1 q) (e1 p) = e1 (q ||| p) := by decide +kernel
/-! the model's values -/
def cntw (a : Int64) (w : Nat) : Nat → Nat
  | 0 => 0
  | n + 1 => cntw a w n + (if sub6 n w && tb a n then 1 else 0)
theorem cntw_le (a : Int64) (w : Nat) : ∀ n, cntw a w n ≤ n
  | 0 => Nat.le_refl 0
  | n + 1 => by
    have := cntw_le a w n
    rw [cntw]
    split <;> omega
theorem sub_ok : ∀ p, p < 64 → ∀ w, w < 64 → ((nI p &&& (nI w ^^^ (-1))) = 0 ↔ sub6 p w = true) := by decide +kernel
theorem valsM_in (K : Int64 → Int64 → Int32 → Option Int64) (a v : Int64) (w : Nat) (hw : w < 64) : ∀ (d n p : Nat), p + d = 64 → d < n → fX3_values_b18L K n a v (nI w) (lN (cntw a w p)) (nI p) = K a (v ||| ((lN (cntw a w 64) &&& 1) <<< ((nI w).toInt64 &&& 63))) (nI (w + 1)) := by
  intro d
  induction d with
  | zero =>
    intro n p hp hn
    obtain ⟨n, rfl⟩ : ∃ k, n = k + 1 := ⟨n - 1, by omega⟩
    show fX3_values_b18 K (fX3_values_b18L K n) _ _ _ _ _ = _
    unfold fX3_values_b18
    have : p = 64 := by omega
    subst this
    rw [if_pos (by decide), nI_1]
    rfl
  | succ d ih =>
    intro n p hp hn
    obtain ⟨n, rfl⟩ : ∃ k, n = k + 1 := ⟨n - 1, by omega⟩
    show fX3_values_b18 K (fX3_values_b18L K n) _ _ _ _ _ = _
    unfold fX3_values_b18
    rw [if_neg (nle64 (by omega))]
    have hstep := ih n (p + 1) (by omega) (by omega)
    rw [cntw] at hstep
    by_cases hs : sub6 p w = true
    · rw [if_pos ((sub_ok p (by omega) w hw).mpr hs), hasM a (by omega : p < 64)]
      show (if b2i (tb a p) = 0 then _ else _) = _
      cases ht : tb a p
      · rw [if_pos (by decide)]
        unfold fX3_values_b50 fX3_values_b51
        rw [nI_1, show lN (cntw a w p) + (0 : Int64) = lN (cntw a w p) from lN_add _ 0]
        simpa [hs, ht] using hstep
      · rw [if_neg (by decide)]
        unfold fX3_values_b51
        rw [nI_1, lN_1]
        simpa [hs, ht] using hstep
    · rw [if_neg (fun h => hs ((sub_ok p (by omega) w hw).mp h))]
      unfold fX3_values_b50 fX3_values_b51
      rw [nI_1, show lN (cntw a w p) + (0 : Int64) = lN (cntw a w p) from lN_add _ 0]
      simpa [hs] using hstep
def vmk (a : Int64) : Nat → Int64
  | 0 => 0
  | w + 1 => vmk a w ||| ((lN (cntw a w 64) &&& 1) <<< ((nI w).toInt64 &&& 63))
theorem valsM_out (a : Int64) : ∀ (d n w : Nat), w + d = 64 → d < n → fX3_values_b5L n a (vmk a w) (nI w) = some (vmk a 64) := by
  intro d
  induction d with
  | zero =>
    intro n w hp hn
    obtain ⟨n, rfl⟩ : ∃ k, n = k + 1 := ⟨n - 1, by omega⟩
    show fX3_values_b5 (fX3_values_b5L n) _ _ _ = _
    unfold fX3_values_b5
    have : w = 64 := by omega
    subst this
    rw [if_pos (by decide)]
  | succ d ih =>
    intro n w hp hn
    obtain ⟨n, rfl⟩ : ∃ k, n = k + 1 := ⟨n - 1, by omega⟩
    show fX3_values_b5 (fX3_values_b5L n) _ _ _ = _
    unfold fX3_values_b5
    rw [if_neg (nle64 (by omega))]
    have h := valsM_in (fX3_values_b5L n) a (vmk a w) w (by omega) 64 zF 0 (by omega) (by decide)
    exact h.trans (ih n (w + 1) (by omega) (by omega))
theorem lN_odd (n : Nat) (h : n ≤ 64) : lN n &&& 1 = if n % 2 = 1 then 1 else 0 := by
  have : ∀ n, n ≤ 64 → lN n &&& 1 = if n % 2 = 1 then 1 else 0 := by decide +kernel
  exact this n h
theorem tb_vmk (a : Int64) : ∀ n, n ≤ 64 → ∀ k, k < 64 → tb (vmk a n) k = (decide (k < n) && decide (cntw a k 64 % 2 = 1))
  | 0, _, k, _ => by simp [vmk, tb_0]
  | n + 1, h, k, hk => by
    rw [vmk, tb_or, tb_vmk a n (by omega) k hk, tb_shl n (by omega) _ hk, lN_odd _ (cntw_le a n 64)]
    by_cases e : k = n
    · subst e
      by_cases ho : cntw a k 64 % 2 = 1
      · simp [ho, tb_1 0 (by omega)]
      · simp [ho, tb_0]
    · by_cases hl : k < n
      · have h1 : ¬ n ≤ k := by omega
        have h2 : k < n + 1 := by omega
        simp [hl, h1, h2]
      · have h2 : ¬ k < n + 1 := by omega
        by_cases ho : cntw a n 64 % 2 = 1
        · have h3 : k - n ≠ 0 := by omega
          have h4 := tb_1 (k - n) (by omega)
          simp [hl, h2, ho, h4, h3]
        · simp [hl, h2, ho, tb_0]
theorem cntw_xor (a b : Int64) (w : Nat) : ∀ n, cntw (a ^^^ b) w n % 2 = (cntw a w n + cntw b w n) % 2
  | 0 => rfl
  | n + 1 => by
    have ih := cntw_xor a b w n
    simp only [cntw, tb_xor]
    cases sub6 n w <;> cases tb a n <;> cases tb b n <;> simp <;> omega
theorem cntw_e (k w : Nat) (hk : k < 64) : ∀ n, n ≤ 64 → cntw (e1 k) w n = if k < n ∧ sub6 k w = true then 1 else 0
  | 0, _ => by simp [cntw]
  | n + 1, h => by
    rw [cntw, cntw_e k w hk n (by omega), tb_e1 k hk n (by omega)]
    by_cases e : n = k
    · subst e
      cases hs : sub6 n w <;> simp
    · have h1 : (k < n + 1) ↔ (k < n) := by omega
      simp [e, h1]
theorem valsM (a : Int64) : fX3_values a = some (vals a) := by
  have h1 : fX3_values a = some (vmk a 64) := valsM_out a 64 zF 0 (by omega) (by decide)
  rw [h1]
  congr 1
  refine lin_ext (f := fun a => vmk a 64) (g := vals) (fun a b => ?_) vals_xor (fun k hk => ?_) a
  · apply tb_ext
    intro w hw
    rw [tb_xor, tb_vmk _ 64 (by omega) w hw, tb_vmk _ 64 (by omega) w hw, tb_vmk _ 64 (by omega) w hw]
    have := cntw_xor a b w 64
    simp only [hw, decide_true, Bool.true_and]
    rcases Nat.mod_two_eq_zero_or_one (cntw a w 64) with p | p <;> rcases Nat.mod_two_eq_zero_or_one (cntw b w 64) with q | q <;> simp [p, q, this, Nat.add_mod]
  · apply tb_ext
    intro w hw
    rw [tb_vmk _ 64 (by omega) w hw, cntw_e k w hk 64 (by omega), tb_vals_e k hk w hw]
    cases hs : sub6 k w <;> simp [hk, hw]
