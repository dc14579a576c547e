/-! ===== BASE: products that stand no more, while all below them do ===== -/
def cl6 (p l : Nat) : Nat := if p / 2 ^ l % 2 = 1 then p - 2 ^ l else p
theorem cl6_lt : ∀ p, p < 64 → ∀ l, l < 6 → cl6 p l < 64 := by decide +kernel
theorem cl6_ok : ∀ p, p < 64 → ∀ l, l < 6 → nI p &&& (((1 : Int32) <<< (nI l &&& 31)) ^^^ (-1)) = nI (cl6 p l) := by decide +kernel
theorem cl6_eq : ∀ p, p < 64 → ∀ l, l < 6 → (nI (cl6 p l) = nI p ↔ p / 2 ^ l % 2 = 0) := by decide +kernel
theorem bitM : ∀ p, p < 64 → ∀ l, l < 6 → (((nI p >>> (nI l &&& 31)) &&& 1 = 0) ↔ p / 2 ^ l % 2 = 0) := by decide +kernel
def okL (st : Int64) (p l : Nat) : Bool := decide (p / 2 ^ l % 2 = 0) || tb st (cl6 p l)
def lsR (st : Int64) (p : Nat) : Nat → Bool
  | 0 => true
  | d + 1 => okL st p (5 - d) && lsR st p d
def lsB (st : Int64) (p : Nat) : Bool := !tb st p && lsR st p 6
theorem beginsX_l (st : Int64) (p : Nat) (hp : p < 64) : ∀ (d n l : Nat), l + d = 6 → d < n → fX2_beginsBase_b12L n (nI p) st (nI l) = some (b2i (lsR st p d)) := by
  intro d
  induction d with
  | zero =>
    intro n l hl hn
    obtain ⟨n, rfl⟩ : ∃ k, n = k + 1 := ⟨n - 1, by omega⟩
    have : l = 6 := by omega
    subst this
    show fX2_beginsBase_b12 (fX2_beginsBase_b12L n) _ _ _ = _
    unfold fX2_beginsBase_b12
    rw [if_pos (by decide)]
    rfl
  | succ d ih =>
    intro n l hl hn
    obtain ⟨n, rfl⟩ : ∃ k, n = k + 1 := ⟨n - 1, by omega⟩
    have hl6 : l < 6 := by omega
    have e5 : 5 - d = l := by omega
    have hs := ih n (l + 1) (by omega) (by omega)
    show fX2_beginsBase_b12 (fX2_beginsBase_b12L n) _ _ _ = _
    unfold fX2_beginsBase_b12
    rw [if_neg (nle6 hl6), zL_t, cl6_ok p hp l hl6, lsR, e5]
    by_cases h0 : p / 2 ^ l % 2 = 0
    · rw [if_pos ((cl6_eq p hp l hl6).mpr h0)]
      unfold fX2_beginsBase_b44
      rw [nI_1, hs]
      simp [okL, h0]
    · rw [if_neg (fun q => h0 ((cl6_eq p hp l hl6).mp q)), hasX st (cl6_lt p hp l hl6), zB1_t rfl]
      unfold okL
      cases ht : tb st (cl6 p l)
      · rw [if_pos (by decide)]
        simp [h0, b2i]
      · rw [if_neg (by decide)]
        unfold fX2_beginsBase_b44
        rw [nI_1, hs]
        simp
theorem beginsX (st : Int64) {p : Nat} (hp : p < 64) : fX2_beginsBase (nI p) st = some (b2i (lsB st p)) := by
  unfold fX2_beginsBase lsB
  rw [hasX st hp, zB1_t rfl]
  cases ht : tb st p
  · rw [if_pos (by decide)]
    exact beginsX_l st p hp 6 zF 0 (by omega) (by decide)
  · rw [if_neg (by decide)]
    rfl
theorem b2i01 (b : Bool) : b2i b = 0 ∨ b2i b = 1 := by cases b <;> decide
theorem leastM_l (M : MS) (p : Nat) (hp : p < 64) : ∀ (d n l : Nat) (is : Bool), l + d = 6 → d < n → fX3_isLeast_b19L n (nI p) (b2i is) (nI l) M = some (b2i (is && lsR (m_standing M) p d), M) := by
  intro d
  induction d with
  | zero =>
    intro n l is hl hn
    obtain ⟨n, rfl⟩ : ∃ k, n = k + 1 := ⟨n - 1, by omega⟩
    have : l = 6 := by omega
    subst this
    show fX3_isLeast_b19 (fX3_isLeast_b19L n) _ _ _ _ = _
    unfold fX3_isLeast_b19
    rw [if_pos (by decide), zG_t (b2i01 is), lsR, Bool.and_true]
  | succ d ih =>
    intro n l is hl hn
    obtain ⟨n, rfl⟩ : ∃ k, n = k + 1 := ⟨n - 1, by omega⟩
    have hl6 : l < 6 := by omega
    have e5 : 5 - d = l := by omega
    have hs1 := ih n (l + 1) true (by omega) (by omega)
    have hs0 := ih n (l + 1) false (by omega) (by omega)
    have hs1 : fX3_isLeast_b19L n (nI p) 1 (nI (l + 1)) M = some (b2i (lsR (m_standing M) p d), M) := hs1
    have hs0 : fX3_isLeast_b19L n (nI p) 0 (nI (l + 1)) M = some (b2i false, M) := hs0
    show fX3_isLeast_b19 (fX3_isLeast_b19L n) _ _ _ _ = _
    unfold fX3_isLeast_b19 fX3_isLeast_b58 fX3_isLeast_b54 fX3_isLeast_b59
    rw [if_neg (nle6 hl6), lsR, e5, nI_1, hs0, hs1]
    cases is with
    | false =>
      rw [if_pos (by decide)]
      rfl
    | true =>
      rw [if_neg (by decide)]
      by_cases h0 : p / 2 ^ l % 2 = 0
      · rw [if_pos ((bitM p hp l hl6).mpr h0)]
        simp [okL, h0]
      · rw [if_neg (fun q => h0 ((bitM p hp l hl6).mp q)), cl6_ok p hp l hl6, hasM _ (cl6_lt p hp l hl6), zB1_t rfl]
        unfold okL
        cases ht : tb (m_standing M) (cl6 p l)
        · rw [if_pos (by decide)]
          simp [h0]
        · rw [if_neg (by decide)]
          simp
theorem leastM (M : MS) {p : Nat} (hp : p < 64) : fX3_isLeast (nI p) M = some (b2i (lsB (m_standing M) p), M) := by
  unfold fX3_isLeast fX3_isLeast_b16 lsB
  rw [hasM _ hp, zB1_t rfl]
  cases ht : tb (m_standing M) p
  · rw [if_pos (by decide)]
    exact leastM_l M p hp 6 zF 0 true (by omega) (by decide)
  · rw [if_neg (by decide)]
    exact leastM_l M p hp 6 zF 0 false (by omega) (by decide)
theorem base_l (X : XS) (M : MS) (hO : OrdOk M) (k : Int32) : ∀ (d n m j a : Nat), j + d = 64 → d < n → d < m → a ≤ j →
    (fX2_base_b17L n k (m_standing M) (nI a) (nI j) X = some (0, X) ∧ fX3_base_b9L m k (nI a) (nI j) M = some (0, M)) ∨
    ∃ p b, p < 64 ∧ b ≤ 64 ∧ k = nI b ∧ fX2_base_b17L n k (m_standing M) (nI a) (nI j) X = zB2 (fX2_leftOf (e1 p) X) (fun r S => some (e1 p ^^^ r, S)) ∧ fX3_base_b9L m k (nI a) (nI j) M = zB2 (fX3_leftOf (e1 p) M) (fun r S => some (e1 p ^^^ r, S)) := by
  intro d
  induction d with
  | zero =>
    intro n m j a hj hn hm ha
    obtain ⟨n, rfl⟩ : ∃ q, n = q + 1 := ⟨n - 1, by omega⟩
    obtain ⟨m, rfl⟩ : ∃ q, m = q + 1 := ⟨m - 1, by omega⟩
    have : j = 64 := by omega
    subst this
    refine Or.inl ⟨?_, ?_⟩
    · show fX2_base_b17 (fX2_base_b17L n) _ _ _ _ _ = _
      unfold fX2_base_b17
      rw [if_pos (by decide)]
    · show fX3_base_b9 (fX3_base_b9L m) _ _ _ _ = _
      unfold fX3_base_b9
      rw [if_pos (by decide)]
  | succ d ih =>
    intro n m j a hj hn hm ha
    obtain ⟨n, rfl⟩ : ∃ q, n = q + 1 := ⟨n - 1, by omega⟩
    obtain ⟨m, rfl⟩ : ∃ q, m = q + 1 := ⟨m - 1, by omega⟩
    have hj' : j < 64 := by omega
    have hp := ord_lt j hj'
    have hX : fX2_base_b17L (n + 1) k (m_standing M) (nI a) (nI j) X = if b2i (lsB (m_standing M) (ord j)) = 0 then fX2_base_b17L n k (m_standing M) (nI a) (nI (j + 1)) X else if nI a = k then zB2 (fX2_leftOf (e1 (ord j)) X) (fun r S => some (e1 (ord j) ^^^ r, S)) else fX2_base_b17L n k (m_standing M) (nI (a + 1)) (nI (j + 1)) X := by
      show fX2_base_b17 (fX2_base_b17L n) _ _ _ _ _ = _
      unfold fX2_base_b17
      rw [if_neg (nle64 hj'), zGI_t (vp_in_nI hj' (by decide)), nI_clamp (by omega), zOrd_ord j hj', beginsX _ hp, zB1_t rfl, e1_shl _ hp]
      unfold fX2_base_b64
      rw [nI_1, nI_1]
    have hM : fX3_base_b9L (m + 1) k (nI a) (nI j) M = if b2i (lsB (m_standing M) (ord j)) = 0 then fX3_base_b9L m k (nI a) (nI (j + 1)) M else if nI a = k then zB2 (fX3_leftOf (e1 (ord j)) M) (fun r S => some (e1 (ord j) ^^^ r, S)) else fX3_base_b9L m k (nI (a + 1)) (nI (j + 1)) M := by
      show fX3_base_b9 (fX3_base_b9L m) _ _ _ _ = _
      unfold fX3_base_b9
      rw [if_neg (nle64 hj'), zGI_t (vp_in_nI hj' (by decide)), nI_clamp (by omega), hO j hj', leastM M hp, zB2_t rfl, e1_shl _ hp]
      unfold fX3_base_b54
      rw [nI_1, nI_1]
    rw [hX, hM]
    by_cases hb : b2i (lsB (m_standing M) (ord j)) = 0
    · rw [if_pos hb, if_pos hb]
      exact ih n m (j + 1) a (by omega) (by omega) (by omega) (by omega)
    · rw [if_neg hb, if_neg hb]
      by_cases hk : nI a = k
      · rw [if_pos hk, if_pos hk]
        exact Or.inr ⟨ord j, a, hp, by omega, hk.symm, rfl, rfl⟩
      · rw [if_neg hk, if_neg hk]
        exact ih n m (j + 1) (a + 1) (by omega) (by omega) (by omega) (by omega)
def bsz (st : Int64) : Nat → Nat
  | 0 => 0
  | n + 1 => bsz st n + (if lsB st n then 1 else 0)
theorem bsX_l (X : XS) (st : Int64) : ∀ (d n p : Nat), p + d = 64 → d < n → fX2_baseSize_b10L n st (nI (bsz st p)) (nI p) X = some (nI (bsz st 64), X) := by
  intro d
  induction d with
  | zero =>
    intro n p hp hn
    obtain ⟨n, rfl⟩ : ∃ q, n = q + 1 := ⟨n - 1, by omega⟩
    have : p = 64 := by omega
    subst this
    show fX2_baseSize_b10 (fX2_baseSize_b10L n) _ _ _ _ = _
    unfold fX2_baseSize_b10
    rw [if_pos (by decide)]
  | succ d ih =>
    intro n p hp hn
    obtain ⟨n, rfl⟩ : ∃ q, n = q + 1 := ⟨n - 1, by omega⟩
    have hp' : p < 64 := by omega
    have hs := ih n (p + 1) (by omega) (by omega)
    rw [bsz] at hs
    show fX2_baseSize_b10 (fX2_baseSize_b10L n) _ _ _ _ = _
    unfold fX2_baseSize_b10 fX2_baseSize_b29
    rw [if_neg (nle64 hp'), beginsX st hp', zB1_t rfl, nI_1, nI_1]
    cases hb : lsB st p
    · rw [if_pos (by decide)]
      simpa [hb] using hs
    · rw [if_neg (by decide)]
      simpa [hb] using hs
theorem bsM_l (M : MS) (a : Int32) : ∀ (d n p : Nat), p + d = 64 → d < n → fX3_count_b9L n a (nI (bsz (m_standing M) p)) (nI p) M = fX3_count_b9L 1 a (nI (bsz (m_standing M) 64)) (nI 64) M := by
  intro d
  induction d with
  | zero =>
    intro n p hp hn
    obtain ⟨n, rfl⟩ : ∃ q, n = q + 1 := ⟨n - 1, by omega⟩
    have : p = 64 := by omega
    subst this
    show fX3_count_b9 (fX3_count_b9L n) _ _ _ _ = fX3_count_b9 (fX3_count_b9L 0) _ _ _ _
    unfold fX3_count_b9
    have h64 : (64 : Int32) ≤ nI 64 := by decide
    rw [if_pos h64, if_pos h64]
  | succ d ih =>
    intro n p hp hn
    obtain ⟨n, rfl⟩ : ∃ q, n = q + 1 := ⟨n - 1, by omega⟩
    have hp' : p < 64 := by omega
    have hs := ih n (p + 1) (by omega) (by omega)
    rw [bsz] at hs
    rw [← hs]
    show fX3_count_b9 (fX3_count_b9L n) _ _ _ _ = _
    unfold fX3_count_b9 fX3_count_b29
    rw [if_neg (nle64 hp'), leastM M hp', zB2_t rfl, nI_1, nI_1]
    cases hb : lsB (m_standing M) p
    · rw [if_pos (by decide), show nI (bsz (m_standing M) p) + (0 : Int32) = nI (bsz (m_standing M) p) from nI_add _ 0]
      rfl
    · rw [if_neg (by decide)]
      rfl
