/-! ===== the model's products of sums; leads and degrees ===== -/
def rsd (a : Int64) (p : Nat) : Nat → Int64
  | 0 => 0
  | n + 1 => rsd a p n ^^^ (if tb a n then e1 (n ||| p) else 0)
theorem or_ok : ∀ q, q < 64 → ∀ p, p < 64 → (nI q ||| nI p) = nI (q ||| p) := by decide +kernel
theorem or_lt : ∀ q, q < 64 → ∀ p, p < 64 → q ||| p < 64 := by decide +kernel
theorem raisedM_l (a : Int64) (p : Nat) (hp : p < 64) : ∀ (d n q : Nat), q + d = 64 → d < n → fX3_raised_b5L n a (nI p) (rsd a p q) (nI q) = some (rsd a p 64) := by
  intro d
  induction d with
  | zero =>
    intro n q hq hn
    obtain ⟨n, rfl⟩ : ∃ k, n = k + 1 := ⟨n - 1, by omega⟩
    show fX3_raised_b5 (fX3_raised_b5L n) _ _ _ _ = _
    unfold fX3_raised_b5
    have : q = 64 := by omega
    subst this
    rw [if_pos (by decide)]
  | succ d ih =>
    intro n q hq hn
    obtain ⟨n, rfl⟩ : ∃ k, n = k + 1 := ⟨n - 1, by omega⟩
    show fX3_raised_b5 (fX3_raised_b5L n) _ _ _ _ = _
    unfold fX3_raised_b5
    have hq' : q < 64 := by omega
    rw [if_neg (nle64 hq'), hasM a hq']
    have hs := ih n (q + 1) (by omega) (by omega)
    rw [rsd] at hs
    show (if b2i (tb a q) = 0 then _ else _) = _
    cases ht : tb a q
    · rw [if_pos (by decide)]
      unfold fX3_raised_b32
      rw [nI_1]
      simpa [ht] using hs
    · rw [if_neg (by decide)]
      unfold fX3_raised_b32
      rw [nI_1, or_ok q hq' p hp, e1_shl _ (or_lt q hq' p hp)]
      simpa [ht] using hs
theorem rsd_mul (a : Int64) (p : Nat) (hp : p < 64) : ∀ n, n ≤ 64 → rsd a p n = mul (pt n a) (e1 p)
  | 0, _ => by rw [rsd, pt, mul_0]
  | n + 1, h => by
    rw [rsd, pt, mul_xor, rsd_mul a p hp n (by omega)]
    cases ht : tb a n
    · simp [mul_0]
    · simp [mul_ee n (by omega) p hp]
theorem raisedM (a : Int64) {p : Nat} (hp : p < 64) : fX3_raised a (nI p) = some (mul a (e1 p)) := by
  have h : fX3_raised a (nI p) = some (rsd a p 64) := raisedM_l a p hp 64 zF 0 (by omega) (by decide)
  rw [h, rsd_mul a p hp 64 (by omega), pt_64]
def mlt (a b : Int64) : Nat → Int64
  | 0 => 0
  | n + 1 => mlt a b n ^^^ (if tb b n then mul a (e1 n) else 0)
theorem multM_l (a b : Int64) : ∀ (d n q : Nat), q + d = 64 → d < n → fX3_multiplied_b6L n a b (mlt a b q) (nI q) = some (mlt a b 64) := by
  intro d
  induction d with
  | zero =>
    intro n q hq hn
    obtain ⟨n, rfl⟩ : ∃ k, n = k + 1 := ⟨n - 1, by omega⟩
    show fX3_multiplied_b6 (fX3_multiplied_b6L n) _ _ _ _ = _
    unfold fX3_multiplied_b6
    have : q = 64 := by omega
    subst this
    rw [if_pos (by decide)]
  | succ d ih =>
    intro n q hq hn
    obtain ⟨n, rfl⟩ : ∃ k, n = k + 1 := ⟨n - 1, by omega⟩
    show fX3_multiplied_b6 (fX3_multiplied_b6L n) _ _ _ _ = _
    unfold fX3_multiplied_b6
    have hq' : q < 64 := by omega
    rw [if_neg (nle64 hq'), hasM b hq']
    have hs := ih n (q + 1) (by omega) (by omega)
    rw [mlt] at hs
    show (if b2i (tb b q) = 0 then _ else _) = _
    cases ht : tb b q
    · rw [if_pos (by decide)]
      unfold fX3_multiplied_b34
      rw [nI_1]
      simpa [ht] using hs
    · rw [if_neg (by decide), raisedM a hq']
      show fX3_multiplied_b34 _ _ _ _ _ _ = _
      unfold fX3_multiplied_b34
      rw [nI_1]
      simpa [ht] using hs
theorem mlt_mul (a b : Int64) : ∀ n, n ≤ 64 → mlt a b n = mul a (pt n b)
  | 0, _ => by rw [mlt, pt, mul_0']
  | n + 1, h => by
    rw [mlt, pt, mul_xor', mlt_mul a b n (by omega)]
    cases ht : tb b n <;> simp [mul_0']
theorem multM (a b : Int64) : fX3_multiplied a b = some (mul a b) := by
  have h : fX3_multiplied a b = some (mlt a b 64) := multM_l a b 64 zF 0 (by omega) (by decide)
  rw [h, mlt_mul a b 64 (by omega), pt_64]
/-! leads -/
def ltop (s : Int64) : Nat → Option Nat
  | 0 => none
  | n + 1 => if tb s (ord n) then some n else ltop s n
theorem ltop_some {s : Int64} : ∀ {n j : Nat}, ltop s n = some j → j < n ∧ tb s (ord j) = true ∧ ∀ i, j < i → i < n → tb s (ord i) = false
  | 0, j, h => by cases h
  | n + 1, j, h => by
    rw [ltop] at h
    by_cases ht : tb s (ord n) = true
    · rw [if_pos ht] at h
      cases h
      exact ⟨by omega, ht, fun i h1 h2 => absurd h1 (by omega)⟩
    · rw [if_neg ht] at h
      obtain ⟨a, b, c⟩ := ltop_some h
      refine ⟨by omega, b, fun i h1 h2 => ?_⟩
      rcases Nat.lt_or_ge i n with q | q
      · exact c i h1 q
      · have : i = n := by omega
        subst this
        exact Bool.eq_false_iff.mpr ht
theorem ltop_none {s : Int64} : ∀ {n : Nat}, ltop s n = none → ∀ i, i < n → tb s (ord i) = false
  | 0, _, i, hi => absurd hi (by omega)
  | n + 1, h, i, hi => by
    rw [ltop] at h
    by_cases ht : tb s (ord n) = true
    · rw [if_pos ht] at h; cases h
    · rw [if_neg ht] at h
      rcases Nat.lt_or_ge i n with q | q
      · exact ltop_none h i q
      · have : i = n := by omega
        subst this
        exact Bool.eq_false_iff.mpr ht
theorem ord_ext {x y : Int64} (h : ∀ j, j < 64 → tb x (ord j) = tb y (ord j)) : x = y := tb_ext (fun k hk => by
  have := h (pos k) (pos_lt k hk)
  rwa [ord_pos k hk] at this)
theorem ltop_zero {s : Int64} (h : ltop s 64 = none) : s = 0 := ord_ext (fun j hj => by rw [ltop_none h j hj, tb_0])
theorem ltop_0 : ∀ n, ltop 0 n = none
  | 0 => rfl
  | n + 1 => by rw [ltop, tb_0, if_neg (by decide), ltop_0 n]
def ldv (s : Int64) (n : Nat) : Int32 := match ltop s n with
  | some j => nI (ord j)
  | none => -9
def dgv (s : Int64) : Int32 := match ltop s 64 with
  | some j => nI (lt6 (ord j))
  | none => -9
theorem ldv_s (s : Int64) (n : Nat) : ldv s (n + 1) = if tb s (ord n) then nI (ord n) else ldv s n := by
  unfold ldv
  rw [ltop]
  cases tb s (ord n) <;> rfl
theorem leadX_l (s : Int64) : ∀ (j n : Nat), j ≤ 64 → j < n → fX2_leadOf_b3L n s (nI j + (-1)) = some (ldv s j) := by
  intro j
  induction j with
  | zero =>
    intro n _ hn
    obtain ⟨n, rfl⟩ : ∃ k, n = k + 1 := ⟨n - 1, by omega⟩
    show fX2_leadOf_b3 (fX2_leadOf_b3L n) _ _ = _
    unfold fX2_leadOf_b3
    rw [if_pos (by decide)]
    rfl
  | succ j ih =>
    intro n hj hn
    obtain ⟨n, rfl⟩ : ∃ k, n = k + 1 := ⟨n - 1, by omega⟩
    show fX2_leadOf_b3 (fX2_leadOf_b3L n) _ _ = _
    unfold fX2_leadOf_b3
    have hj' : j < 64 := by omega
    rw [pk_m1, if_neg (nI_pos (by omega)), zGI_t (vp_in_nI hj' (by decide)), nI_clamp (by omega), zOrd_ord j hj', hasX s (ord_lt j hj')]
    show (if b2i (tb s (ord j)) = 0 then _ else _) = _
    rw [ldv_s]
    cases ht : tb s (ord j)
    · rw [if_pos (by decide), ih n (by omega) (by omega)]; rfl
    · rw [if_neg (by decide), zGI_t (vp_in_nI hj' (by decide))]; rfl
theorem leadX (s : Int64) : fX2_leadOf s = some (ldv s 64) := leadX_l s 64 zF (by omega) (by decide)
theorem ord_n9 : ∀ j, j < 64 → ¬ nI (ord j) = -9 := by decide +kernel
theorem degX (s : Int64) : fX2_degreeOf s = some (dgv s) := by
  unfold fX2_degreeOf
  rw [leadX]
  show (if ldv s 64 = -9 then _ else _) = _
  unfold ldv dgv
  cases h : ltop s 64 with
  | none => rfl
  | some j =>
    have hj := (ltop_some h).1
    show (if nI (ord j) = -9 then _ else _) = _
    rw [if_neg (ord_n9 j hj), countI _ (ord_lt j hj)]
    rfl
def OrdOk (S : MS) : Prop := ∀ j, j < 64 → m_order S j = nI (ord j)
theorem leadM_l (s : Int64) (S : MS) (hO : OrdOk S) : ∀ (d n j : Nat), j + d = 64 → d < n → fX3_leadOf_b6L n s (ldv s j) (nI j) S = some (ldv s 64, S) := by
  intro d
  induction d with
  | zero =>
    intro n j hj hn
    obtain ⟨n, rfl⟩ : ∃ k, n = k + 1 := ⟨n - 1, by omega⟩
    show fX3_leadOf_b6 (fX3_leadOf_b6L n) _ _ _ _ = _
    unfold fX3_leadOf_b6
    have : j = 64 := by omega
    subst this
    rw [if_pos (by decide)]
  | succ d ih =>
    intro n j hj hn
    obtain ⟨n, rfl⟩ : ∃ k, n = k + 1 := ⟨n - 1, by omega⟩
    show fX3_leadOf_b6 (fX3_leadOf_b6L n) _ _ _ _ = _
    unfold fX3_leadOf_b6
    have hj' : j < 64 := by omega
    have hs := ih n (j + 1) (by omega) (by omega)
    rw [ldv_s] at hs
    rw [if_neg (nle64 hj'), zGI_t (vp_in_nI hj' (by decide)), nI_clamp (by omega), hO j hj', hasM s (ord_lt j hj')]
    show (if b2i (tb s (ord j)) = 0 then _ else _) = _
    cases ht : tb s (ord j)
    · rw [if_pos (by decide)]
      unfold fX3_leadOf_b38
      rw [nI_1]
      simpa [ht] using hs
    · rw [if_neg (by decide), zGI_t (vp_in_nI hj' (by decide))]
      unfold fX3_leadOf_b38
      rw [nI_1]
      simpa [ht] using hs
theorem leadM (s : Int64) (S : MS) (hO : OrdOk S) : fX3_leadOf s S = some (ldv s 64, S) := leadM_l s S hO 64 zF 0 (by omega) (by decide)
theorem degM (s : Int64) (S : MS) (hO : OrdOk S) : fX3_degreeOf s S = some (dgv s, S) := by
  unfold fX3_degreeOf
  rw [ifl0]
  by_cases h0 : s = 0
  · subst h0
    rw [if_pos rfl]
    unfold dgv
    rw [ltop_0]
  · rw [if_neg h0, leadM s S hO]
    rw [zB2_t rfl]
    unfold ldv dgv
    cases h : ltop s 64 with
    | none => exact absurd (ltop_zero h) h0
    | some j =>
      have hj := (ltop_some h).1
      show (zB1 (fX3_letters (nI (ord j))) _) = _
      rw [lettersM _ (ord_lt j hj)]
      rfl
