/-! ===== how many bits; the lowest one ===== -/
def pcn (x : Int64) : Nat → Nat
  | 0 => 0
  | n + 1 => pcn x n + (if tb x n then 1 else 0)
def popc (x : Int64) : Nat := pcn x 64
theorem pcn_le (x : Int64) : ∀ n, pcn x n ≤ n
  | 0 => Nat.le_refl 0
  | n + 1 => by
    have := pcn_le x n
    rw [pcn]
    split <;> omega
theorem pcn_cong {x y : Int64} : ∀ n, (∀ k, k < n → tb x k = tb y k) → pcn x n = pcn y n
  | 0, _ => rfl
  | n + 1, h => by rw [pcn, pcn, pcn_cong n (fun k hk => h k (by omega)), h n (by omega)]
theorem pcn_sub {x y : Int64} : ∀ n, (∀ k, k < n → tb x k = true → tb y k = true) → pcn x n ≤ pcn y n
  | 0, _ => Nat.le_refl 0
  | n + 1, h => by
    have ih := pcn_sub n (fun k hk => h k (by omega))
    have hn := h n (by omega)
    rw [pcn, pcn]
    cases hx : tb x n <;> cases hy : tb y n
    · simp; omega
    · simp; omega
    · rw [hx, hy] at hn
      exact absurd (hn rfl) (by decide)
    · simp; omega
theorem pcn_eq {x y : Int64} : ∀ n, (∀ k, k < n → tb x k = true → tb y k = true) → pcn y n ≤ pcn x n → ∀ k, k < n → tb x k = tb y k
  | 0, _, _, k, hk => absurd hk (by omega)
  | n + 1, h, hle, k, hk => by
    have hs := pcn_sub n (fun k hk => h k (by omega))
    have hn := h n (by omega)
    rw [pcn, pcn] at hle
    have key : tb x n = tb y n ∧ pcn y n ≤ pcn x n := by
      cases hx : tb x n <;> cases hy : tb y n <;> simp [hx, hy] at hle hn ⊢ <;> omega
    rcases Nat.lt_or_ge k n with q | q
    · exact pcn_eq n (fun k hk => h k (by omega)) key.2 k q
    · have : k = n := by omega
      subst this
      exact key.1
theorem popc_eq {x y : Int64} (h : ∀ k, k < 64 → tb x k = true → tb y k = true) (hle : popc y ≤ popc x) : x = y := tb_ext (pcn_eq 64 h hle)
theorem pcn_add {x y : Int64} {p : Nat} (hx : tb x p = false) (hy : ∀ k, k < 64 → tb y k = (tb x k || decide (k = p))) : ∀ n, n ≤ 64 → pcn y n = pcn x n + (if p < n then 1 else 0)
  | 0, _ => by simp [pcn]
  | n + 1, hn => by
    rw [pcn, pcn, pcn_add hx hy n (by omega), hy n (by omega)]
    by_cases e : n = p
    · subst e
      simp [hx]
    · by_cases hl : p < n
      · have : p < n + 1 := by omega
        simp [e, hl, this]; omega
      · have : ¬ p < n + 1 := by omega
        simp [e, hl, this]
theorem tb_or_e1 (x : Int64) {p : Nat} (hp : p < 64) {k : Nat} (hk : k < 64) : tb (x ||| e1 p) k = (tb x k || decide (k = p)) := by rw [tb_or, tb_e1 p hp k hk]
theorem popc_add {x : Int64} {p : Nat} (hp : p < 64) (hx : tb x p = false) : popc (x ||| e1 p) = popc x + 1 := by
  have := pcn_add hx (fun k hk => tb_or_e1 x hp hk) 64 (by omega)
  rw [if_pos hp] at this
  exact this
theorem pcn_not (x : Int64) : ∀ n, n ≤ 64 → pcn x n + pcn (x ^^^ (-1)) n = n
  | 0, _ => rfl
  | n + 1, h => by
    have ih := pcn_not x n (by omega)
    rw [pcn, pcn, tb_not (by omega) x]
    generalize pcn (x ^^^ (-1)) n = c at ih ⊢
    cases tb x n <;> simp <;> omega
theorem popc_not (x : Int64) : popc x + popc (x ^^^ (-1)) = 64 := pcn_not x 64 (by omega)
theorem popc_le (x : Int64) : popc x ≤ 64 := pcn_le x 64
theorem popc_lt {x : Int64} {p : Nat} (hp : p < 64) (hx : tb x p = false) : popc x < 64 := by
  have h1 := popc_add hp hx
  have h2 := popc_le (x ||| e1 p)
  omega
theorem popc_0 : popc 0 = 0 := by decide +kernel
/-- the model's count -/
theorem manyM_l (x : Int64) : ∀ (d n k : Nat), k + d = 64 → d < n → fX3_many_b4L n x (nI (pcn x k)) (nI k) = some (nI (popc x)) := by
  intro d
  induction d with
  | zero =>
    intro n k hk hn
    obtain ⟨n, rfl⟩ : ∃ q, n = q + 1 := ⟨n - 1, by omega⟩
    show fX3_many_b4 (fX3_many_b4L n) _ _ _ = _
    unfold fX3_many_b4
    have : k = 64 := by omega
    subst this
    rw [if_pos (by decide)]
    rfl
  | succ d ih =>
    intro n k hk hn
    obtain ⟨n, rfl⟩ : ∃ q, n = q + 1 := ⟨n - 1, by omega⟩
    show fX3_many_b4 (fX3_many_b4L n) _ _ _ = _
    unfold fX3_many_b4
    have hk' : k < 64 := by omega
    rw [if_neg (nle64 hk'), hasM x hk']
    have hs := ih n (k + 1) (by omega) (by omega)
    rw [pcn] at hs
    show (if b2i (tb x k) = 0 then _ else _) = _
    cases ht : tb x k
    · rw [if_pos (by decide)]
      unfold fX3_many_b24
      rw [nI_1, show nI (pcn x k) + (0 : Int32) = nI (pcn x k) from nI_add _ 0]
      simpa [ht] using hs
    · rw [if_neg (by decide)]
      unfold fX3_many_b24
      rw [nI_1, nI_1]
      simpa [ht] using hs
theorem manyM (x : Int64) : fX3_many x = some (nI (popc x)) := manyM_l x 64 zF 0 (by omega) (by decide)
/-- the lowest bit alone -/
theorem tb_low (v : Int64) (k : Nat) (hk : k < 64) : tb (v &&& -v) k = true ↔ tb v k = true ∧ ∀ j, j < k → tb v j = false := by
  rw [tb_and]
  have hneg : tb (-v) k = (tb v k ^^ decide (∃ j, j < k ∧ tb v j = true)) := by
    unfold tb
    rw [Int64.toBitVec_neg, BitVec.getLsbD_neg]
    simp [hk]
  rw [hneg]
  constructor
  · intro h
    cases hv : tb v k
    · rw [hv] at h; simp at h
    · rw [hv] at h
      simp at h
      exact ⟨rfl, fun j hj => by simpa using h j hj⟩
  · rintro ⟨h1, h2⟩
    rw [h1]
    simp
    intro j hj
    rw [h2 j hj]
theorem low_ex {v : Int64} (hv : v ≠ 0) : ∃ q, q < 64 ∧ tb v q = true ∧ v &&& -v = e1 q := by
  have hex : ∃ k, k < 64 ∧ tb v k = true := by
    apply Classical.byContradiction
    intro h
    apply hv
    apply tb_ext
    intro k hk
    rw [tb_0]
    cases ht : tb v k
    · rfl
    · exact absurd ⟨k, hk, ht⟩ h
  obtain ⟨q, ⟨h1, h2⟩, h3⟩ := pk_least (fun k => k < 64 ∧ tb v k = true) hex
  have hmin : ∀ j, j < q → tb v j = false := fun j hj => by
    cases ht : tb v j
    · rfl
    · exact absurd ⟨by omega, ht⟩ (h3 j hj)
  refine ⟨q, h1, h2, tb_ext (fun k hk => ?_)⟩
  rw [tb_e1 q h1 k hk]
  by_cases e : k = q
  · subst e
    rw [(tb_low v k hk).mpr ⟨h2, hmin⟩]
    simp
  · have : ¬ tb (v &&& -v) k = true := fun h => by
      obtain ⟨a, b⟩ := (tb_low v k hk).mp h
      rcases Nat.lt_trichotomy k q with p | p | p
      · rw [hmin k p] at a; cases a
      · exact e p
      · rw [b q p] at h2; cases h2
    rw [Bool.eq_false_iff.mpr this]
    simp [e]
