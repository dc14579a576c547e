/-! ===== what the elimination tells at its end ===== -/
theorem rv_0 (cm : Int64) : rv cm 0 = 0 := by
  have := rv_xor cm 0 0
  rw [xor_self, xor_self] at this
  exact this
theorem brs_00 {vec mk : Nat → Int64} {pv : Nat → Nat} {n : Nat} (hP : Piv vec pv n) : (brs vec mk n 0).1 = 0 := by
  have := brs_xor (mk := mk) hP 0 0 n (Nat.le_refl n)
  rw [xor_self] at this
  rw [this, xor_self]
theorem StI.all {cm st : Int64} {vec mk : Nat → Int64} {n : Nat} {pv : Nat → Nat} {P : Int64} (h : StI cm st vec mk n 64 pv P) (x : Int64) : (brs vec mk n (rv cm x)).1 = 0 := by
  obtain ⟨a1, a2, a3, a4, a5, a6, a7, a8, a9, a10⟩ := h
  have key : ∀ m, m ≤ 64 → (brs vec mk n (rv cm (pto x m))).1 = 0 := by
    intro m
    induction m with
    | zero => intro _; rw [pto, rv_0]; exact brs_00 a2
    | succ m ih =>
      intro hm
      rw [pto, rv_xor, brs_xor a2 _ _ n (Nat.le_refl n)]
      show _ ^^^ _ = _
      rw [ih (by omega), xor_0']
      split
      · exact a6 m (by omega)
      · rw [rv_0]; exact brs_00 a2
  have := key 64 (Nat.le_refl 64)
  rwa [pto_eq (Nat.le_refl 64) (fun i h1 h2 => absurd h2 (by omega))] at this
theorem brs_none {vec mk : Nat → Int64} {pv : Nat → Nat} {n : Nat} (hP : Piv vec pv n) (v : Int64) : ∀ m, m ≤ n → (∀ k, k < m → tb v (pv k) = false) → brs vec mk m v = (v, 0)
  | 0, _, _ => rfl
  | m + 1, h, hk => by
    rw [brs, brs_none hP v m (by omega) (fun k hk' => hk k (by omega)), bst_piv hP (by omega)]
    show (if tb v (pv m) = true then _ else _) = _
    rw [hk m (by omega)]
    rfl
theorem StI.P_eq {cm st : Int64} {vec mk : Nat → Int64} {n : Nat} {pv : Nat → Nat} {P : Int64} (h : StI cm st vec mk n 64 pv P) : P = cm := by
  have hall := h.all
  obtain ⟨a1, a2, a3, a4, a5, a6, a7, a8, a9, a10⟩ := h
  apply tb_ext
  intro w hw
  cases hp : tb P w
  · cases hc : tb cm w
    · rfl
    · exfalso
      have hx : rv cm (vals (e1 w)) = e1 w := by
        unfold rv
        rw [vals_vals]
        apply tb_ext
        intro k hk
        rw [tb_and, tb_e1 w hw k hk]
        by_cases e : k = w
        · subst e; rw [hc]; simp
        · simp [e]
      have h1 := hall (vals (e1 w))
      rw [hx, brs_none a2 (e1 w) n (Nat.le_refl n) (fun k hk => by
        rw [tb_e1 w hw _ (a2 k hk).1]
        by_cases e : pv k = w
        · have := (a10 w hw).mpr ⟨k, hk, e⟩
          rw [hp] at this
          cases this
        · simp [e])] at h1
      have h1 : e1 w = 0 := h1
      have h2 := tb_e1 w hw w hw
      rw [h1, tb_0] at h2
      simp at h2
  · obtain ⟨k, hk, e⟩ := (a10 w hw).mp hp
    have h3 := (a2 k hk).2.2.1
    rw [← a3 k hk, e] at h3
    unfold rv at h3
    rw [tb_and] at h3
    cases hc : tb cm w
    · rw [hc] at h3; simp at h3
    · rfl
theorem StI.pop {cm st : Int64} {vec mk : Nat → Int64} {n : Nat} {pv : Nat → Nat} {P : Int64} (h : StI cm st vec mk n 64 pv P) : popc st = popc cm := by
  rw [← h.P_eq, h.2.2.2.2.2.2.2.1, h.2.2.2.2.2.2.2.2.1]
theorem StI.left {cm st : Int64} {vec mk : Nat → Int64} {n : Nat} {pv : Nat → Nat} {P : Int64} (h : StI cm st vec mk n 64 pv P) (x : Int64) : rv cm (brs vec mk n (rv cm x)).2 = rv cm x ∧ ∀ p, p < 64 → tb (brs vec mk n (rv cm x)).2 p = true → tb st p = true := by
  have hall := h.all x
  obtain ⟨a1, a2, a3, a4, a5, a6, a7, a8, a9, a10⟩ := h
  have hs := brs_sum (vec := vec) (mk := mk) (rv cm) (rv_xor cm) (rv cm x) n a3
  rw [hall, xor_0'] at hs
  exact ⟨hs, brs_supp n a4⟩
theorem StI.li {cm st : Int64} {vec mk : Nat → Int64} {n : Nat} {pv : Nat → Nat} {P : Int64} (h : StI cm st vec mk n 64 pv P) : ∀ i, i < 64 → (tb st (ord i) = true ↔ ¬ LI cm i) := h.2.2.2.2.2.2.1
/-- two sums without leads of sums that follow, of the same values: one -/
theorem left_one {cm a b : Int64} (h : rv cm a = rv cm b) (ha : ∀ i, i < 64 → tb a (ord i) = true → ¬ LI cm i) (hb : ∀ i, i < 64 → tb b (ord i) = true → ¬ LI cm i) : a = b := by
  apply xor_eq0
  cases hl : ltop (a ^^^ b) 64 with
  | none => exact ltop_zero hl
  | some j =>
    exfalso
    obtain ⟨h1, h2, -⟩ := ltop_some hl
    have hLI : LI cm j := ⟨a ^^^ b, by rw [rv_xor, h, xor_self], hl⟩
    rw [tb_xor] at h2
    cases hA : tb a (ord j)
    · rw [hA] at h2
      exact hb j h1 (by simpa using h2) hLI
    · exact ha j h1 hA hLI
/-- the model's left, behind stands() -/
theorem leftM (S : MS) {cm st : Int64} {vec mk : Nat → Int64} {n : Nat} {pv : Nat → Nat} {P rs : Int64} (h : StI cm st vec mk n 64 pv P) (x : Int64) : fX3_leftOf x (stdU S cm st vec mk (nI n) rs) = some ((brs vec mk n (rv cm x)).2, stdU S cm st vec mk (nI n) (brs vec mk n (rv cm x)).2) := by
  unfold fX3_leftOf
  have hb := bearsM (stdU S cm st vec mk (nI n) rs) n h.1 (sd_vectors _ _ _ _ _ _ _) (rv cm x)
  rw [sd_vector, sd_made0, su_rests] at hb
  unfold rv at hb ⊢
  rw [valsM, zB1_t rfl, sd_common, hb, zB2_t rfl, sd_rests]
