/-! ===== the model's vectors: what bears() does ===== -/
def bst (vec mk : Nat → Int64) (k : Nat) (q : Int64 × Int64) : Int64 × Int64 := if q.1 &&& (vec k &&& -vec k) = 0 then q else (q.1 ^^^ vec k, q.2 ^^^ mk k)
def brs (vec mk : Nat → Int64) : Nat → Int64 → Int64 × Int64
  | 0, v => (v, 0)
  | n + 1, v => bst vec mk n (brs vec mk n v)
theorem bearsM_l (S : MS) (n : Nat) (hn : n ≤ 64) (hv : m_vectors S = nI n) (v : Int64) : ∀ (d m k : Nat), k + d = n → d < m → fX3_bears_b10L m (brs (m_vector S) (m_made0 S) k v).1 (nI k) (m_rests_u S (brs (m_vector S) (m_made0 S) k v).2) = some ((brs (m_vector S) (m_made0 S) n v).1, m_rests_u S (brs (m_vector S) (m_made0 S) n v).2) := by
  intro d
  induction d with
  | zero =>
    intro m k hk hm
    obtain ⟨m, rfl⟩ : ∃ q, m = q + 1 := ⟨m - 1, by omega⟩
    show fX3_bears_b10 (fX3_bears_b10L m) _ _ _ = _
    unfold fX3_bears_b10
    have : k = n := by omega
    subst this
    rw [if_pos (show m_vectors (m_rests_u S (brs (m_vector S) (m_made0 S) k v).2) ≤ nI k from (show m_vectors S ≤ nI k by rw [hv]; exact nI_le (Nat.le_refl k) (by omega)))]
  | succ d ih =>
    intro m k hk hm
    obtain ⟨m, rfl⟩ : ∃ q, m = q + 1 := ⟨m - 1, by omega⟩
    show fX3_bears_b10 (fX3_bears_b10L m) _ _ _ = _
    unfold fX3_bears_b10
    have hk' : k < 64 := by omega
    have hs := ih m (k + 1) (by omega) (by omega)
    rw [brs] at hs
    generalize brs (m_vector S) (m_made0 S) k v = q at hs ⊢
    rw [if_neg (show ¬ m_vectors (m_rests_u S q.2) ≤ nI k from (show ¬ m_vectors S ≤ nI k by rw [hv]; exact nI_ge (by omega) (by omega))), zGI_t (vp_in_nI hk' (by decide)), zGI_t (vp_in_nI hk' (by decide)), zL_t, ifl0, nI_clamp (by omega)]
    unfold bst at hs
    by_cases h0 : q.1 &&& (m_vector S k &&& -m_vector S k) = 0
    · rw [if_pos h0] at hs
      rw [if_pos (show q.1 &&& (m_vector (m_rests_u S q.2) k &&& -m_vector (m_rests_u S q.2) k) = 0 from h0)]
      unfold fX3_bears_b72
      rw [nI_1]
      exact hs
    · rw [if_neg h0] at hs
      rw [if_neg (show ¬ q.1 &&& (m_vector (m_rests_u S q.2) k &&& -m_vector (m_rests_u S q.2) k) = 0 from h0), zGI_t (vp_in_nI hk' (by decide)), zGI_t (vp_in_nI hk' (by decide)), zL_t]
      unfold fX3_bears_b72
      rw [nI_1]
      exact hs
theorem bearsM (S : MS) (n : Nat) (hn : n ≤ 64) (hv : m_vectors S = nI n) (v : Int64) : fX3_bears v S = some ((brs (m_vector S) (m_made0 S) n v).1, m_rests_u S (brs (m_vector S) (m_made0 S) n v).2) := by
  unfold fX3_bears
  rw [zL_t]
  exact bearsM_l S n hn hv v n zF 0 (by omega) (by have : n ≤ 64 := hn; unfold zF; omega)
/-! vectors whose lowest bits are places of their own -/
def Piv (vec : Nat → Int64) (pv : Nat → Nat) (n : Nat) : Prop := ∀ k, k < n → pv k < 64 ∧ vec k &&& -vec k = e1 (pv k) ∧ tb (vec k) (pv k) = true ∧ ∀ j, j < k → tb (vec k) (pv j) = false
theorem and_e1 (x : Int64) {p : Nat} (hp : p < 64) : x &&& e1 p = 0 ↔ tb x p = false := by
  constructor
  · intro h
    have : tb (x &&& e1 p) p = false := by rw [h, tb_0]
    rw [tb_and, tb_e1 p hp p hp] at this
    simpa using this
  · intro h
    apply tb_ext
    intro k hk
    rw [tb_and, tb_e1 p hp k hk, tb_0]
    by_cases e : k = p
    · subst e; rw [h]; rfl
    · simp [e]
theorem bst_piv {vec mk : Nat → Int64} {pv : Nat → Nat} {n : Nat} (hP : Piv vec pv n) {k : Nat} (hk : k < n) (q : Int64 × Int64) : bst vec mk k q = if tb q.1 (pv k) then (q.1 ^^^ vec k, q.2 ^^^ mk k) else q := by
  obtain ⟨h1, h2, h3, h4⟩ := hP k hk
  unfold bst
  rw [h2]
  cases ht : tb q.1 (pv k)
  · rw [if_pos ((and_e1 q.1 h1).mpr ht)]; rfl
  · rw [if_neg (fun h => by rw [(and_e1 q.1 h1).mp h] at ht; cases ht)]; rfl
theorem brs_xor {vec mk : Nat → Int64} {pv : Nat → Nat} {n : Nat} (hP : Piv vec pv n) (x y : Int64) : ∀ m, m ≤ n → brs vec mk m (x ^^^ y) = ((brs vec mk m x).1 ^^^ (brs vec mk m y).1, (brs vec mk m x).2 ^^^ (brs vec mk m y).2)
  | 0, _ => by simp [brs, xor_self]
  | m + 1, h => by
    rw [brs, brs, brs, brs_xor hP x y m (by omega), bst_piv hP (by omega), bst_piv hP (by omega), bst_piv hP (by omega)]
    generalize brs vec mk m x = a
    generalize brs vec mk m y = b
    show (if tb (a.1 ^^^ b.1) (pv m) = true then _ else _) = _
    rw [tb_xor]
    have e1 : ∀ u v w : Int64, u ^^^ v ^^^ w = (u ^^^ w) ^^^ v := fun u v w => by rw [xor_a, xor_c v, ← xor_a]
    cases ha : tb a.1 (pv m) <;> cases hb : tb b.1 (pv m) <;> simp only [Bool.xor_false, Bool.xor_true, Bool.not_true, Bool.not_false, if_true, if_false, Bool.false_eq_true]
    · rw [xor_a, xor_a]
    · exact Prod.ext (e1 _ _ _) (e1 _ _ _)
    · have c1 : ∀ u v w : Int64, u ^^^ v = (u ^^^ w) ^^^ (v ^^^ w) := fun u v w => by rw [xor_a u w, xor_c w, xor_a v, xor_self, xor_0]
      exact Prod.ext (c1 _ _ _) (c1 _ _ _)
theorem brs_sum {vec mk : Nat → Int64} (f : Int64 → Int64) (hf : ∀ a b, f (a ^^^ b) = f a ^^^ f b) (v : Int64) : ∀ n, (∀ k, k < n → f (mk k) = vec k) → (brs vec mk n v).1 ^^^ f (brs vec mk n v).2 = v
  | 0, _ => by
    have f0 : f 0 = 0 := by have := hf 0 0; rw [xor_self] at this; rw [this, xor_self]
    show v ^^^ f 0 = v
    rw [f0, xor_0]
  | n + 1, h => by
    have ih := brs_sum f hf v n (fun k hk => h k (by omega))
    rw [brs]
    unfold bst
    split
    · exact ih
    · show (brs vec mk n v).1 ^^^ vec n ^^^ f ((brs vec mk n v).2 ^^^ mk n) = v
      rw [hf, h n (by omega), xor_a, ← xor_a (vec n), xor_c (vec n), xor_a (f _), xor_self, xor_0]
      exact ih
theorem brs_self {vec mk : Nat → Int64} {pv : Nat → Nat} {n : Nat} (hP : Piv vec pv n) {k : Nat} (hk : k < n) : ∀ m, m ≤ n → (m ≤ k → (brs vec mk m (vec k)).1 = vec k) ∧ (k < m → (brs vec mk m (vec k)).1 = 0)
  | 0, _ => ⟨fun _ => rfl, fun h => absurd h (by omega)⟩
  | m + 1, h => by
    have ih := brs_self (mk := mk) hP hk m (by omega)
    rw [brs, bst_piv hP (by omega)]
    constructor
    · intro hm
      have e := ih.1 (by omega)
      rw [e, (hP k hk).2.2.2 m (by omega)]
      exact e
    · intro hm
      rcases Nat.lt_or_ge k m with q | q
      · have e := ih.2 q
        rw [e, tb_0]
        exact e
      · have : m = k := by omega
        subst this
        have e := ih.1 (Nat.le_refl m)
        rw [e, (hP m hk).2.2.1]
        rw [if_pos rfl]
        exact xor_self _
theorem brs_low {vec mk : Nat → Int64} {pv : Nat → Nat} {n : Nat} (hP : Piv vec pv n) (v : Int64) : ∀ m, m ≤ n → ∀ j, j < m → tb (brs vec mk m v).1 (pv j) = false
  | 0, _, j, hj => absurd hj (by omega)
  | m + 1, h, j, hj => by
    have ih := brs_low (mk := mk) hP v m (by omega)
    rw [brs, bst_piv hP (by omega)]
    generalize brs vec mk m v = q at ih ⊢
    obtain ⟨h1, h2, h3, h4⟩ := hP m (by omega)
    cases ht : tb q.1 (pv m)
    · show tb q.1 (pv j) = false
      rcases Nat.lt_or_ge j m with p | p
      · exact ih j p
      · have : j = m := by omega
        subst this
        exact ht
    · show tb (q.1 ^^^ vec m) (pv j) = false
      rw [tb_xor]
      rcases Nat.lt_or_ge j m with p | p
      · rw [ih j p, h4 j p]; rfl
      · have : j = m := by omega
        subst this
        rw [ht, h3]; rfl
