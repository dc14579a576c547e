/-! ===== the class's Span: a row more ===== -/
def kpS (S : SS) (n p : Nat) (y : Int64) (d : Nat) : SS := (vp_updL (s_rows S) p y, upd (s_levels S) p (nI d), upd (s_came S) n (nI p), s_leads S ||| e1 p, nI (n + 1))
theorem keepX (S : SS) {n p : Nat} (hn : n < 64) (hp : p < 64) (hs : s_size S = nI n) (y : Int64) (d : Nat) : fX0_keep (nI p) y (nI d) S = some (kpS S n p y d) := by
  obtain ⟨rows, levels, came, leads, size⟩ := S
  have hs : size = nI n := hs
  subst hs
  have hc : (nI p).toNatClampNeg = p := nI_clamp (by omega)
  have hcn : (nI n).toNatClampNeg = n := nI_clamp (by omega)
  unfold fX0_keep
  rw [if_neg (show ¬ (64 : Int32) ≤ s_size (rows, levels, came, leads, nI n) from nle64 hn)]
  simp only [zL_t]
  rw [zGI_t (vp_in_nI hp (by decide)), zGI_t (vp_in_nI hp (by decide))]
  show zGI (nI n) 64 _ = _
  rw [zGI_t (vp_in_nI hn (by decide)), hc]
  show some (vp_updL rows p y, upd levels p (nI d), upd came (nI n).toNatClampNeg (nI p), leads ||| ((1 : Int64) <<< ((nI p).toInt64 &&& 63)), nI n + 1) = _
  rw [hcn, e1_shl p hp, nI_1]
  rfl
def SpOk (S : SS) (n : Nat) (L c : Nat → Nat) : Prop := Ech (ldX S) (s_rows S) ∧ s_size S = nI n ∧ popc (s_leads S) = n ∧ (∀ p, p < 64 → ldX S p = true → s_levels S p = nI (L p) ∧ L p ≤ 12) ∧ (∀ k, k < n → c k < 64 ∧ s_came S k = nI (c k) ∧ ldX S (c k) = true) ∧ ∀ p, p < 64 → ldX S p = true → ∃ k, k < n ∧ c k = p
