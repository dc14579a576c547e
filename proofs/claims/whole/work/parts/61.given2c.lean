theorem givM_tail (M : MS) (hO : OrdOk M) (k : Nat) (hk : k ≤ 8) : ∃ l st vec mk n pv P rs, fX3_given_b91L zF (nI k) 0 M = some (nI k, stdU (gvU M l (nI k)) (cmn l k) st vec mk (nI n) rs) ∧ (∀ j, j < k → l j = m_draft M j) ∧ StI (cmn l k) st vec mk n 64 pv P := by
  obtain ⟨l, e1, e2⟩ := givM_l M k hk k zF 0 (m_line M) (by omega) (by unfold zF; omega) (fun j hj => absurd hj (by omega))
  rw [ml_id] at e1
  obtain ⟨st, vec, mk, n, pv, P, rs, f1, f2⟩ := standsM (gvU M l (nI k)) hO k (by omega) rfl
  refine ⟨l, st, vec, mk, n, pv, P, rs, ?_, e2, f2⟩
  have e1 : fX3_given_b91L zF (nI k) 0 M = _ := e1
  rw [e1, f1]
  rfl
