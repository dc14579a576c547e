/-- both texts read from their beginning -/
theorem readG0 {X : XS} {M : MS} {T : Nat} (hT : TxR X M T) : (∃ k t' M', k ≤ 8 ∧ SameT (x_text X) t' ∧ SameM M M' ∧ t_told t' = nI k ∧ (∀ j, j < k → t_sums t' j = m_draft M' j) ∧ fX1_readGiven (x_text X) = some (-1, t') ∧ zB1 (fX3_begins M) (fun S_8 => fX3_given_b11L zF (0 : Int32) S_8) = fX3_given_b91L zF (nI k) 0 M') ∨
    (∃ s' t' M', s' ≤ T ∧ SameT (x_text X) t' ∧ SameM M M' ∧ fX1_readGiven (x_text X) = some (nI s', t') ∧ zB1 (fX3_begins M) (fun S_8 => fX3_given_b11L zF (0 : Int32) S_8) = some (-10 - nI s', M')) := by
  have hB := TB.of hT
  generalize (fun k => (t_bytes (x_text X) k).toNatClampNeg) = B at hB
  have hB1 : TB (t_told_u (x_text X) 0) (m_fault_u M (-1)) T B := hB
  obtain ⟨q, s, tok, mean, tok', va, a1, a2, a3, a4, a5, a6, a7⟩ := nextR hB1 (q := 0) (Nat.zero_le T) (t_start (x_text X)) (t_token (x_text X)) (t_meaning (x_text X)) (m_token M) (m_place M) (m_value M)
  have hX : fX1_readGiven (x_text X) = fX1_readGiven_b4L zF (pX (t_told_u (x_text X) 0) (nI q) (nI s) tok mean) := by
    unfold fX1_readGiven
    rw [begX, a6, zB1_t rfl]
  have hM : zB1 (fX3_begins M) (fun S_8 => fX3_given_b11L zF (0 : Int32) S_8) = fX3_given_b11L zF (nI 0) (pM (m_fault_u M (-1)) (nI q) tok' (nI s) va) := by
    rw [begM, a7, zB1_t rfl]
    rfl
  rw [hX, hM]
  rcases readG 8 zF zF 0 q s (t_told_u (x_text X) 0) (m_fault_u M (-1)) tok mean tok' va (by omega) (by decide) (by decide) hB1 rfl rfl (fun j hj => absurd hj (by omega)) a1 a2 (fun h => by have := a4 h; omega) a5 with ⟨k, t', M', c1, c2, c3, c4, c5, c6, c7⟩ | ⟨s', t', M', c1, c2, c3, c4, c5⟩
  · exact Or.inl ⟨k, t', M', c1, c2, (same_fault M (-1)).tr c3, c4, c5, c6, c7⟩
  · exact Or.inr ⟨s', t', M', c1, c2, (same_fault M (-1)).tr c3, c4, c5⟩
