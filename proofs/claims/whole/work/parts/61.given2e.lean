theorem ok_given {X : XS} {M : MS} (h : Rel X M) : Ok2 (fX2_given X) (fX3_given M) := by
  have h1 := h.thrown
  unfold fX2_given fX3_given
  rw [zL_t]
  generalize m_thrown_u M 0 = M1 at h1 ⊢
  obtain ⟨T, G, N, hT, hL, hS, hF, hO⟩ := id h1
  have h4 := hT.1
  rcases readG0 hT with ⟨k, t', M', c1, c2, c3, c4, c5, c6, c7⟩ | ⟨s', t', M', c1, c2, c3, c4, c5⟩
  · obtain ⟨ls, lv, d1, d2⟩ := givX_tail X t' k c1 c4
    have hO' : OrdOk M' := by
      unfold OrdOk
      rw [c3.1]
      exact hO.1
    obtain ⟨l, st, vec, mk, n, pv, P, rs, e1, e2, e3⟩ := givM_tail M' hO' k c1
    have q2 : ∀ i, i < k → t_sums t' i = l i := fun i hi => (c5 i hi).trans (e2 i hi).symm
    rw [c6, zB2_t rfl, d1, c7, e1]
    refine ⟨nI k, _, _, rfl, rfl, rel_given c1 hO' ?_ ?_ (cmn_cong k q2) (fun i hi => ?_) e3⟩
    · rw [c3.2.2.2.2.2.2.2.2.2.2.2.2.2.2]
      exact hO.2.2.2.2.1
    · rw [c3.2.2.2.2.2.2.2.2.1]
      exact hO.2.2.2.2.2
    · have := d2 i (by omega)
      rw [q2 i (by omega)] at this
      exact this
  · rw [c4, zB2_t rfl, zL_t, if_neg (nm1 (by omega)), c5]
    exact ⟨-10 - nI s', x_text_u X t', M', rfl, rfl, h1.reread c2 c3⟩
