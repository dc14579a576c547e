/-! ===== the calls that read no text ===== -/
theorem i10 {α : Type} (a b : α) : (if (1 : Int32) = 0 then a else b) = b := if_neg (by decide)
theorem i00 {α : Type} (a b : α) : (if (0 : Int32) = 0 then a else b) = a := if_pos rfl
def Ok2 {α : Type} (cx : Option (α × XS)) (cm : Option (α × MS)) : Prop := ∃ r X' M', cx = some (r, X') ∧ cm = some (r, M') ∧ Rel X' M'
theorem ok_wrong {X : XS} {M : MS} (h : Rel X M) : Ok2 (fX2_wrong X) (fX3_wrong M) := by
  have h1 := h.thrown
  obtain ⟨T, G, N, hT, hL, hS, hF, hO⟩ := id h1
  exact ⟨x_wrongStep X, X, m_thrown_u M 0, rfl, by unfold fX3_wrong; rw [zL_t, hO.2.2.1], h1⟩
theorem ok_common {X : XS} {M : MS} (h : Rel X M) : Ok2 (fX2_common X) (fX3_common M) := by
  have h1 := h.thrown
  obtain ⟨T, G, N, hT, hL, hS, hF, hO⟩ := id h1
  exact ⟨x_commonWorlds X, X, m_thrown_u M 0, rfl, by unfold fX3_common; rw [zL_t, hO.2.2.2.1, hS.1], h1⟩
theorem ok_trace {X : XS} {M : MS} (h : Rel X M) : Ok2 (fX2_trace X) (fX3_trace M) := by
  have h1 := h.thrown
  obtain ⟨T, G, N, hT, hL, hS, hF, hO⟩ := id h1
  exact ⟨x_traced X, X, m_thrown_u M 0, rfl, by unfold fX3_trace; rw [zL_t, hO.2.2.2.2.1], h1⟩
theorem ok_line {X : XS} {M : MS} (h : Rel X M) (a : Int32) : Ok2 (fX2_line a X) (fX3_line a M) := by
  have h1 := h.thrown
  unfold fX2_line fX3_line
  rw [zL_t]
  generalize m_thrown_u M 0 = M1 at h1 ⊢
  obtain ⟨T, G, N, hT, hL, hS, hF, hO⟩ := id h1
  have h8 := hL.1
  have h24 := hL.2.1
  rcases isL hL a with ⟨i, hi, rfl, e1, e2⟩ | ⟨e1, e2⟩
  · refine ⟨m_line M1 i, X, M1, ?_, ?_, h1⟩
    · rw [sumX hL hi]; rfl
    · rw [e2, zB2_t rfl, i10, zGI_t (vp_in_nI (show i < 32 by omega) (by decide)), nI_clamp (by omega)]
  · refine ⟨0, X, M1, ?_, ?_, h1⟩
    · unfold fX2_sumOf
      rw [e1]; rfl
    · rw [e2]; rfl
/-- a number asked to be below another -/
theorem below (a : Int32) (n : Nat) (hn : n < 2 ^ 31) (h0 : 0 < n) : (∃ j, j < n ∧ a = nI j) ∨ (a < 0) ∨ (¬ a < 0 ∧ nI n ≤ a ∧ nI (n - 1) < a) := by
  rcases pk_ix a hn with q | q | q
  · exact Or.inr (Or.inl q)
  · refine Or.inr (Or.inr ⟨fun z => absurd (Int32.lt_of_le_of_lt q z) (nI_pos hn), q, Int32.lt_of_lt_of_le (nI_lt (by omega) hn) q⟩)
  · exact Or.inl q
theorem in_no {a : Int32} {n : Nat} (h : (a < 0) ∨ (¬ a < 0 ∧ nI n ≤ a ∧ nI (n - 1) < a)) : fX3_in a 0 (nI (n - 1)) = some 0 := by
  unfold fX3_in
  rcases h with h | ⟨h1, -, h2⟩
  · rw [if_pos h]
  · rw [if_neg h1, if_pos h2]
theorem in_yes {n j : Nat} (hn : n < 2 ^ 31) (h : j < n) : fX3_in (nI j) 0 (nI (n - 1)) = some 1 := by
  unfold fX3_in
  rw [if_neg (nI_pos (by omega)), if_neg (nI_nlt (by omega) (by omega))]
theorem ok_value {X : XS} {M : MS} (h : Rel X M) (a w : Int32) : Ok2 (fX2_value a w X) (fX3_value a w M) := by
  have h1 := h.thrown
  unfold fX2_value fX3_value
  rw [zL_t]
  generalize m_thrown_u M 0 = M1 at h1 ⊢
  obtain ⟨T, G, N, hT, hL, hS, hF, hO⟩ := id h1
  have h8 := hL.1
  have h24 := hL.2.1
  rcases isL hL a with ⟨i, hi, rfl, e1, e2⟩ | ⟨e1, e2⟩
  · rw [e1, e2, zB2_t rfl, zB2_t rfl, i10, i10]
    rcases below w 64 (by decide) (by decide) with ⟨j, hj, rfl⟩ | hw
    · have hin : fX3_in (nI j) 0 63 = some 1 := in_yes (n := 64) (by decide) hj
      rw [hin, if_neg (nI_pos (show j < 2 ^ 31 by omega)), if_pos (show nI j < (64 : Int32) from nI_lt hj (by decide)), zGI_t (vp_in_nI (show i < 32 by omega) (by decide)), nI_clamp (by omega), (hL.2.2.2.2.2.2 i hi).2, hasX _ hj, zB1_t rfl, zB1_t rfl, i10, zGI_t (vp_in_nI (show i < 32 by omega) (by decide)), valsM, zB1_t rfl, hasM _ hj, zB1_t rfl]
      cases tb (vals (m_line M1 i)) j
      · exact ⟨0, X, M1, rfl, rfl, h1⟩
      · exact ⟨1, X, M1, rfl, rfl, h1⟩
    · have hin : fX3_in w 0 63 = some 0 := in_no (n := 64) hw
      rw [hin, zB1_t rfl, i00]
      refine ⟨-1, X, M1, ?_, rfl, h1⟩
      rcases hw with hw | ⟨hw, hw2, -⟩
      · rw [if_pos hw]
      · rw [if_neg hw, if_neg (show ¬ w < (64 : Int32) from fun z => absurd (Int32.lt_of_lt_of_le z hw2) Int32.lt_irrefl)]
  · rw [e1, e2]
    exact ⟨-1, X, M1, rfl, rfl, h1⟩
theorem ok_lead {X : XS} {M : MS} (h : Rel X M) (a w : Int32) : Ok2 (fX2_lead a w X) (fX3_lead a w M) := by
  have h1 := h.thrown
  unfold fX2_lead fX3_lead
  rw [zL_t]
  generalize m_thrown_u M 0 = M1 at h1 ⊢
  obtain ⟨T, G, N, hT, hL, hS, hF, hO⟩ := id h1
  have h8 := hL.1
  have h24 := hL.2.1
  rcases isL hL a with ⟨i, hi, rfl, e1, e2⟩ | ⟨e1, e2⟩
  · rw [e1, e2, zB2_t rfl, zB2_t rfl, i10, i10]
    rcases below w 2 (by decide) (by decide) with ⟨j, hj, rfl⟩ | hw
    · have hin : fX3_in (nI j) 0 1 = some 1 := in_yes (n := 2) (by decide) hj
      rw [hin, if_neg (nI_pos (show j < 2 ^ 31 by omega)), if_pos (show nI j ≤ (1 : Int32) from nI_le (show j ≤ 1 by omega) (by decide)), zGI_t (vp_in_nI (show i < 32 by omega) (by decide)), nI_clamp (by omega), (hL.2.2.2.2.2.2 i hi).1, degX, zB1_t rfl, zGI_t (vp_in_nI (show i < 32 by omega) (by decide)), leadX, zB1_t rfl, zB1_t rfl, i10, zGI_t (vp_in_nI (show i < 32 by omega) (by decide)), degM _ _ hO.1, zB2_t rfl, zGI_t (vp_in_nI (show i < 32 by omega) (by decide)), leadM _ _ hO.1, zB2_t rfl]
      by_cases h0 : nI j = 0
      · rw [if_pos h0, if_pos h0]
        exact ⟨_, X, M1, rfl, rfl, h1⟩
      · rw [if_neg h0, if_neg h0]
        exact ⟨_, X, M1, rfl, rfl, h1⟩
    · have hin : fX3_in w 0 1 = some 0 := in_no (n := 2) hw
      rw [hin, zB1_t rfl, i00]
      refine ⟨-1, X, M1, ?_, rfl, h1⟩
      rcases hw with hw | ⟨hw, hw2, hw3⟩
      · rw [if_pos hw]
      · rw [if_neg hw, if_neg (show ¬ w ≤ (1 : Int32) from fun z => absurd (Int32.lt_of_lt_of_le hw3 z) Int32.lt_irrefl)]
  · rw [e1, e2]
    exact ⟨-1, X, M1, rfl, rfl, h1⟩
theorem ok_both {X : XS} {M : MS} (h : Rel X M) (a b w : Int32) : Ok2 (fX2_both a b w X) (fX3_both a b w M) := by
  have h1 := h.thrown
  unfold fX2_both fX3_both
  rw [zL_t]
  generalize m_thrown_u M 0 = M1 at h1 ⊢
  obtain ⟨T, G, N, hT, hL, hS, hF, hO⟩ := id h1
  have h8 := hL.1
  have h24 := hL.2.1
  rcases isL hL a with ⟨i, hi, rfl, e1, e2⟩ | ⟨e1, e2⟩
  · rw [e1, e2, zB2_t rfl, zB2_t rfl, i10, i10]
    rcases isL hL b with ⟨k, hk, rfl, f1, f2⟩ | ⟨f1, f2⟩
    · rw [f1, f2, zB2_t rfl, zB2_t rfl, i10, i10]
      rcases below w 2 (by decide) (by decide) with ⟨j, hj, rfl⟩ | hw
      · have hin : fX3_in (nI j) 0 1 = some 1 := in_yes (n := 2) (by decide) hj
        have gi : ∀ {α : Type} (o : Option α), zGI (nI i) 32 o = o := fun o => zGI_t (vp_in_nI (show i < 32 by omega) (by decide))
        have gk : ∀ {α : Type} (o : Option α), zGI (nI k) 32 o = o := fun o => zGI_t (vp_in_nI (show k < 32 by omega) (by decide))
        simp only [gi, gk]
        rw [hin, if_neg (nI_pos (show j < 2 ^ 31 by omega)), if_pos (show nI j ≤ (1 : Int32) from nI_le (show j ≤ 1 by omega) (by decide)), nI_clamp (by omega), nI_clamp (by omega), (hL.2.2.2.2.2.2 i hi).1, (hL.2.2.2.2.2.2 k hk).1, mulX, zB1_t rfl, zB1_t rfl, i10, multM, zB1_t rfl]
        by_cases h0 : nI j = 0
        · rw [if_pos h0, if_pos h0]
          exact ⟨_, X, M1, rfl, rfl, h1⟩
        · rw [if_neg h0, if_neg h0]
          exact ⟨_, X, M1, rfl, rfl, h1⟩
      · have hin : fX3_in w 0 1 = some 0 := in_no (n := 2) hw
        rw [hin, zB1_t rfl, i00]
        refine ⟨0, X, M1, ?_, rfl, h1⟩
        rcases hw with hw | ⟨hw, hw2, hw3⟩
        · rw [if_pos hw]
        · rw [if_neg hw, if_neg (show ¬ w ≤ (1 : Int32) from fun z => absurd (Int32.lt_of_lt_of_le hw3 z) Int32.lt_irrefl)]
    · rw [f1, f2]
      exact ⟨0, X, M1, rfl, rfl, h1⟩
  · rw [e1, e2]
    exact ⟨0, X, M1, rfl, rfl, h1⟩
theorem ok_with {X : XS} {M : MS} (h : Rel X M) (a l v : Int32) : Ok2 (fX2_with a l v X) (fX3_with a l v M) := by
  have h1 := h.thrown
  unfold fX2_with fX3_with
  rw [zL_t]
  generalize m_thrown_u M 0 = M1 at h1 ⊢
  obtain ⟨T, G, N, hT, hL, hS, hF, hO⟩ := id h1
  have h8 := hL.1
  have h24 := hL.2.1
  rcases isL hL a with ⟨i, hi, rfl, e1, e2⟩ | ⟨e1, e2⟩
  · rw [e1, e2, zB2_t rfl, zB2_t rfl, i10, i10]
    rcases below l 6 (by decide) (by decide) with ⟨q, hq, rfl⟩ | hw
    · have hin : fX3_in (nI q) 0 5 = some 1 := in_yes (n := 6) (by decide) hq
      rw [hin, zB1_t rfl, i10, if_neg (nI_pos (show q < 2 ^ 31 by omega)), if_neg (nle6 hq)]
      rcases below v 2 (by decide) (by decide) with ⟨j, hj, rfl⟩ | hw
      · have hin : fX3_in (nI j) 0 1 = some 1 := in_yes (n := 2) (by decide) hj
        have gi : ∀ {α : Type} (o : Option α), zGI (nI i) 32 o = o := fun o => zGI_t (vp_in_nI (show i < 32 by omega) (by decide))
        have gk : ∀ {α : Type} (o : Option α), zGI (nI q) 6 o = o := fun o => zGI_t (vp_in_nI hq (by decide))
        simp only [gi, gk, zL_t]
        have hM : fX3_with_b39L zF (nI i) (nI q) (nI j) 0 0 M1 = some (wth q j (m_line M1 i), M1) := by
          have := withM_l M1 i q j (by omega) hq (by omega) 64 zF 0 (by omega) (by decide)
          rw [wsm_ok q j hq (by omega) (m_line M1 i) 64 (Nat.le_refl 64), pt_64] at this
          exact this
        rw [hin, if_neg (nI_pos (show j < 2 ^ 31 by omega)), if_pos (show nI j ≤ (1 : Int32) from nI_le (show j ≤ 1 by omega) (by decide)), nI_clamp (by omega), nI_clamp (by omega), (hL.2.2.2.2.2.2 i hi).1, zB1_t rfl, i10, hM, sh6 q hq]
        have hj2 : j = 0 ∨ j = 1 := by omega
        refine ⟨_, X, M1, ?_, rfl, h1⟩
        rcases hj2 with rfl | rfl
        · rw [if_pos (by decide)]
          unfold wth
          rw [if_neg (by decide), xor_0]
        · rw [if_neg (by decide)]
          rfl
      · have hin : fX3_in v 0 1 = some 0 := in_no (n := 2) hw
        rw [hin, zB1_t rfl, i00]
        refine ⟨0, X, M1, ?_, rfl, h1⟩
        rcases hw with hw | ⟨hw, hw2, hw3⟩
        · rw [if_pos hw]
        · rw [if_neg hw, if_neg (show ¬ v ≤ (1 : Int32) from fun z => absurd (Int32.lt_of_lt_of_le hw3 z) Int32.lt_irrefl)]
    · have hin : fX3_in l 0 5 = some 0 := in_no (n := 6) hw
      rw [hin, zB1_t rfl, i00]
      refine ⟨0, X, M1, ?_, rfl, h1⟩
      rcases hw with hw | ⟨hw, hw2, hw3⟩
      · rw [if_pos hw]
      · rw [if_neg hw, if_pos (show (6 : Int32) ≤ l from hw2)]
  · rw [e1, e2]
    exact ⟨0, X, M1, rfl, rfl, h1⟩
theorem ok_follows {X : XS} {M : MS} (h : Rel X M) (a : Int32) : Ok2 (fX2_follows a X) (fX3_follows a M) := by
  have h1 := h.thrown
  unfold fX2_follows fX3_follows fX3_isFollowing
  rw [zL_t]
  generalize m_thrown_u M 0 = M1 at h1 ⊢
  obtain ⟨T, G, N, hT, hL, hS, hF, hO⟩ := id h1
  have h8 := hL.1
  have h24 := hL.2.1
  rcases isL hL a with ⟨i, hi, rfl, e1, e2⟩ | ⟨e1, e2⟩
  · rw [e1, e2, zB2_t rfl, zB2_t rfl, i10, i10, zGI_t (vp_in_nI (show i < 32 by omega) (by decide)), zGI_t (vp_in_nI (show i < 32 by omega) (by decide)), nI_clamp (by omega), (hL.2.2.2.2.2.2 i hi).2, hO.2.2.2.1, valsM, zB1_t rfl, hS.1, ifl0, ifl0]
    by_cases h0 : vals (m_line M1 i) &&& cmn (m_line M1) G = 0
    · rw [if_pos h0, if_pos h0]
      exact ⟨1, X, M1, rfl, rfl, h1⟩
    · rw [if_neg h0, if_neg h0]
      exact ⟨0, X, M1, rfl, rfl, h1⟩
  · rw [e1, e2]
    exact ⟨-1, X, M1, rfl, rfl, h1⟩
theorem end_l (X : XS) (M : MS) (G N : Nat) (hL : LnR X M G N) : ∀ (d n m i : Nat), i + d = G + N → d < n → d < m → ∃ r, fX2_end_b2L n (nI i) X = some (r, X) ∧ fX3_end_b7L m (nI i) M = some (r, M) := by
  have h8 := hL.1
  have h24 := hL.2.1
  have hM : m_given M + m_made M = nI (G + N) := by rw [hL.2.2.2.1, hL.2.2.2.2.2.1, nI_add]
  intro d
  induction d with
  | zero =>
    intro n m i hi hn hm
    obtain ⟨n, rfl⟩ : ∃ q, n = q + 1 := ⟨n - 1, by omega⟩
    obtain ⟨m, rfl⟩ : ∃ q, m = q + 1 := ⟨m - 1, by omega⟩
    have : i = G + N := by omega
    subst this
    refine ⟨-9, ?_, ?_⟩
    · show fX2_end_b2 (fX2_end_b2L n) _ _ = _
      unfold fX2_end_b2
      rw [hL.2.2.2.2.1, if_pos (nI_le (Nat.le_refl _) (by omega))]
    · show fX3_end_b7 (fX3_end_b7L m) _ _ = _
      unfold fX3_end_b7
      rw [hM, if_pos (nI_le (Nat.le_refl _) (by omega))]
  | succ d ih =>
    intro n m i hi hn hm
    obtain ⟨n, rfl⟩ : ∃ q, n = q + 1 := ⟨n - 1, by omega⟩
    obtain ⟨m, rfl⟩ : ∃ q, m = q + 1 := ⟨m - 1, by omega⟩
    have hi32 : i < 32 := by omega
    show ∃ r, fX2_end_b2 (fX2_end_b2L n) _ _ = _ ∧ fX3_end_b7 (fX3_end_b7L m) _ _ = _
    unfold fX2_end_b2 fX3_end_b7
    rw [hL.2.2.2.2.1, hM, if_neg (nI_ge (by omega) (by omega)), if_neg (show ¬ (32 : Int32) ≤ nI i from nI_ge hi32 (by decide)), if_neg (nI_ge (by omega) (by omega)), zGI_t (vp_in_nI hi32 (by decide)), zGI_t (vp_in_nI hi32 (by decide)), nI_clamp (by omega), (hL.2.2.2.2.2.2 i (by omega)).1, ifl1, ifl1, nI_1]
    by_cases h1 : m_line M i = 1
    · rw [if_pos h1, if_pos h1]
      exact ⟨nI i, rfl, rfl⟩
    · rw [if_neg h1, if_neg h1]
      exact ih n m (i + 1) (by omega) (by omega) (by omega)
theorem ok_end {X : XS} {M : MS} (h : Rel X M) : Ok2 (fX2_end X) (fX3_end M) := by
  have h1 := h.thrown
  unfold fX2_end fX3_end
  rw [zL_t]
  generalize m_thrown_u M 0 = M1 at h1 ⊢
  obtain ⟨T, G, N, hT, hL, hS, hF, hO⟩ := id h1
  have h8 := hL.1
  have h24 := hL.2.1
  obtain ⟨r, a1, a2⟩ := end_l X M1 G N hL (G + N) zF zF 0 (by omega) (by unfold zF; omega) (by unfold zF; omega)
  exact ⟨r, X, M1, a1, a2, h1⟩
theorem ok_standing {X : XS} {M : MS} (h : Rel X M) : Ok2 (fX2_standing X) (fX3_standing M) := by
  have h1 := h.thrown
  unfold fX2_standing fX3_standing
  rw [zL_t]
  generalize m_thrown_u M 0 = M1 at h1 ⊢
  obtain ⟨X', a1, a2⟩ := standR h1
  rw [a1]
  exact ⟨m_standing M1, X', M1, rfl, rfl, a2⟩
theorem left_0 {X : XS} {M : MS} (h : Rel X M) : ∃ X', fX2_leftOf 0 X = some (0, X') ∧ Rel X' M := by
  obtain ⟨X', a1, a2, -⟩ := folR h
  refine ⟨X', ?_, a2⟩
  unfold fX2_leftOf
  rw [a1, zB1_t rfl, redX, zB2_t rfl, zL_t, rdn_0]
  rfl
theorem ok_left {X : XS} {M : MS} (h : Rel X M) (a : Int32) : Ok2 (fX2_left a X) (fX3_left a M) := by
  have h1 := h.thrown
  unfold fX2_left fX3_left
  rw [zL_t]
  generalize m_thrown_u M 0 = M1 at h1 ⊢
  obtain ⟨T, G, N, hT, hL, hS, hF, hO⟩ := id h1
  have h8 := hL.1
  have h24 := hL.2.1
  rcases isL hL a with ⟨i, hi, rfl, e1, e2⟩ | ⟨e1, e2⟩
  · obtain ⟨r, X', M', a1, a2, a3, -⟩ := leftR h1 (m_line M1 i)
    rw [sumX hL hi, zB2_t rfl, a1, e2, zB2_t rfl, zB2_t rfl, i10, zGI_t (vp_in_nI (show i < 32 by omega) (by decide)), nI_clamp (by omega), a2]
    exact ⟨r, X', M', rfl, rfl, a3⟩
  · obtain ⟨X', a1, a2⟩ := left_0 h1
    have hs : fX2_sumOf a X = some (0, X) := by unfold fX2_sumOf; rw [e1]; rfl
    rw [hs, zB2_t rfl, a1, e2]
    exact ⟨0, X', M1, rfl, rfl, a2⟩
theorem ok_rest {X : XS} {M : MS} (h : Rel X M) (a : Int64) : Ok2 (fX2_rest a X) (fX3_rest a M) := by
  have h1 := h.thrown
  unfold fX2_rest fX3_rest
  rw [zL_t]
  generalize m_thrown_u M 0 = M1 at h1 ⊢
  obtain ⟨r, X', M', a1, a2, a3, -⟩ := leftR h1 a
  rw [a1, a2]
  exact ⟨r, X', M', rfl, rfl, a3⟩
theorem ok_base {X : XS} {M : MS} (h : Rel X M) (k : Int32) : Ok2 (fX2_base k X) (fX3_base k M) := by
  have h1 := h.thrown
  unfold fX2_base fX3_base
  rw [zL_t]
  generalize m_thrown_u M 0 = M1 at h1 ⊢
  obtain ⟨T, G, N, hT, hL, hS, hF, hO⟩ := id h1
  by_cases hk : 0 ≤ k
  · obtain ⟨X', a1, a2⟩ := standR h1
    rw [if_pos hk, a1, zB2_t rfl]
    rcases base_l X' M1 hO.1 k 64 zF zF 0 0 (by omega) (by decide) (by decide) (Nat.le_refl 0) with ⟨b1, b2⟩ | ⟨p, b, hp, hb, e, b1, b2⟩
    · exact ⟨0, X', M1, b1, b2, a2⟩
    · obtain ⟨r, X2, M2, c1, c2, c3, -⟩ := leftR a2 (e1 p)
      rw [c1, zB2_t rfl] at b1
      rw [c2, zB2_t rfl] at b2
      exact ⟨_, X2, M2, b1, b2, c3⟩
  · rw [if_neg hk]
    rcases base_l X M1 hO.1 k 64 zF zF 0 0 (by omega) (by decide) (by decide) (Nat.le_refl 0) with ⟨b1, b2⟩ | ⟨p, b, hp, hb, e, b1, b2⟩
    · exact ⟨0, X, M1, rfl, b2, h1⟩
    · exact absurd (by rw [e]; exact nI_pos' (by omega)) hk
theorem ok_deep {X : XS} {M : MS} (h : Rel X M) (a w : Int32) : Ok2 (fX2_deep a w X) (fX3_deep a w M) := by
  have h1 := h.thrown
  unfold fX2_deep fX3_deep
  rw [zL_t]
  generalize m_thrown_u M 0 = M1 at h1 ⊢
  obtain ⟨T, G, N, hT, hL, hS, hF, hO⟩ := id h1
  have h8 := hL.1
  have h24 := hL.2.1
  rcases isL hL a with ⟨i, hi, rfl, e1, e2⟩ | ⟨e1, e2⟩
  · rw [e1, e2, zB2_t rfl, zB2_t rfl, i10, i10]
    rcases below w 2 (by decide) (by decide) with ⟨j, hj, rfl⟩ | hw
    · have hin : fX3_in (nI j) 0 1 = some 1 := in_yes (n := 2) (by decide) hj
      have gi : ∀ {α : Type} (o : Option α), zGI (nI i) 32 o = o := fun o => zGI_t (vp_in_nI (show i < 32 by omega) (by decide))
      simp only [gi]
      rw [hin, if_neg (nI_pos (show j < 2 ^ 31 by omega)), if_pos (show nI j ≤ (1 : Int32) from nI_le (show j ≤ 1 by omega) (by decide)), nI_clamp (by omega), zB1_t rfl, i10]
      by_cases h0 : nI j = 0
      · rw [if_pos h0, if_pos h0]
        obtain ⟨X', b1, b2, b3, b4, b5⟩ := folR h1
        obtain ⟨r, ld, il, dn, c1, c2⟩ := atOnceM M1 hO.1 G h8 hL.2.2.2.1 (m_line M1 i)
        have hlv := (b3 G hL.2.2.2.1 h8).level (m_line M1 i)
        rw [b1, zB1_t rfl, b4, (hL.2.2.2.2.2.2 i hi).1, lvlX, zB2_t rfl, zL_t, c1, zB2_t rfl, hlv.one c2]
        exact ⟨r, X', _, rfl, rfl, b2.same (same_led M1 ld il dn)⟩
      · rw [if_neg h0, if_neg h0]
        obtain ⟨X', b1, b2, b3, b4, b5⟩ := growR h1
        obtain ⟨r, ld, il, dn, c1, c2⟩ := grownM M1 hO.1 G h8 hL.2.2.2.1 (m_line M1 i)
        have hlv := (b3 G hL.2.2.2.1 h8).level (m_line M1 i)
        rw [b1, zB1_t rfl, b4, (hL.2.2.2.2.2.2 i hi).1, lvlX, zB2_t rfl, zL_t, c1, zB2_t rfl, hlv.one c2]
        exact ⟨r, X', _, rfl, rfl, b2.same (same_led M1 ld il dn)⟩
    · have hin : fX3_in w 0 1 = some 0 := in_no (n := 2) hw
      rw [hin, zB1_t rfl, i00]
      refine ⟨-1, X, M1, ?_, rfl, h1⟩
      rcases hw with hw | ⟨hw, hw2, hw3⟩
      · rw [if_pos hw]
      · rw [if_neg hw, if_neg (show ¬ w ≤ (1 : Int32) from fun z => absurd (Int32.lt_of_lt_of_le hw3 z) Int32.lt_irrefl)]
  · rw [e1, e2]
    exact ⟨-1, X, M1, rfl, rfl, h1⟩
theorem ok_needed {X : XS} {M : MS} (h : Rel X M) (a w : Int32) : Ok2 (fX2_needed a w X) (fX3_needed a w M) := by
  have h1 := h.thrown
  unfold fX2_needed fX3_needed
  rw [zL_t]
  generalize m_thrown_u M 0 = M1 at h1 ⊢
  obtain ⟨T, G, N, hT, hL, hS, hF, hO⟩ := id h1
  have h8 := hL.1
  have h24 := hL.2.1
  rcases isL hL a with ⟨i, hi, rfl, e1, e2⟩ | ⟨e1, e2⟩
  · rw [e1, e2, zB2_t rfl, zB2_t rfl, i10, i10]
    rcases below w 2 (by decide) (by decide) with ⟨j, hj, rfl⟩ | hw
    · have hin : fX3_in (nI j) 0 1 = some 1 := in_yes (n := 2) (by decide) hj
      have gi : ∀ {α : Type} (o : Option α), zGI (nI i) 32 o = o := fun o => zGI_t (vp_in_nI (show i < 32 by omega) (by decide))
      simp only [gi]
      have hp := pG G (by omega)
      obtain ⟨best, few, hR, b1, b2⟩ := need_l X M1 G h8 hL.2.2.1 hL.2.2.2.1 (fun q hq => (hL.2.2.2.2.2.2 q (by omega)).2) (nI j) (vals (m_line M1 i)) (2 ^ G) zF zF 0 (-9) (nI 9) (by omega) (by unfold zF; omega) (by unfold zF; omega) (Or.inl ⟨rfl, rfl⟩)
      have b1 : fX2_fewestGiven (vals (m_line M1 i)) X = some (best, X) := b1
      have b2 : fX3_needed_b45L zF (nI j) (vals (m_line M1 i)) (-9) 9 0 M1 = _ := b2
      rw [hin, if_neg (nI_pos (show j < 2 ^ 31 by omega)), if_pos (show nI j ≤ (1 : Int32) from nI_le (show j ≤ 1 by omega) (by decide)), nI_clamp (by omega), zB1_t rfl, i10, (hL.2.2.2.2.2.2 i hi).2, b1, zB2_t rfl, valsM, zB1_t rfl, b2]
      rcases hR with ⟨rfl, rfl⟩ | ⟨b, hb, rfl, rfl⟩
      · rw [if_pos rfl, if_pos rfl]
        exact ⟨-9, X, M1, rfl, rfl, h1⟩
      · rw [if_neg (n9_nI8 b hb), if_neg (n9_nI8 b hb)]
        have hj2 : j = 0 ∨ j = 1 := by omega
        rcases hj2 with rfl | rfl
        · rw [if_pos (by decide), if_neg (by decide), countI8 b hb]
          exact ⟨_, X, M1, rfl, rfl, h1⟩
        · rw [if_neg (by decide), if_pos (by decide)]
          exact ⟨_, X, M1, rfl, rfl, h1⟩
    · have hin : fX3_in w 0 1 = some 0 := in_no (n := 2) hw
      rw [hin, zB1_t rfl, i00]
      refine ⟨-1, X, M1, ?_, rfl, h1⟩
      rcases hw with hw | ⟨hw, hw2, hw3⟩
      · rw [if_pos hw]
      · rw [if_neg hw, if_neg (show ¬ w ≤ (1 : Int32) from fun z => absurd (Int32.lt_of_lt_of_le hw3 z) Int32.lt_irrefl)]
  · rw [e1, e2]
    exact ⟨-1, X, M1, rfl, rfl, h1⟩
