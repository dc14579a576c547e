/-! ===== what the two states have in common ===== -/
def TxR (X : XS) (M : MS) (T : Nat) : Prop := T ≤ 400 ∧ t_length (x_text X) = nI T ∧ m_typed M = nI T ∧ ∀ k, k < T → ∃ b, b < 256 ∧ t_bytes (x_text X) k = nI b ∧ m_text M k = nI b
def LnR (X : XS) (M : MS) (G N : Nat) : Prop := G ≤ 8 ∧ N ≤ 24 ∧ x_givenLines X = nI G ∧ m_given M = nI G ∧ x_lines X = nI (G + N) ∧ m_made M = nI N ∧ ∀ i, i < G + N → x_lineSums X i = m_line M i ∧ x_lineValues X i = vals (m_line M i)
def StR (M : MS) (G : Nat) : Prop := m_common M = cmn (m_line M) G ∧ ∃ n pv P, m_vectors M = nI n ∧ StI (cmn (m_line M) G) (m_standing M) (m_vector M) (m_made0 M) n 64 pv P
def FlR (X : XS) (M : MS) (G : Nat) : Prop := (x_followingStands X = 0 ∨ (x_followingStands X = 1 ∧ FolOk (x_following X) (m_line M) G)) ∧ (x_grownStands X = 0 ∨ (x_grownStands X = 1 ∧ GrOk (x_grown X) (m_line M) G))
def OtR (X : XS) (M : MS) (G : Nat) : Prop := OrdOk M ∧ x_steps X = m_steps M ∧ x_wrongStep X = m_wrongStep M ∧ x_commonWorlds X = cmn (m_line M) G ∧ x_traced X = m_trace M ∧ ∀ s, s < 24 → ∃ a, a < 32 ∧ m_step M (3 * s + 1) = nI a
def Rel (X : XS) (M : MS) : Prop := ∃ T G N, TxR X M T ∧ LnR X M G N ∧ StR M G ∧ FlR X M G ∧ OtR X M G
/-- what of the model's state the relation does not see -/
def SameM (M M' : MS) : Prop := m_order M' = m_order M ∧ m_text M' = m_text M ∧ m_typed M' = m_typed M ∧ m_given M' = m_given M ∧ m_made M' = m_made M ∧ m_steps M' = m_steps M ∧ m_wrongStep M' = m_wrongStep M ∧ m_line M' = m_line M ∧ m_step M' = m_step M ∧ m_common M' = m_common M ∧ m_standing M' = m_standing M ∧ m_vector M' = m_vector M ∧ m_made0 M' = m_made0 M ∧ m_vectors M' = m_vectors M ∧ m_trace M' = m_trace M
theorem SameM.tr {M M' M'' : MS} (h : SameM M M') (k : SameM M' M'') : SameM M M'' := by
  obtain ⟨a1, a2, a3, a4, a5, a6, a7, a8, a9, a10, a11, a12, a13, a14, a15⟩ := h
  obtain ⟨b1, b2, b3, b4, b5, b6, b7, b8, b9, b10, b11, b12, b13, b14, b15⟩ := k
  exact ⟨b1.trans a1, b2.trans a2, b3.trans a3, b4.trans a4, b5.trans a5, b6.trans a6, b7.trans a7, b8.trans a8, b9.trans a9, b10.trans a10, b11.trans a11, b12.trans a12, b13.trans a13, b14.trans a14, b15.trans a15⟩
theorem Rel.same {X : XS} {M M' : MS} (h : Rel X M) (k : SameM M M') : Rel X M' := by
  obtain ⟨b1, b2, b3, b4, b5, b6, b7, b8, b9, b10, b11, b12, b13, b14, b15⟩ := k
  unfold Rel TxR LnR StR FlR OtR OrdOk at h ⊢
  rw [b1, b2, b3, b4, b5, b6, b7, b8, b9, b10, b11, b12, b13, b14, b15]
  exact h
theorem same_thrown (M : MS) (v : Int32) : SameM M (m_thrown_u M v) := ⟨rfl, rfl, rfl, rfl, rfl, rfl, rfl, rfl, rfl, rfl, rfl, rfl, rfl, rfl, rfl⟩
theorem same_rests (M : MS) (v : Int64) : SameM M (m_rests_u M v) := ⟨rfl, rfl, rfl, rfl, rfl, rfl, rfl, rfl, rfl, rfl, rfl, rfl, rfl, rfl, rfl⟩
theorem same_led (M : MS) (ld : Nat → Int64) (il dn : Nat → Int32) : SameM M (ledU M ld il dn) := ⟨rfl, rfl, rfl, rfl, rfl, rfl, rfl, rfl, rfl, rfl, rfl, rfl, rfl, rfl, rfl⟩
theorem Rel.thrown {X : XS} {M : MS} (h : Rel X M) : Rel X (m_thrown_u M 0) := h.same (same_thrown M 0)
/-! only the lines that are given matter -/
theorem cmn_cong {g g' : Nat → Int64} : ∀ G, (∀ i, i < G → g i = g' i) → cmn g G = cmn g' G
  | 0, _ => rfl
  | G + 1, h => by rw [cmn, cmn, cmn_cong G (fun i hi => h i (by omega)), h G (by omega)]
theorem MultD_cong {g g' : Nat → Int64} {G : Nat} (h : ∀ i, i < G → g i = g' i) (d : Nat) (y : Int64) : MultD g G d y → MultD g' G d y := by
  rintro ⟨i, p, a1, a2, a3, a4, a5⟩
  rw [h i a1] at a3 a4 a5
  exact ⟨i, p, a1, a2, a3, a4, a5⟩
theorem FolOk.cong {S : SS} {g g' : Nat → Int64} {G : Nat} (k : FolOk S g G) (h : ∀ i, i < G → g i = g' i) : FolOk S g' G := by
  obtain ⟨n, L, c, hS, hF⟩ := k
  refine ⟨n, L, c, hS, fun d x => (hF d x).trans ⟨fun q => q.sub (fun y hy => MultD_cong h d y hy), fun q => q.sub (fun y hy => MultD_cong (fun i hi => (h i hi).symm) d y hy)⟩⟩
theorem Gr.cong {g g' : Nat → Int64} {G : Nat} (h : ∀ i, i < G → g i = g' i) {d : Nat} {x : Int64} (k : Gr g G d x) : Gr g' G d x :=
  k (Gr g' G d) Gr.z (fun _ _ => Gr.x) (fun i hi h0 hd => by rw [h i hi] at h0 hd ⊢; exact Gr.g hi h0 hd) (fun a ha h0 hd l hl => ha.m h0 hd hl)
theorem GrOk.cong {S : SS} {g g' : Nat → Int64} {G : Nat} (k : GrOk S g G) (h : ∀ i, i < G → g i = g' i) : GrOk S g' G := by
  obtain ⟨n, L, c, hS, hF⟩ := k
  refine ⟨n, L, c, hS, fun d x => (hF d x).trans ⟨fun q => q.cong h, fun q => q.cong (fun i hi => (h i hi).symm)⟩⟩
/-! lines asked -/
theorem lt_pred {a : Int32} {n : Nat} (hn : n < 2 ^ 31) (h : nI n ≤ a) : nI n - 1 < a := by
  cases n with
  | zero => exact Int32.lt_of_lt_of_le (by decide : nI 0 - 1 < nI 0) h
  | succ k =>
    rw [nI_pred]
    exact Int32.lt_of_lt_of_le (nI_lt (Nat.lt_succ_self k) hn) h
theorem isL {X : XS} {M : MS} {G N : Nat} (h : LnR X M G N) (a : Int32) : (∃ i, i < G + N ∧ a = nI i ∧ fX2_isLine a X = some (1, X) ∧ fX3_isLine a M = some (1, M)) ∨ (fX2_isLine a X = some (0, X) ∧ fX3_isLine a M = some (0, M)) := by
  obtain ⟨h1, h2, h3, h4, h5, h6, -⟩ := h
  have hM : fX3_isLine a M = zB1 (fX3_in a 0 (nI (G + N) - 1)) (fun r => zG (r = 0 ∨ r = 1) (some (r, M))) := by
    unfold fX3_isLine
    rw [h4, h6, nI_add]
  rcases pk_ix a (n := G + N) (by omega) with q | q | ⟨j, hj, rfl⟩
  · refine Or.inr ⟨?_, ?_⟩
    · unfold fX2_isLine
      rw [if_pos q]
    · rw [hM]
      unfold fX3_in
      rw [if_pos q]
      rfl
  · have hq0 : ¬ a < 0 := fun z => absurd (Int32.lt_of_le_of_lt q z) (nI_pos (by omega))
    refine Or.inr ⟨?_, ?_⟩
    · unfold fX2_isLine
      rw [if_neg hq0, h5, if_pos q]
    · rw [hM]
      unfold fX3_in
      rw [if_neg hq0, if_pos (lt_pred (by omega) q)]
      rfl
  · refine Or.inl ⟨j, hj, rfl, ?_, ?_⟩
    · unfold fX2_isLine
      rw [if_neg (nI_pos (by omega)), h5, if_neg (nI_ge hj (by omega)), if_neg (show ¬ (32 : Int32) ≤ nI j from nI_ge (show j < 32 by omega) (by decide))]
    · rw [hM]
      unfold fX3_in
      have hk : ¬ nI (G + N) - 1 < nI j := by
        obtain ⟨k, hk⟩ : ∃ k, G + N = k + 1 := ⟨G + N - 1, by omega⟩
        rw [hk, nI_pred]
        exact nI_nlt (by omega) (by omega)
      rw [if_neg (nI_pos (by omega)), if_neg hk]
      rfl
theorem sumX {X : XS} {M : MS} {G N : Nat} (h : LnR X M G N) {i : Nat} (hi : i < G + N) : fX2_sumOf (nI i) X = some (m_line M i, X) := by
  obtain ⟨h1, h2, h3, h4, h5, h6, h7⟩ := h
  unfold fX2_sumOf fX2_isLine
  rw [if_neg (nI_pos (by omega)), h5, if_neg (nI_ge hi (by omega)), if_neg (show ¬ (32 : Int32) ≤ nI i from nI_ge (show i < 32 by omega) (by decide)), zB2_t rfl, if_neg (by decide), zGI_t (vp_in_nI (by omega) (by decide)), nI_clamp (by omega), (h7 i hi).1]
/-! the class's makeFollowing(), whatever stands -/
theorem LnR.sums {X : XS} {M : MS} {G N : Nat} (h : LnR X M G N) : ∀ i, i < G → x_lineSums X i = m_line M i := fun i hi => (h.2.2.2.2.2.2 i (by omega)).1
def FX (X : XS) (S : SS) (b : Int32) : XS := (x_text X, x_lineSums X, x_lineValues X, x_lines X, x_givenLines X, x_steps X, x_wrongStep X, x_commonWorlds X, x_traced X, S, b, x_grown X, x_grownStands X)
theorem fx_id (X : XS) : FX X (x_following X) (x_followingStands X) = X := rfl
theorem folR {X : XS} {M : MS} (h : Rel X M) : ∃ X', fX2_makeFollowing X = some X' ∧ Rel X' M ∧ (∀ G, m_given M = nI G → G ≤ 8 → FolOk (x_following X') (m_line M) G) ∧ x_lineSums X' = x_lineSums X ∧ x_lines X' = x_lines X := by
  obtain ⟨T, G, N, hT, hL, hS, hF, hO⟩ := h
  have hGe : ∀ G', m_given M = nI G' → G' ≤ 8 → G' = G := fun G' e h8 => by
    rw [hL.2.2.2.1] at e
    have := hL.1
    exact ((nI_eq (by omega) (by omega)).mp e).symm
  rcases hF.1 with h0 | ⟨h1, hFo⟩
  · obtain ⟨hc, n, pv, P, hv, hI⟩ := hS
    have hcm := cmn_cong G hL.sums
    rw [← hcm] at hI
    obtain ⟨S', a1, a2⟩ := folX X G hL.1 hL.2.2.1 hI (by rw [hO.2.2.2.1, hcm]) h0
    have a2 : FolOk S' (m_line M) G := a2.cong hL.sums
    rw [hcm] at hI
    refine ⟨_, a1, ⟨T, G, N, hT, hL, ⟨hc, n, pv, P, hv, hI⟩, ⟨Or.inr ⟨rfl, a2⟩, hF.2⟩, hO⟩, fun G' e h8 => ?_, rfl, rfl⟩
    rw [hGe G' e h8]
    exact a2
  · refine ⟨X, ?_, ⟨T, G, N, hT, hL, hS, hF, hO⟩, fun G' e h8 => ?_, rfl, rfl⟩
    · unfold fX2_makeFollowing
      rw [h1, if_neg (by decide)]
    · rw [hGe G' e h8]
      exact hFo
theorem growR {X : XS} {M : MS} (h : Rel X M) : ∃ X', fX2_makeGrown X = some X' ∧ Rel X' M ∧ (∀ G, m_given M = nI G → G ≤ 8 → GrOk (x_grown X') (m_line M) G) ∧ x_lineSums X' = x_lineSums X ∧ x_lines X' = x_lines X := by
  obtain ⟨T, G, N, hT, hL, hS, hF, hO⟩ := h
  have hGe : ∀ G', m_given M = nI G' → G' ≤ 8 → G' = G := fun G' e h8 => by
    rw [hL.2.2.2.1] at e
    have := hL.1
    exact ((nI_eq (by omega) (by omega)).mp e).symm
  rcases hF.2 with h0 | ⟨h1, hFo⟩
  · obtain ⟨S', a1, a2⟩ := growX X G hL.1 hL.2.2.1 h0
    have a2 : GrOk S' (m_line M) G := a2.cong hL.sums
    refine ⟨_, a1, ⟨T, G, N, hT, hL, hS, ⟨hF.1, Or.inr ⟨rfl, a2⟩⟩, hO⟩, fun G' e h8 => ?_, rfl, rfl⟩
    rw [hGe G' e h8]
    exact a2
  · refine ⟨X, ?_, ⟨T, G, N, hT, hL, hS, hF, hO⟩, fun G' e h8 => ?_, rfl, rfl⟩
    · unfold fX2_makeGrown
      rw [h1, if_neg (by decide)]
    · rw [hGe G' e h8]
      exact hFo
theorem leftR {X : XS} {M : MS} (h : Rel X M) (x : Int64) : ∃ r X' M', fX2_leftOf x X = some (r, X') ∧ fX3_leftOf x M = some (r, M') ∧ Rel X' M' ∧ SameM M M' ∧ x_lineSums X' = x_lineSums X ∧ x_lines X' = x_lines X := by
  obtain ⟨X', a1, a2, a3, a4, a5⟩ := folR h
  obtain ⟨T, G, N, hT, hL, ⟨hc, n, pv, P, hv, hI⟩, hF, hO⟩ := id a2
  have hFo := a3 G hL.2.2.2.1 hL.1
  have hb := bearsM M n hI.1 hv (rv (cmn (m_line M) G) x)
  refine ⟨(brs (m_vector M) (m_made0 M) n (rv (cmn (m_line M) G) x)).2, X', m_rests_u M (brs (m_vector M) (m_made0 M) n (rv (cmn (m_line M) G) x)).2, ?_, ?_, a2.same (same_rests M _), same_rests M _, a4, a5⟩
  · unfold fX2_leftOf
    rw [a1, zB1_t rfl, redX, zB2_t rfl, zL_t, hFo.left hI x]
    rfl
  · unfold fX3_leftOf
    unfold rv at hb ⊢
    rw [valsM, zB1_t rfl, hc, hb, zB2_t rfl]
    rfl
theorem standR {X : XS} {M : MS} (h : Rel X M) : ∃ X', fX2_standingProducts X = some (m_standing M, X') ∧ Rel X' M := by
  obtain ⟨X', a1, a2, a3, a4, a5⟩ := folR h
  obtain ⟨T, G, N, hT, hL, ⟨hc, n, pv, P, hv, hI⟩, hF, hO⟩ := id a2
  have hFo := a3 G hL.2.2.2.1 hL.1
  refine ⟨X', ?_, a2⟩
  unfold fX2_standingProducts
  rw [a1, zB1_t rfl, hFo.standing hI]
