/-! ===== proof() on both sides ===== -/
theorem Rel.samep {X : XS} {M M' : MS} (h : Rel X M) (k : SameP M M') (hs : StB M') : Rel X M' := by
  obtain ⟨T, G, N, hT, hL, hS, hF, hO⟩ := h
  obtain ⟨b1, b2, b3, b4, b5, b6, b7, b8, b9, b10, b11, b12, b13, b14⟩ := k
  refine ⟨T, G, N, ?_, ?_, ?_, ?_, ?_⟩
  · unfold TxR at hT ⊢
    rw [b2, b3]
    exact hT
  · unfold LnR at hL ⊢
    rw [b4, b5, b8]
    exact hL
  · unfold StR at hS ⊢
    rw [b8, b9, b10, b11, b12, b13]
    exact hS
  · unfold FlR at hF ⊢
    rw [b8]
    exact hF
  · unfold OtR OrdOk at hO ⊢
    rw [b1, b6, b7, b8, b14]
    exact ⟨hO.1, hO.2.1, hO.2.2.1, hO.2.2.2.1, hO.2.2.2.2.1, hs⟩
def pfX (X : XS) (t : TS) (ls lv : Nat → Int64) (n gl k w : Int32) (cm : Int64) : XS := (t, ls, lv, n, gl, k, w, cm, x_traced X, x_following X, x_followingStands X, x_grown X, x_grownStands X)
theorem pf_1 (X : XS) (t : TS) (ls lv : Nat → Int64) (n n0 gl k w : Int32) (cm c0 : Int64) : gvX (xU X t n0 gl k w c0) ls lv n cm = pfX X t ls lv n gl k w cm := rfl
theorem pf_w (X : XS) (t : TS) (ls lv : Nat → Int64) (n gl k w z : Int32) (cm : Int64) : x_wrongStep_u (pfX X t ls lv n gl k w cm) z = pfX X t ls lv n gl k z cm := rfl
theorem pf_l (X : XS) (t : TS) (ls lv : Nat → Int64) (n gl k w : Int32) (cm : Int64) : x_lines (pfX X t ls lv n gl k w cm) = n := rfl
theorem pf_g (X : XS) (t : TS) (ls lv : Nat → Int64) (n gl k w : Int32) (cm : Int64) : x_givenLines (pfX X t ls lv n gl k w cm) = gl := rfl
theorem rel_proof {X : XS} {M : MS} {t : TS} {G N0 N : Nat} {ls lv l : Nat → Int64} {kk w : Int32} {cm : Int64} (hL : LnR X M G N0) (hS : StR M G) (hF : FlR X M G) (hO : OtR X M G) (hN : N ≤ 24) (hc0 : cm = x_commonWorlds X) (hls : ∀ i, i < G + N → ls i = l i ∧ lv i = vals (l i)) (hl : ∀ i, i < G → l i = m_line M i) : Rel (pfX X (t_length_u t 0) ls lv (nI (G + N)) (nI G) kk w cm) (gwU M l (nI G) (nI N) kk w 0) := by
  have e : cmn (m_line M) G = cmn l G := cmn_cong G (fun i hi => (hl i hi).symm)
  obtain ⟨hc, n, pv, P, hv, hI⟩ := hS
  have hx := hO.2.2.2.1
  rw [e] at hc hI hx
  refine ⟨0, G, N, ⟨Nat.zero_le 400, rfl, rfl, fun j hj => absurd hj (Nat.not_lt_zero j)⟩, ⟨hL.1, hN, rfl, rfl, rfl, rfl, hls⟩, ⟨hc, n, pv, P, hv, hI⟩, ⟨?_, ?_⟩, ⟨hO.1, rfl, rfl, hc0.trans hx, hO.2.2.2.2.1, hO.2.2.2.2.2⟩⟩
  · rcases hF.1 with q | ⟨q1, q2⟩
    · exact Or.inl q
    · exact Or.inr ⟨q1, q2.cong (fun i hi => (hl i hi).symm)⟩
  · rcases hF.2 with q | ⟨q1, q2⟩
    · exact Or.inl q
    · exact Or.inr ⟨q1, q2.cong (fun i hi => (hl i hi).symm)⟩
theorem tl_told (t : TS) (v : Int32) : t_told (t_length_u t v) = t_told t := rfl
theorem StpR.len {t : TS} {M : MS} {G j : Nat} (h : StpR t M G j) (v : Int32) : StpR (t_length_u t v) M G j := h
theorem prX_tail (X : XS) (t : TS) (k : Nat) (hto : t_told t = nI k) : (zL (x_text_u X t) (fun W_8 =>
(if (-1 : Int32) = (-1 : Int32) then (zL (x_text_u W_8 (t_length_u (x_text W_8) (0 : Int32))) (fun S_27 =>
(zL (x_lines_u S_27 (x_givenLines S_27)) (fun S_35 =>
(zB1 (fX2_dropProof S_35) (fun S_39 =>
(zL (x_steps_u S_39 (t_told (x_text S_39))) (fun S_50 =>
(zB1 (fX2_carryOutSteps S_50) (fun S_54 =>
some (((x_lines S_54) - (x_givenLines S_54)), S_54))))))))))) else
some (((-10 : Int32) - (-1 : Int32)), W_8)))) = zB1 (fX2_carryOutSteps_b2L zF 0 (gvX (xU X (t_length_u t 0) (x_givenLines X) (x_givenLines X) (nI k) (-9) (x_commonWorlds X)) (x_lineSums X) (x_lineValues X) (x_givenLines X) (x_commonWorlds X))) (fun S_54 =>
some (((x_lines S_54) - (x_givenLines S_54)), S_54)) := by
  rw [zL_t, if_pos rfl, zL_t, zL_t, xu_0 X t, xu_gt, xu_t, xu_gg, xu_n, xu_drop, zB1_t rfl, zL_t, xu_gt, xu_s, tl_told, hto]
  rfl
theorem well' {M : MS} (h : m_fault M = -1) : fX3_isWell M = some (1, M) := by
  unfold fX3_isWell
  rw [h, if_neg (by decide)]
theorem gw_id (M : MS) : gwU M (m_line M) (m_given M) (m_made M) (m_steps M) (m_wrongStep M) (m_typed M) = M := rfl
theorem prM_tail {M : MS} (hf : m_fault M = -1) (k : Nat) : fX3_proof_b51 (nI k) M = fX3_proof_b89L zF 0 (gwU M (m_line M) (m_given M) 0 (nI k) (-9) 0) := by
  have e : m_typed_u (m_wrongStep_u (m_made_u (m_steps_u M (nI k)) 0) (-9)) 0 = gwU M (m_line M) (m_given M) 0 (nI k) (-9) 0 := by
    have e1 : m_steps_u M (nI k) = gwU M (m_line M) (m_given M) (m_made M) (nI k) (m_wrongStep M) (m_typed M) := rfl
    rw [e1, gw_m, gw_w, gw_t]
  unfold fX3_proof_b51
  rw [well' hf, zB2_t rfl, i10, zL_t, zL_t, zL_t, zL_t, e]
theorem ok_proof {X : XS} {M : MS} (h : Rel X M) : Ok2 (fX2_proof X) (fX3_proof M) := by
  have h1 := h.thrown
  unfold fX2_proof fX3_proof
  rw [zL_t]
  generalize m_thrown_u M 0 = M1 at h1 ⊢
  obtain ⟨T, G, N, hT, hL, hS, hF, hO⟩ := id h1
  have h4 := hT.1
  have hx := hL.2.2.1
  rw [hx]
  rcases readP0 hL.1 hT hL.2.2.2.1 hO.2.2.2.2.2 with ⟨k, t', M', c1, c2, c3, c4, c5, c6, c7, c8, c9⟩ | ⟨s', t', M', c1, c2, c3, c4, c5, c6⟩
  · have hR' := h1.samep c3 c4
    have hL' : LnR X M' G N := by
      unfold LnR
      rw [c3.2.2.2.1, c3.2.2.2.2.1, c3.2.2.2.2.2.2.2.1]
      exact hL
    have hS' : StR M' G := by
      unfold StR
      rw [c3.2.2.2.2.2.2.2.1, c3.2.2.2.2.2.2.2.2.1, c3.2.2.2.2.2.2.2.2.2.1, c3.2.2.2.2.2.2.2.2.2.2.1, c3.2.2.2.2.2.2.2.2.2.2.2.1, c3.2.2.2.2.2.2.2.2.2.2.2.2.1]
      exact hS
    have hF' : FlR X M' G := by
      unfold FlR
      rw [c3.2.2.2.2.2.2.2.1]
      exact hF
    have hO' : OtR X M' G := by
      unfold OtR OrdOk
      rw [c3.1, c3.2.2.2.2.2.1, c3.2.2.2.2.2.2.1, c3.2.2.2.2.2.2.2.1, c3.2.2.2.2.2.2.2.2.2.2.2.2.2]
      exact ⟨hO.1, hO.2.1, hO.2.2.1, hO.2.2.2.1, hO.2.2.2.2.1, c4⟩
    have hcm : m_common M' = x_commonWorlds X := by rw [hS'.1, hO'.2.2.2.1]
    obtain ⟨N2, ls, lv, l, d1, d2, d3, d4⟩ := carR (X := xU X (t_length_u t' 0) (nI G) (nI G) (nI k) (-9) (x_commonWorlds X)) (t := t_length_u t' 0) (M := M') (G := G) (K := k) (cm := x_commonWorlds X) rfl rfl c1 hL.1 (fun j hj => (c6 j hj).len 0) c4 hcm k zF zF 0 (x_lineSums X) (x_lineValues X) (m_line M') (by omega) (by unfold zF; omega) (by unfold zF; omega) (fun i hi => hL'.2.2.2.2.2.2 i (by omega))
    have hgv := hL'.2.2.2.1
    rw [c8, zB2_t rfl, prX_tail X t' k c5, c9, prM_tail c7, hx, hgv]
    have hl : ∀ i, i < G → l i = m_line M' i := fun i hi => d3 i (by omega)
    rcases d4 with ⟨e1, e2⟩ | ⟨w, e1, e2⟩
    · have e1 : fX2_carryOutSteps_b2L zF 0 (gvX (xU X (t_length_u t' 0) (nI G) (nI G) (nI k) (-9) (x_commonWorlds X)) (x_lineSums X) (x_lineValues X) (nI G) (x_commonWorlds X)) = _ := e1
      have e2 : fX3_proof_b89L zF 0 (gwU M' (m_line M') (nI G) 0 (nI k) (-9) 0) = _ := e2
      rw [e1, e2, zB1_t rfl, pf_1, pf_l, pf_g, pk_sub (by omega), show G + N2 - G = N2 by omega]
      exact ⟨nI N2, _, _, rfl, rfl, rel_proof hL' hS' hF' hO' (by omega) rfl d2 hl⟩
    · have e1 : fX2_carryOutSteps_b2L zF 0 (gvX (xU X (t_length_u t' 0) (nI G) (nI G) (nI k) (-9) (x_commonWorlds X)) (x_lineSums X) (x_lineValues X) (nI G) (x_commonWorlds X)) = _ := e1
      have e2 : fX3_proof_b89L zF 0 (gwU M' (m_line M') (nI G) 0 (nI k) (-9) 0) = _ := e2
      rw [e1, e2, zB1_t rfl, pf_1, pf_w, pf_l, pf_g, pk_sub (by omega), show G + N2 - G = N2 by omega]
      exact ⟨nI N2, _, _, rfl, rfl, rel_proof hL' hS' hF' hO' (by omega) rfl d2 hl⟩
  · rw [c5, zB2_t rfl, zL_t, if_neg (nm1 (by omega)), c6]
    refine ⟨-10 - nI s', x_text_u X t', M', rfl, rfl, ?_⟩
    exact (h1.samep c3 c4).reread c2 (same_rf M')
