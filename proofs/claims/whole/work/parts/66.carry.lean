/-! ===== proof(): its steps carried out on both sides ===== -/
theorem sumG (X : XS) (ls lv : Nat → Int64) {n a : Nat} (hn : n ≤ 32) (ha : a < n) (cm : Int64) : fX2_sumOf (nI a) (gvX X ls lv (nI n) cm) = some (ls a, gvX X ls lv (nI n) cm) := by
  unfold fX2_sumOf fX2_isLine
  rw [if_neg (nI_pos (show a < 2 ^ 31 by omega)), gx_lines, if_neg (nI_ge ha (by omega)), if_neg (show ¬ (32 : Int32) ≤ nI a from nI_ge (show a < 32 by omega) (by decide)), zB2_t rfl, i10, zGI_t (vp_in_nI (show a < 32 by omega) (by decide)), gx_sums, nI_clamp (show a < 2 ^ 31 by omega)]
theorem gw_gstep (M : MS) (l : Nat → Int64) (k ma sp wr ty : Int32) : m_step (gwU M l k ma sp wr ty) = m_step M := rfl
theorem gw_gline (M : MS) (l : Nat → Int64) (k ma sp wr ty : Int32) : m_line (gwU M l k ma sp wr ty) = l := rfl
theorem gw_gclaim (M : MS) (l : Nat → Int64) (k ma sp wr ty : Int32) : m_claimed (gwU M l k ma sp wr ty) = m_claimed M := rfl
theorem gw_gsteps (M : MS) (l : Nat → Int64) (k ma sp wr ty : Int32) : m_steps (gwU M l k ma sp wr ty) = sp := rfl
theorem gw_gwrong (M : MS) (l : Nat → Int64) (k ma sp wr ty : Int32) : m_wrongStep (gwU M l k ma sp wr ty) = wr := rfl
theorem gw_ggiven (M : MS) (l : Nat → Int64) (k ma sp wr ty : Int32) : m_given (gwU M l k ma sp wr ty) = k := rfl
theorem gw_gmade (M : MS) (l : Nat → Int64) (k ma sp wr ty : Int32) : m_made (gwU M l k ma sp wr ty) = ma := rfl
theorem gw_gcom (M : MS) (l : Nat → Int64) (k ma sp wr ty : Int32) : m_common (gwU M l k ma sp wr ty) = m_common M := rfl
theorem gw_l (M : MS) (l l2 : Nat → Int64) (k ma sp wr ty : Int32) : m_line_u (gwU M l k ma sp wr ty) l2 = gwU M l2 k ma sp wr ty := rfl
theorem stepV {X : XS} {t : TS} {M : MS} {G j K : Nat} {ls lv l : Nat → Int64} {cm : Int64} (ht : x_text X = t) (hR : StpR t M G j) (hj : j < K) (hK : K ≤ 24) (hG : G ≤ 8) (hls : ∀ i, i < G + j → ls i = l i) (hst : ∃ a, a < 32 ∧ m_step M (3 * j + 1) = nI a) (k89 : Int32 → MS → Option (Int32 × MS)) :
    ∃ v, fX2_sumOfStep (nI j) (gvX X ls lv (nI (G + j)) cm) = some (v, gvX X ls lv (nI (G + j)) cm) ∧ fX3_proof_b89 k89 (nI j) (gwU M l (nI G) (nI j) (nI K) (-9) 0) = fX3_proof_b202 k89 (nI j) (m_step M (3 * j)) v (gwU M l (nI G) (nI j) (nI K) (-9) 0) ∧ (t_ops t j = 4 ↔ m_step M (3 * j) = 3) := by
  have g24 : ∀ {α : Type} (o : Option α), zGI (nI j) 24 o = o := fun o => zGI_t (vp_in_nI (show j < 24 by omega) (by decide))
  have g0 : ∀ {α : Type} (o : Option α), zGI (nI (3 * j)) 72 o = o := fun o => zGI_t (vp_in_nI (show 3 * j < 72 by omega) (by decide))
  have g1 : ∀ {α : Type} (o : Option α), zGI (nI (3 * j + 1)) 72 o = o := fun o => zGI_t (vp_in_nI (show 3 * j + 1 < 72 by omega) (by decide))
  have g2 : ∀ {α : Type} (o : Option α), zGI (nI (3 * j + 2)) 72 o = o := fun o => zGI_t (vp_in_nI (show 3 * j + 2 < 72 by omega) (by decide))
  have cj : (nI j).toNatClampNeg = j := nI_clamp (by omega)
  have c0 : (nI (3 * j)).toNatClampNeg = 3 * j := nI_clamp (by omega)
  have c1 : (nI (3 * j + 1)).toNatClampNeg = 3 * j + 1 := nI_clamp (by omega)
  have c2 : (nI (3 * j + 2)).toNatClampNeg = 3 * j + 2 := nI_clamp (by omega)
  obtain ⟨a0, ha0, ea0⟩ := hst
  have hM : fX3_proof_b89 k89 (nI j) (gwU M l (nI G) (nI j) (nI K) (-9) 0) = (if m_step M (3 * j) = 3 then fX3_proof_b202 k89 (nI j) (m_step M (3 * j)) (m_claimed M j) (gwU M l (nI G) (nI j) (nI K) (-9) 0) else if m_step M (3 * j) = 0 then zGI (m_step M (3 * j + 2)) 32 (fX3_proof_b202 k89 (nI j) (m_step M (3 * j)) (l a0 ^^^ l (m_step M (3 * j + 2)).toNatClampNeg) (gwU M l (nI G) (nI j) (nI K) (-9) 0)) else if m_step M (3 * j) = 1 then zB1 (fX3_raised (l a0) (m_step M (3 * j + 2))) (fun r => fX3_proof_b202 k89 (nI j) (m_step M (3 * j)) r (gwU M l (nI G) (nI j) (nI K) (-9) 0)) else zGI (m_step M (3 * j + 2)) 32 (zB1 (fX3_multiplied (l a0) (l (m_step M (3 * j + 2)).toNatClampNeg)) (fun r => fX3_proof_b202 k89 (nI j) (m_step M (3 * j)) r (gwU M l (nI G) (nI j) (nI K) (-9) 0)))) := by
    unfold fX3_proof_b89
    rw [gw_gsteps, if_neg (nI_ge hj (by omega)), gw_gwrong, if_pos rfl, i31, i32, i3, g0, zL_t, g1, gw_gstep, c1, ea0, zGI_t (vp_in_nI ha0 (by decide)), zL_t, g2, zL_t, c0, c2, g24, gw_gclaim, cj, gw_gline, nI_clamp (show a0 < 2 ^ 31 by omega)]
  have hX : fX2_sumOfStep (nI j) (gvX X ls lv (nI (G + j)) cm) = (if t_ops t j = 1 then zB2 (fX2_sumOf (t_firsts t j) (gvX X ls lv (nI (G + j)) cm)) (fun r_46 S_46 => zB2 (fX2_sumOf (t_seconds (x_text S_46) j) S_46) (fun r_59 S_59 => some ((r_46 ^^^ r_59), S_59))) else if t_ops t j = 2 then zB2 (fX2_sumOf (t_firsts t j) (gvX X ls lv (nI (G + j)) cm)) (fun r_74 S_74 => zB1 (fX2_multiplied r_74 ((1 : Int64) <<< ((t_seconds (x_text S_74) j).toInt64 &&& 63))) (fun r_88 => some (r_88, S_74))) else if t_ops t j = 3 then zB2 (fX2_sumOf (t_firsts t j) (gvX X ls lv (nI (G + j)) cm)) (fun r_102 S_102 => zB2 (fX2_sumOf (t_seconds (x_text S_102) j) S_102) (fun r_115 S_115 => zB1 (fX2_multiplied r_102 r_115) (fun r_118 => some (r_118, S_115)))) else some (t_sums t j, gvX X ls lv (nI (G + j)) cm)) := by
    unfold fX2_sumOfStep
    rw [g24, gx_text, ht]
    simp only [g24, cj]
  rw [hM, hX]
  rcases hR with ⟨a, c, ha, hc, r1, r2, r3, r4, hop⟩ | ⟨a, p, ha, hp, r1, r2, r3, r4, r5, r6⟩ | ⟨r1, r2, r3⟩
  · have ea : a0 = a := by rw [ea0] at r2; exact (nI_eq (by omega) (by omega)).mp r2
    subst ea
    have cc : (nI c).toNatClampNeg = c := nI_clamp (by omega)
    rcases hop with ⟨o1, o2⟩ | ⟨o1, o2⟩
    · refine ⟨l a0 ^^^ l c, ?_, ?_, by rw [o1, o2]; decide⟩
      · rw [if_pos o1, r1, sumG X ls lv (by omega) ha, zB2_t rfl, gx_text, ht, r3, sumG X ls lv (by omega) hc, zB2_t rfl, hls a0 ha, hls c hc]
      · rw [o2, if_neg (by decide), if_pos rfl, r4, zGI_t (vp_in_nI (show c < 32 by omega) (by decide)), cc]
    · refine ⟨mul (l a0) (l c), ?_, ?_, by rw [o1, o2]; decide⟩
      · rw [o1, if_neg (by decide), if_neg (by decide), if_pos rfl, r1, sumG X ls lv (by omega) ha, zB2_t rfl, gx_text, ht, r3, sumG X ls lv (by omega) hc, zB2_t rfl, hls a0 ha, hls c hc, mulX, zB1_t rfl]
      · rw [o2, if_neg (by decide), if_neg (by decide), if_neg (by decide), r4, zGI_t (vp_in_nI (show c < 32 by omega) (by decide)), cc, multM, zB1_t rfl]
  · have ea : a0 = a := by rw [ea0] at r2; exact (nI_eq (by omega) (by omega)).mp r2
    subst ea
    refine ⟨mul (l a0) (e1 p), ?_, ?_, by rw [r5, r6]; decide⟩
    · rw [r5, if_neg (by decide), if_pos rfl, r1, sumG X ls lv (by omega) ha, zB2_t rfl, gx_text, ht, r3, e1_shl p hp, hls a0 ha, mulX, zB1_t rfl]
    · rw [r6, if_neg (by decide), if_neg (by decide), if_pos rfl, r4, raisedM _ hp, zB1_t rfl]
  · refine ⟨m_claimed M j, ?_, ?_, by rw [r1, r2]; decide⟩
    · rw [r1, if_neg (by decide), if_neg (by decide), if_neg (by decide), r3]
    · rw [r2, if_pos rfl]
theorem prM_226 (M : MS) (l : Nat → Int64) {G j K : Nat} (hG : G ≤ 8) (hj : j < 24) (k89 : Int32 → MS → Option (Int32 × MS)) (v : Int64) : fX3_proof_b226 k89 (nI j) v (gwU M l (nI G) (nI j) (nI K) (-9) 0) = k89 (nI (j + 1)) (gwU M (vp_updL l (G + j) v) (nI G) (nI (j + 1)) (nI K) (-9) 0) := by
  unfold fX3_proof_b226 fX3_proof_b252
  rw [gw_ggiven, gw_gmade, nI_add, zGI_t (vp_in_nI (show G + j < 32 by omega) (by decide)), zL_t, gw_gline, gw_l, zL_t, gw_gmade, gw_m, nI_1, nI_clamp (by omega)]
theorem carR {X : XS} {t : TS} {M : MS} {G K : Nat} {cm : Int64} (ht : x_text X = t) (hs : x_steps X = nI K) (hK : K ≤ 24) (hG : G ≤ 8) (hR : ∀ j, j < K → StpR t M G j) (hst : StB M) (hcm : m_common M = cm) : ∀ (d n m j : Nat) (ls lv l : Nat → Int64), j + d = K → d < n → d + 1 < m → (∀ i, i < G + j → ls i = l i ∧ lv i = vals (l i)) →
    ∃ N ls' lv' l', N ≤ K ∧ (∀ i, i < G + N → ls' i = l' i ∧ lv' i = vals (l' i)) ∧ (∀ i, i < G + j → l' i = l i) ∧ ((fX2_carryOutSteps_b2L n (nI j) (gvX X ls lv (nI (G + j)) cm) = some (gvX X ls' lv' (nI (G + N)) cm) ∧ fX3_proof_b89L m (nI j) (gwU M l (nI G) (nI j) (nI K) (-9) 0) = some (nI N, gwU M l' (nI G) (nI N) (nI K) (-9) 0)) ∨
      ∃ w, fX2_carryOutSteps_b2L n (nI j) (gvX X ls lv (nI (G + j)) cm) = some (x_wrongStep_u (gvX X ls' lv' (nI (G + N)) cm) w) ∧ fX3_proof_b89L m (nI j) (gwU M l (nI G) (nI j) (nI K) (-9) 0) = some (nI N, gwU M l' (nI G) (nI N) (nI K) w 0)) := by
  intro d
  induction d with
  | zero =>
    intro n m j ls lv l hj hn hm h
    obtain ⟨n, rfl⟩ : ∃ z, n = z + 1 := ⟨n - 1, by omega⟩
    obtain ⟨m, rfl⟩ : ∃ z, m = z + 1 := ⟨m - 1, by omega⟩
    have : j = K := by omega
    subst this
    refine ⟨j, ls, lv, l, Nat.le_refl j, h, fun _ _ => rfl, Or.inl ⟨?_, ?_⟩⟩
    · show fX2_carryOutSteps_b2 (fX2_carryOutSteps_b2L n) _ _ = _
      unfold fX2_carryOutSteps_b2
      rw [gx_steps, hs, if_pos (nI_le (Nat.le_refl j) (by omega))]
    · show fX3_proof_b89 (fX3_proof_b89L m) _ _ = _
      unfold fX3_proof_b89
      rw [gw_gsteps, if_pos (nI_le (Nat.le_refl j) (by omega)), gw_gmade]
  | succ d ih =>
    intro n m j ls lv l hj hn hm h
    obtain ⟨n, rfl⟩ : ∃ z, n = z + 1 := ⟨n - 1, by omega⟩
    obtain ⟨m, rfl⟩ : ∃ z, m = z + 2 := ⟨m - 2, by omega⟩
    have hjK : j < K := by omega
    obtain ⟨v, a1, a2, a3⟩ := stepV (lv := lv) (cm := cm) ht (hR j hjK) hjK hK hG (fun i hi => (h i hi).1) (hst j (by omega)) (fX3_proof_b89L (m + 1))
    have hX : fX2_carryOutSteps_b2L (n + 1) (nI j) (gvX X ls lv (nI (G + j)) cm) = if t_ops t j = 4 then fX2_carryOutSteps_b40 (fX2_carryOutSteps_b2L n) (nI j) v 1 (gvX X ls lv (nI (G + j)) cm) else fX2_carryOutSteps_b40 (fX2_carryOutSteps_b2L n) (nI j) v 0 (gvX X ls lv (nI (G + j)) cm) := by
      show fX2_carryOutSteps_b2 (fX2_carryOutSteps_b2L n) _ _ = _
      unfold fX2_carryOutSteps_b2
      rw [gx_steps, hs, if_neg (nI_ge hjK (by omega)), if_neg (show ¬ (24 : Int32) ≤ nI j from nI_ge (show j < 24 by omega) (by decide)), a1, zB2_t rfl, zGI_t (vp_in_nI (show j < 24 by omega) (by decide)), gx_text, ht, nI_clamp (by omega)]
    have hM : fX3_proof_b89L (m + 2) (nI j) (gwU M l (nI G) (nI j) (nI K) (-9) 0) = fX3_proof_b202 (fX3_proof_b89L (m + 1)) (nI j) (m_step M (3 * j)) v (gwU M l (nI G) (nI j) (nI K) (-9) 0) := a2
    have h67 : fX2_carryOutSteps_b67 (fX2_carryOutSteps_b2L n) (nI j) v (gvX X ls lv (nI (G + j)) cm) = fX2_carryOutSteps_b2L n (nI (j + 1)) (gvX X (vp_updL ls (G + j) v) (vp_updL lv (G + j) (vals v)) (nI (G + (j + 1))) cm) := by
      unfold fX2_carryOutSteps_b67
      rw [appX X ls lv (show G + j < 32 by omega), zB1_t rfl, nI_1]
      rfl
    have hgo : ∃ N ls' lv' l', N ≤ K ∧ (∀ i, i < G + N → ls' i = l' i ∧ lv' i = vals (l' i)) ∧ (∀ i, i < G + j → l' i = l i) ∧ ((fX2_carryOutSteps_b67 (fX2_carryOutSteps_b2L n) (nI j) v (gvX X ls lv (nI (G + j)) cm) = some (gvX X ls' lv' (nI (G + N)) cm) ∧ fX3_proof_b226 (fX3_proof_b89L (m + 1)) (nI j) v (gwU M l (nI G) (nI j) (nI K) (-9) 0) = some (nI N, gwU M l' (nI G) (nI N) (nI K) (-9) 0)) ∨
      ∃ w, fX2_carryOutSteps_b67 (fX2_carryOutSteps_b2L n) (nI j) v (gvX X ls lv (nI (G + j)) cm) = some (x_wrongStep_u (gvX X ls' lv' (nI (G + N)) cm) w) ∧ fX3_proof_b226 (fX3_proof_b89L (m + 1)) (nI j) v (gwU M l (nI G) (nI j) (nI K) (-9) 0) = some (nI N, gwU M l' (nI G) (nI N) (nI K) w 0)) := by
      rw [h67, prM_226 M l hG (by omega)]
      obtain ⟨N, ls', lv', l', b1, b2, b3, b4⟩ := ih n (m + 1) (j + 1) (vp_updL ls (G + j) v) (vp_updL lv (G + j) (vals v)) (vp_updL l (G + j) v) (by omega) (by omega) (by omega) (fun i hi => by
        by_cases e : i = G + j
        · subst e
          rw [pk_uLs, pk_uLs, pk_uLs]
          exact ⟨rfl, rfl⟩
        · rw [pk_uLn e, pk_uLn e, pk_uLn e]
          exact h i (by omega))
      refine ⟨N, ls', lv', l', b1, b2, fun i hi => ?_, b4⟩
      rw [b3 i (by omega), pk_uLn (by omega)]
    rw [hX, hM]
    unfold fX2_carryOutSteps_b40 fX3_proof_b202
    by_cases h4 : t_ops t j = 4
    · rw [if_pos h4, i10, if_pos (a3.mp h4), valsX, zB1_t rfl, gx_com, ifl0]
      unfold fX3_isFollowing
      rw [valsM, zB1_t rfl, gw_gcom, hcm, ifl0]
      by_cases h0 : vals v &&& cm = 0
      · rw [if_pos h0, if_pos h0, zB2_t rfl, i10]
        exact hgo
      · rw [if_neg h0, if_neg h0, zB2_t rfl, i00, zL_t, zL_t, gw_w]
        refine ⟨j, ls, lv, l, by omega, h, fun _ _ => rfl, Or.inr ⟨nI j, rfl, ?_⟩⟩
        unfold fX3_proof_b252
        show fX3_proof_b89 (fX3_proof_b89L m) _ _ = _
        unfold fX3_proof_b89
        rw [gw_gwrong, if_neg (n9_nI j (by omega)), gw_gmade, ite_self]
    · rw [if_neg h4, i00, if_neg (fun e => h4 (a3.mpr e))]
      exact hgo
