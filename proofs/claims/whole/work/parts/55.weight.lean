/-! ===== weight, count, type, clear ===== -/
theorem Rel.traced {X : XS} {M : MS} (h : Rel X M) (t : Int64) : Rel (x_traced_u X t) (m_trace_u M t) := by
  obtain ⟨T, G, N, hT, hL, hS, hF, hO⟩ := h
  exact ⟨T, G, N, hT, hL, hS, hF, ⟨hO.1, hO.2.1, hO.2.2.1, hO.2.2.2.1, rfl, hO.2.2.2.2.2⟩⟩
theorem mt_line (M : MS) (t : Int64) : m_line (m_trace_u M t) = m_line M := rfl
theorem xt_u (X : XS) (a b : Int64) : x_traced_u (x_traced_u X a) b = x_traced_u X b := rfl
theorem xt_g (X : XS) (a : Int64) : x_traced (x_traced_u X a) = a := rfl
theorem LnR.tr {X : XS} {M : MS} {G N : Nat} (h : LnR X M G N) (t : Int64) : LnR (x_traced_u X t) M G N := h
theorem sumWX {X : XS} {M : MS} {G N : Nat} (h : LnR X M G N) {i : Nat} (hi : i < G + N) : fX2_sumWeight (nI i) X = some (nI (popc (m_line M i)), x_traced_u X (x_traced X + 1)) := by
  unfold fX2_sumWeight
  rw [zL_t, sumX (h.tr _) hi, zB2_t rfl, countJ, zB1_t rfl]
theorem addWX {X : XS} {M : MS} {G N : Nat} (h : LnR X M G N) {i : Nat} (hi : i < G + N) : fX2_addedWeight (nI i) X = some (nI (popc (m_line M i)) + nI (popc (vals (m_line M i))), x_traced_u X (x_traced X + 11)) := by
  unfold fX2_addedWeight
  rw [zL_t, sumWX (h.tr _) hi, zB2_t rfl, xt_u, sumX (h.tr _) hi, zB2_t rfl, valsX, zB1_t rfl, countJ, zB1_t rfl, xt_g, Int64.add_assoc]
  rfl
theorem raisWX {X : XS} {M : MS} {G N : Nat} (h : LnR X M G N) {i : Nat} (hi : i < G + N) : fX2_raisedWeight (nI i) X = some (nI (popc (m_line M i)) + 2 * (if 0 < dgv (m_line M i) then dgv (m_line M i) else 0), x_traced_u X (x_traced X + 101)) := by
  unfold fX2_raisedWeight
  rw [zL_t, sumWX (h.tr _) hi, zB2_t rfl, xt_u, sumX (h.tr _) hi, zB2_t rfl, degX, zB1_t rfl, xt_g, Int64.add_assoc]
  rfl
theorem deg_pos : ∀ q, q < 7 → (if (0 : Int32) < nI q then nI q else 0) = nI q := by decide +kernel
theorem ok_weight {X : XS} {M : MS} (h : Rel X M) (k a : Int32) : Ok2 (fX2_weight k a X) (fX3_weight k a M) := by
  have h1 := h.thrown
  unfold fX2_weight fX3_weight
  rw [zL_t]
  generalize m_thrown_u M 0 = M1 at h1 ⊢
  obtain ⟨T, G, N, hT, hL, hS, hF, hO⟩ := id h1
  have h8 := hL.1
  have h24 := hL.2.1
  rcases isL hL a with ⟨i, hi, rfl, e1, e2⟩ | ⟨e1, e2⟩
  · rcases below k 4 (by decide) (by decide) with ⟨j, hj, rfl⟩ | hw
    · have hin : fX3_in (nI j) 0 3 = some 1 := in_yes (n := 4) (by decide) hj
      have gi : ∀ {α : Type} (o : Option α), zGI (nI i) 32 o = o := fun o => zGI_t (vp_in_nI (show i < 32 by omega) (by decide))
      simp only [gi]
      rw [e1, e2, zB2_t rfl, i10, hin, zB1_t rfl, i10, zB2_t rfl, i10, nI_clamp (by omega), manyM, zB1_t rfl, valsM, zB1_t rfl, manyM, zB1_t rfl, degM _ _ hO.1, zB2_t rfl]
      have hj4 : j = 0 ∨ j = 1 ∨ j = 2 ∨ j = 3 := by omega
      rcases hj4 with rfl | rfl | rfl | rfl
      · rw [if_pos (show nI 0 = 0 by decide), if_pos (show nI 0 = 0 by decide), sumWX hL hi]
        unfold fX3_weight_b101
        rw [zL_t, if_pos (show nI 0 = 0 by decide), hO.2.2.2.2.1]
        exact ⟨_, _, _, rfl, rfl, h1.traced _⟩
      · rw [if_neg (show ¬ nI 1 = 0 by decide), if_pos (show nI 1 = 1 by decide), if_neg (show ¬ nI 1 = 0 by decide), if_pos (show nI 1 = 1 by decide), addWX hL hi]
        unfold fX3_weight_b101
        rw [zL_t, if_neg (show ¬ nI 1 = 0 by decide), if_pos (show nI 1 = 1 by decide), hO.2.2.2.2.1]
        exact ⟨_, _, _, rfl, rfl, h1.traced _⟩
      · rw [if_neg (show ¬ nI 2 = 0 by decide), if_neg (show ¬ nI 2 = 1 by decide), if_pos (show nI 2 = 2 by decide), if_neg (show ¬ nI 2 = 0 by decide), if_neg (show ¬ nI 2 = 1 by decide), if_pos (show nI 2 = 2 by decide), raisWX hL hi]
        unfold fX3_weight_b101
        rw [zL_t, if_neg (show ¬ nI 2 = 0 by decide), if_neg (show ¬ nI 2 = 1 by decide), if_pos (show nI 2 = 2 by decide), hO.2.2.2.2.1]
        by_cases h0 : m_line M1 i = 0
        · rw [h0, dgv_0, if_pos rfl]
          exact ⟨_, _, _, rfl, rfl, h1.traced _⟩
        · have h7 := dgn_le (m_line M1 i)
          rw [dgv_dgn h0, if_neg (n9_nI _ (by omega)), deg_pos _ (by omega)]
          exact ⟨_, _, _, rfl, rfl, h1.traced _⟩
      · rw [if_neg (show ¬ nI 3 = 0 by decide), if_neg (show ¬ nI 3 = 1 by decide), if_neg (show ¬ nI 3 = 2 by decide), if_pos (show nI 3 = 3 by decide), if_neg (show ¬ nI 3 = 0 by decide), if_neg (show ¬ nI 3 = 1 by decide), if_neg (show ¬ nI 3 = 2 by decide)]
        unfold fX3_weight_b101 fX2_provedWeight
        rw [zL_t, zL_t, if_neg (show ¬ nI 3 = 0 by decide), if_neg (show ¬ nI 3 = 1 by decide), if_neg (show ¬ nI 3 = 2 by decide), gi, addWX (hL.tr _) hi, zB2_t rfl, xt_u, sumX (hL.tr _) hi, zB2_t rfl, xt_g, Int64.add_assoc, hO.2.2.2.2.1]
        obtain ⟨r, X2, M2, c1, c2, c3, -⟩ := leftR (h1.traced (m_trace M1 + 1011)) (m_line M1 i)
        have hl : m_line (m_trace_u M1 (m_trace M1 + 1011)) (nI i).toNatClampNeg = m_line M1 i := by rw [nI_clamp (by omega), mt_line]
        rw [hl, show (1000 : Int64) + 11 = 1011 by decide, c1, c2, zB2_t rfl, zB2_t rfl, countJ, zB1_t rfl, manyM, zB1_t rfl]
        exact ⟨_, _, _, rfl, rfl, c3⟩
    · have hin : fX3_in k 0 3 = some 0 := in_no (n := 4) hw
      rw [e1, zB2_t rfl, i10, hin, zB1_t rfl, i00]
      refine ⟨-100, X, M1, ?_, rfl, h1⟩
      have hne : ∀ q, q < 4 → ¬ k = nI q := fun q hq e => by
        rw [e] at hw
        rcases hw with hw | ⟨-, hw, -⟩
        · exact nI_pos (by omega) hw
        · exact nI_ge hq (by decide) hw
      rw [if_neg (show ¬ k = 0 from hne 0 (by decide)), if_neg (show ¬ k = 1 from hne 1 (by decide)), if_neg (show ¬ k = 2 from hne 2 (by decide)), if_neg (show ¬ k = 3 from hne 3 (by decide))]
  · rw [e1, zB2_t rfl, i00]
    refine ⟨-100, X, M1, rfl, ?_, h1⟩
    rcases below k 4 (by decide) (by decide) with ⟨j, hj, rfl⟩ | hw
    · have hin : fX3_in (nI j) 0 3 = some 1 := in_yes (n := 4) (by decide) hj
      rw [hin, zB1_t rfl, i10, e2]
      rfl
    · have hin : fX3_in k 0 3 = some 0 := in_no (n := 4) hw
      rw [hin]
      rfl
theorem ok_count {X : XS} {M : MS} (h : Rel X M) (a : Int32) : Ok2 (fX2_count a X) (fX3_count a M) := by
  have h1 := h.thrown
  unfold fX2_count fX3_count
  rw [zL_t]
  generalize m_thrown_u M 0 = M1 at h1 ⊢
  obtain ⟨T, G, N, hT, hL, hS, hF, hO⟩ := id h1
  have hM : fX3_count_b9L zF a 0 0 M1 = fX3_count_b9L 1 a (nI (bsz (m_standing M1) 64)) (nI 64) M1 := bsM_l M1 a 64 zF 0 (by omega) (by decide)
  rw [hM]
  show Ok2 _ (fX3_count_b9 (fX3_count_b9L 0) _ _ _ _)
  unfold fX3_count_b9
  rw [if_pos (show (64 : Int32) ≤ nI 64 by decide)]
  by_cases h0 : a = 0
  · rw [if_pos h0, if_pos h0, hL.2.2.1, hL.2.2.2.1]
    exact ⟨_, _, _, rfl, rfl, h1⟩
  rw [if_neg h0, if_neg h0]
  by_cases h2 : a = 1
  · rw [if_pos h2, if_pos h2, hL.2.2.2.2.1, hL.2.2.1, hL.2.2.2.2.2.1, pk_sub (by omega), show G + N - G = N by omega]
    exact ⟨_, _, _, rfl, rfl, h1⟩
  rw [if_neg h2, if_neg h2]
  by_cases h3 : a = 2
  · rw [if_pos h3, if_pos h3, hO.2.1]
    exact ⟨_, _, _, rfl, rfl, h1⟩
  rw [if_neg h3, if_neg h3]
  by_cases h4 : a = 3
  · obtain ⟨X', b1, b2⟩ := standR h1
    have hX : fX2_baseSize X = some (nI (bsz (m_standing M1) 64), X') := by
      unfold fX2_baseSize
      rw [b1, zB2_t rfl]
      exact bsX_l X' (m_standing M1) 64 zF 0 (by omega) (by decide)
    rw [if_pos h4, if_pos h4, hX]
    exact ⟨_, _, _, rfl, rfl, b2⟩
  rw [if_neg h4, if_neg h4]
  by_cases h5 : a = 4
  · obtain ⟨X', b1, b2⟩ := standR h1
    rw [if_pos h5, if_pos h5, b1, zB2_t rfl, countJ, zB1_t rfl, manyM, zB1_t rfl]
    exact ⟨_, _, _, rfl, rfl, b2⟩
  rw [if_neg h5, if_neg h5]
  by_cases h6 : a = 5
  · rw [if_pos h6, if_pos h6, hO.2.2.2.1, hS.1, countJ, zB1_t rfl, manyM, zB1_t rfl]
    exact ⟨_, _, _, rfl, rfl, h1⟩
  rw [if_neg h6, if_neg h6]
  by_cases h7 : a = 6
  · rw [if_pos h7, if_pos h7, hT.2.1, hT.2.2.1]
    exact ⟨_, _, _, rfl, rfl, h1⟩
  rw [if_neg h7, if_neg h7]
  exact ⟨_, _, _, rfl, rfl, h1⟩
/-! type, clear -/
def typU (M : MS) (tx : Nat → Int32) (n : Int32) : MS := (m_thrown M, m_trace M, m_order M, tx, n, m_next M, m_token M, m_place M, m_value M, m_fault M, m_given M, m_made M, m_steps M, m_wrongStep M, m_line M, m_draft M, m_step M, m_claimed M, m_common M, m_standing M, m_vector M, m_made0 M, m_vectors M, m_rests M, m_led M, m_isLed M, m_isDone M)
theorem ty_text (M : MS) (tx : Nat → Int32) (n : Int32) : m_text (typU M tx n) = tx := rfl
theorem ty_typed (M : MS) (tx : Nat → Int32) (n : Int32) : m_typed (typU M tx n) = n := rfl
theorem ty_ut (M : MS) (tx t2 : Nat → Int32) (n : Int32) : m_text_u (typU M tx n) t2 = typU M t2 n := rfl
theorem ty_un (M : MS) (tx : Nat → Int32) (n n2 : Int32) : m_typed_u (typU M tx n) n2 = typU M tx n2 := rfl
theorem ty_id (M : MS) : typU M (m_text M) (m_typed M) = M := rfl
def txX (t : TS) (bs : Nat → Int32) (n : Int32) : TS := (bs, n, t_place t, t_start t, t_token t, t_meaning t, t_told t, t_sums t, t_ops t, t_firsts t, t_seconds t)
theorem tx_id (t : TS) : txX t (t_bytes t) (t_length t) = t := rfl
theorem rel_text {X : XS} {M : MS} {G N T : Nat} {t : TS} {tx : Nat → Int32} {n : Int32} (hL : LnR X M G N) (hS : StR M G) (hF : FlR X M G) (hO : OtR X M G) (hT : TxR (x_text_u X t) (typU M tx n) T) : Rel (x_text_u X t) (typU M tx n) := ⟨T, G, N, hT, hL, hS, hF, hO⟩
theorem t255 : ∀ k, k < 64 → 8 ≤ k → tb 255 k = false := by decide +kernel
theorem octets (v : Int64) {j : Nat} (hj : j < 8) : ∃ b, b < 256 ∧ ((zLushr v ((8 : Int32) * nI j)).toInt32 &&& 255) = nI b ∧ ((v >>> (((8 : Int32) * nI j).toInt64 &&& 63)) &&& 255).toInt32 = nI b := by
  have e8 : (8 : Int32) * nI j = nI (8 * j) := pk_mul 8 j
  have he : (v >>> ((nI (8 * j)).toInt64 &&& 63)) &&& 255 = zLushr v (nI (8 * j)) &&& 255 := by
    apply tb_ext
    intro k hk
    rw [tb_and, tb_and, tb_sshr _ (by omega) _ hk, tb_ushr _ (by omega)]
    rcases Nat.lt_or_ge k 8 with q | q
    · rw [if_pos (by omega)]
    · rw [t255 k hk q, Bool.and_false, Bool.and_false]
  obtain ⟨b, hb, e⟩ := pk_andE (zLushr v (nI (8 * j))).toInt32 (m := 255) 8 (by decide)
  refine ⟨b, hb, by rw [e8, e], ?_⟩
  rw [e8, he, Int64.toInt32_and]
  exact e
theorem type_l (X : XS) (M : MS) (G N : Nat) (v : Int64) (t : TS) (hL : LnR X M G N) (hS : StR M G) (hF : FlR X M G) (hO : OtR X M G) : ∀ (j n m T : Nat) (bs tx : Nat → Int32), j ≤ 8 → j < n → j < m → T + j ≤ 400 → (∀ k, k < T → ∃ b, b < 256 ∧ bs k = nI b ∧ tx k = nI b) →
    Ok2 (fX2_type_b36L n v (nI j + (-1)) (x_text_u X (txX t bs (nI T)))) (fX3_type_b37L m v (nI j + (-1)) (typU M tx (nI T))) := by
  intro j
  induction j with
  | zero =>
    intro n m T bs tx hj hn hm hT hb
    obtain ⟨n, rfl⟩ : ∃ q, n = q + 1 := ⟨n - 1, by omega⟩
    obtain ⟨m, rfl⟩ : ∃ q, m = q + 1 := ⟨m - 1, by omega⟩
    refine ⟨nI T, x_text_u X (txX t bs (nI T)), typU M tx (nI T), ?_, ?_, rel_text hL hS hF hO ⟨by omega, rfl, rfl, hb⟩⟩
    · show fX2_type_b36 (fX2_type_b36L n) _ _ _ = _
      unfold fX2_type_b36
      rw [if_pos (by decide)]
      rfl
    · show fX3_type_b37 (fX3_type_b37L m) _ _ _ = _
      unfold fX3_type_b37
      rw [if_pos (by decide)]
      rfl
  | succ j ih =>
    intro n m T bs tx hj hn hm hT hb
    obtain ⟨n, rfl⟩ : ∃ q, n = q + 1 := ⟨n - 1, by omega⟩
    obtain ⟨m, rfl⟩ : ∃ q, m = q + 1 := ⟨m - 1, by omega⟩
    obtain ⟨b, hb256, e1, e2⟩ := octets v (show j < 8 by omega)
    have hX : fX2_type_b36L (n + 1) v (nI (j + 1) + (-1)) (x_text_u X (txX t bs (nI T))) = fX2_type_b36L n v (nI j + (-1)) (x_text_u X (txX t (upd bs T (nI b)) (nI (T + 1)))) := by
      show fX2_type_b36 (fX2_type_b36L n) _ _ _ = _
      unfold fX2_type_b36 fX1_append
      rw [pk_m1, if_neg (nI_pos (show j < 2 ^ 31 by omega)), e1, show t_length (x_text (x_text_u X (txX t bs (nI T)))) = nI T from rfl, if_neg (nI_pos (show T < 2 ^ 31 by omega)), if_neg (show ¬ (400 : Int32) ≤ nI T from nI_ge (show T < 400 by omega) (by decide)), zGI_t (vp_in_nI (show T < 400 by omega) (by decide)), zL_t, zL_t, nI_clamp (show T < 2 ^ 31 by omega), zB1_t rfl, zL_t]
      show fX2_type_b36L n v (nI j + (-1)) (x_text_u X (txX t (upd bs T (nI b)) (nI T + 1))) = _
      rw [nI_1]
    have hM : fX3_type_b37L (m + 1) v (nI (j + 1) + (-1)) (typU M tx (nI T)) = fX3_type_b37L m v (nI j + (-1)) (typU M (upd tx T (nI b)) (nI (T + 1))) := by
      show fX3_type_b37 (fX3_type_b37L m) _ _ _ = _
      unfold fX3_type_b37
      rw [pk_m1, if_neg (nI_pos (show j < 2 ^ 31 by omega)), ty_typed, zGI_t (vp_in_nI (show T < 400 by omega) (by decide)), zL_t, ty_text, ty_ut, zL_t, ty_typed, ty_un, nI_clamp (show T < 2 ^ 31 by omega), e2, nI_1]
    rw [hX, hM]
    refine ih n m (T + 1) _ _ (by omega) (by omega) (by omega) (by omega) (fun k hk => ?_)
    by_cases e : k = T
    · subst e
      exact ⟨b, hb256, pk_us, pk_us⟩
    · rw [pk_un e, pk_un e]
      exact hb k (by omega)
theorem ok_type {X : XS} {M : MS} (h : Rel X M) (v : Int64) (a : Int32) : Ok2 (fX2_type v a X) (fX3_type v a M) := by
  have h1 := h.thrown
  unfold fX2_type fX3_type
  rw [zL_t]
  generalize m_thrown_u M 0 = M1 at h1 ⊢
  obtain ⟨T, G, N, hT, hL, hS, hF, hO⟩ := id h1
  have h4 := hT.1
  rcases pk_ix a (n := 9) (by decide) with q | q | ⟨j, hj, rfl⟩
  · have hlt : a < 1 := Int32.lt_of_lt_of_le q (by decide)
    unfold fX3_in
    rw [if_pos hlt, if_pos hlt, zB1_t rfl, i00]
    exact ⟨-1, X, M1, rfl, rfl, h1⟩
  · have hge : ¬ a < 1 := fun z => absurd (Int32.lt_of_le_of_lt q z) (by decide)
    have h8 : (8 : Int32) < a := Int32.lt_of_lt_of_le (by decide : (8 : Int32) < nI 9) q
    unfold fX3_in
    rw [if_neg hge, if_neg (show ¬ a ≤ 8 from fun z => absurd (Int32.lt_of_lt_of_le h8 z) Int32.lt_irrefl), if_neg hge, if_pos h8, zB1_t rfl, i00]
    exact ⟨-1, X, M1, rfl, rfl, h1⟩
  · cases j with
    | zero =>
      unfold fX3_in
      rw [if_pos (by decide), if_pos (by decide), zB1_t rfl, i00]
      exact ⟨-1, X, M1, rfl, rfl, h1⟩
    | succ j =>
      have hge : ¬ nI (j + 1) < 1 := nI_nlt (a := j + 1) (b := 1) (by omega) (by omega)
      have h8 : nI (j + 1) ≤ 8 := nI_le (a := j + 1) (b := 8) (by omega) (by decide)
      have h8' : ¬ (8 : Int32) < nI (j + 1) := nI_nlt (a := 8) (b := j + 1) (by omega) (by decide)
      unfold fX3_in
      rw [if_neg hge, if_pos h8, hT.2.1, nI_add, if_neg hge, if_neg h8', zB1_t rfl, i10, hT.2.2.1, nI_add]
      by_cases hle : T + (j + 1) ≤ 400
      · have h400 : nI (T + (j + 1)) ≤ 400 := nI_le (b := 400) hle (by decide)
        rw [if_pos h400, if_pos h400, show nI (j + 1) - 1 = nI (j + 1) + (-1) from by rw [nI_pred, pk_m1]]
        have := type_l X M1 G N v (x_text X) hL hS hF hO (j + 1) zF zF T (t_bytes (x_text X)) (m_text M1) (by omega) (by unfold zF; omega) (by unfold zF; omega) hle hT.2.2.2
        rw [← hT.2.1, tx_id, hT.2.1, ← hT.2.2.1, ty_id] at this
        exact this
      · have h400 : ¬ nI (T + (j + 1)) ≤ 400 := nI_ge (b := T + (j + 1)) (a := 400) (by omega) (by omega)
        rw [if_neg h400, if_neg h400]
        exact ⟨-3, X, M1, rfl, rfl, h1⟩
theorem ok_clear {X : XS} {M : MS} (h : Rel X M) : Ok2 (fX2_clear X) (fX3_clear M) := by
  have h1 := h.thrown
  unfold fX2_clear fX3_clear
  rw [zL_t, zL_t]
  generalize m_thrown_u M 0 = M1 at h1 ⊢
  obtain ⟨T, G, N, hT, hL, hS, hF, hO⟩ := id h1
  rw [zL_t, hT.2.1, hT.2.2.1]
  refine ⟨nI T, _, _, rfl, rfl, ?_⟩
  exact ⟨0, G, N, ⟨by omega, rfl, rfl, fun k hk => absurd hk (by omega)⟩, hL, hS, hF, hO⟩
