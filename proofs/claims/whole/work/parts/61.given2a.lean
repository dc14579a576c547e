/-! ===== given(): what becomes of the sums ===== -/
def gvX (X : XS) (ls lv : Nat → Int64) (n : Int32) (cm : Int64) : XS := (x_text X, ls, lv, n, x_givenLines X, x_steps X, x_wrongStep X, cm, x_traced X, x_following X, x_followingStands X, x_grown X, x_grownStands X)
theorem gx_lines (X : XS) (ls lv : Nat → Int64) (n : Int32) (cm : Int64) : x_lines (gvX X ls lv n cm) = n := rfl
theorem gx_sums (X : XS) (ls lv : Nat → Int64) (n : Int32) (cm : Int64) : x_lineSums (gvX X ls lv n cm) = ls := rfl
theorem gx_vals (X : XS) (ls lv : Nat → Int64) (n : Int32) (cm : Int64) : x_lineValues (gvX X ls lv n cm) = lv := rfl
theorem gx_text (X : XS) (ls lv : Nat → Int64) (n : Int32) (cm : Int64) : x_text (gvX X ls lv n cm) = x_text X := rfl
theorem gx_com (X : XS) (ls lv : Nat → Int64) (n : Int32) (cm : Int64) : x_commonWorlds (gvX X ls lv n cm) = cm := rfl
theorem gx_given (X : XS) (ls lv : Nat → Int64) (n : Int32) (cm : Int64) : x_givenLines (gvX X ls lv n cm) = x_givenLines X := rfl
theorem gx_steps (X : XS) (ls lv : Nat → Int64) (n : Int32) (cm : Int64) : x_steps (gvX X ls lv n cm) = x_steps X := rfl
theorem gx_us (X : XS) (ls lv l2 : Nat → Int64) (n : Int32) (cm : Int64) : x_lineSums_u (gvX X ls lv n cm) l2 = gvX X l2 lv n cm := rfl
theorem gx_uv (X : XS) (ls lv l2 : Nat → Int64) (n : Int32) (cm : Int64) : x_lineValues_u (gvX X ls lv n cm) l2 = gvX X ls l2 n cm := rfl
theorem gx_ul (X : XS) (ls lv : Nat → Int64) (n n2 : Int32) (cm : Int64) : x_lines_u (gvX X ls lv n cm) n2 = gvX X ls lv n2 cm := rfl
theorem gx_uc (X : XS) (ls lv : Nat → Int64) (n : Int32) (cm c2 : Int64) : x_commonWorlds_u (gvX X ls lv n cm) c2 = gvX X ls lv n c2 := rfl
theorem gx_id (X : XS) : gvX X (x_lineSums X) (x_lineValues X) (x_lines X) (x_commonWorlds X) = X := rfl
theorem appX (X : XS) (ls lv : Nat → Int64) {j : Nat} (hj : j < 32) (cm v : Int64) : fX2_appendLine v (gvX X ls lv (nI j) cm) = some (gvX X (vp_updL ls j v) (vp_updL lv j (vals v)) (nI (j + 1)) cm) := by
  unfold fX2_appendLine
  rw [gx_lines, if_neg (nI_pos (by omega)), if_neg (show ¬ (32 : Int32) ≤ nI j from nI_ge hj (by decide)), zGI_t (vp_in_nI hj (by decide)), zL_t, gx_sums, gx_us, valsX, zB1_t rfl, gx_lines, zGI_t (vp_in_nI hj (by decide)), zL_t, gx_vals, gx_uv, zL_t, gx_lines, gx_ul, nI_clamp (by omega), nI_1]
theorem givX_l (X : XS) (k : Nat) (hk : k ≤ 8) (hto : t_told (x_text X) = nI k) : ∀ (d n j : Nat) (ls lv : Nat → Int64), j + d = k → d < n → (∀ i, i < j → ls i = t_sums (x_text X) i ∧ lv i = vals (t_sums (x_text X) i)) →
    ∃ ls' lv', fX2_given_b44L n (nI j) (gvX X ls lv (nI j) (cmn (t_sums (x_text X)) j)) = fX2_given_b105 (gvX X ls' lv' (nI k) (cmn (t_sums (x_text X)) k)) ∧ ∀ i, i < k → ls' i = t_sums (x_text X) i ∧ lv' i = vals (t_sums (x_text X) i) := by
  intro d
  induction d with
  | zero =>
    intro n j ls lv hj hn h
    obtain ⟨n, rfl⟩ : ∃ z, n = z + 1 := ⟨n - 1, by omega⟩
    have : j = k := by omega
    subst this
    refine ⟨ls, lv, ?_, h⟩
    show fX2_given_b44 (fX2_given_b44L n) _ _ = _
    unfold fX2_given_b44
    rw [gx_text, hto, if_pos (nI_le (Nat.le_refl j) (by omega))]
  | succ d ih =>
    intro n j ls lv hj hn h
    obtain ⟨n, rfl⟩ : ∃ z, n = z + 1 := ⟨n - 1, by omega⟩
    show ∃ ls' lv', fX2_given_b44 (fX2_given_b44L n) _ _ = _ ∧ _
    unfold fX2_given_b44
    rw [gx_text, hto, if_neg (nI_ge (by omega) (by omega)), if_neg (show ¬ (8 : Int32) ≤ nI j from nI_ge (show j < 8 by omega) (by decide)), zGI_t (vp_in_nI (show j < 24 by omega) (by decide)), nI_clamp (by omega), appX X ls lv (show j < 32 by omega), zB1_t rfl, zGI_t (vp_in_nI (show j < 24 by omega) (by decide)), gx_text, valsX, zB1_t rfl, zL_t, gx_com, gx_uc, nI_1]
    refine ih n (j + 1) _ _ (by omega) (by omega) (fun i hi => ?_)
    by_cases e : i = j
    · subst e
      rw [pk_uLs, pk_uLs]
      exact ⟨rfl, rfl⟩
    · rw [pk_uLn e, pk_uLn e]
      exact h i (by omega)
def gfX (X : XS) (ls lv : Nat → Int64) (n : Int32) (cm : Int64) : XS := (x_text X, ls, lv, n, n, x_steps X, x_wrongStep X, cm, x_traced X, x_following X, 0, x_grown X, 0)
theorem giv105 (X : XS) (ls lv : Nat → Int64) (n : Int32) (cm : Int64) : fX2_given_b105 (gvX X ls lv n cm) = some (n, gfX X ls lv n cm) := rfl
/-! the model -/
def gvU (M : MS) (l : Nat → Int64) (k : Int32) : MS := (m_thrown M, m_trace M, m_order M, m_text M, 0, m_next M, m_token M, m_place M, m_value M, m_fault M, k, 0, 0, -9, l, m_draft M, m_step M, m_claimed M, m_common M, m_standing M, m_vector M, m_made0 M, m_vectors M, m_rests M, m_led M, m_isLed M, m_isDone M)
def gwU (M : MS) (l : Nat → Int64) (k ma sp wr ty : Int32) : MS := (m_thrown M, m_trace M, m_order M, m_text M, ty, m_next M, m_token M, m_place M, m_value M, m_fault M, k, ma, sp, wr, l, m_draft M, m_step M, m_claimed M, m_common M, m_standing M, m_vector M, m_made0 M, m_vectors M, m_rests M, m_led M, m_isLed M, m_isDone M)
theorem gw_0 (M : MS) (l : Nat → Int64) : m_line_u M l = gwU M l (m_given M) (m_made M) (m_steps M) (m_wrongStep M) (m_typed M) := rfl
theorem gw_g (M : MS) (l : Nat → Int64) (k ma sp wr ty z : Int32) : m_given_u (gwU M l k ma sp wr ty) z = gwU M l z ma sp wr ty := rfl
theorem gw_m (M : MS) (l : Nat → Int64) (k ma sp wr ty z : Int32) : m_made_u (gwU M l k ma sp wr ty) z = gwU M l k z sp wr ty := rfl
theorem gw_s (M : MS) (l : Nat → Int64) (k ma sp wr ty z : Int32) : m_steps_u (gwU M l k ma sp wr ty) z = gwU M l k ma z wr ty := rfl
theorem gw_w (M : MS) (l : Nat → Int64) (k ma sp wr ty z : Int32) : m_wrongStep_u (gwU M l k ma sp wr ty) z = gwU M l k ma sp z ty := rfl
theorem gw_t (M : MS) (l : Nat → Int64) (k ma sp wr ty z : Int32) : m_typed_u (gwU M l k ma sp wr ty) z = gwU M l k ma sp wr z := rfl
theorem gw_e (M : MS) (l : Nat → Int64) (k : Int32) : gwU M l k 0 0 (-9) 0 = gvU M l k := rfl
theorem ml_draft (M : MS) (l : Nat → Int64) : m_draft (m_line_u M l) = m_draft M := rfl
theorem ml_line (M : MS) (l : Nat → Int64) : m_line (m_line_u M l) = l := rfl
theorem ml_u (M : MS) (l l2 : Nat → Int64) : m_line_u (m_line_u M l) l2 = m_line_u M l2 := rfl
theorem ml_id (M : MS) : m_line_u M (m_line M) = M := rfl
theorem givM_l (M : MS) (k : Nat) (hk : k ≤ 8) : ∀ (d m i : Nat) (l : Nat → Int64), i + d = k → d < m → (∀ j, j < i → l j = m_draft M j) →
    ∃ l', fX3_given_b91L m (nI k) (nI i) (m_line_u M l) = zB1 (fX3_stands (gvU M l' (nI k))) (fun S => some (m_given S, S)) ∧ ∀ j, j < k → l' j = m_draft M j := by
  intro d
  induction d with
  | zero =>
    intro m i l hi hm h
    obtain ⟨m, rfl⟩ : ∃ z, m = z + 1 := ⟨m - 1, by omega⟩
    have : i = k := by omega
    subst this
    refine ⟨l, ?_, h⟩
    show fX3_given_b91 (fX3_given_b91L m) _ _ _ = _
    unfold fX3_given_b91
    rw [if_pos (nI_le (Nat.le_refl i) (by omega)), zL_t, zL_t, zL_t, zL_t, zL_t, gw_0, gw_g, gw_m, gw_s, gw_w, gw_t, gw_e]
  | succ d ih =>
    intro m i l hi hm h
    obtain ⟨m, rfl⟩ : ∃ z, m = z + 1 := ⟨m - 1, by omega⟩
    show ∃ l', fX3_given_b91 (fX3_given_b91L m) _ _ _ = _ ∧ _
    unfold fX3_given_b91
    rw [if_neg (nI_ge (by omega) (by omega)), zGI_t (vp_in_nI (show i < 8 by omega) (by decide)), zGI_t (vp_in_nI (show i < 32 by omega) (by decide)), zL_t, ml_draft, ml_line, ml_u, nI_clamp (by omega), nI_1]
    refine ih m (i + 1) _ (by omega) (by omega) (fun j hj => ?_)
    by_cases e : j = i
    · subst e
      exact pk_uLs
    · rw [pk_uLn e]
      exact h j (by omega)
/-! both -/
theorem TB.of {X : XS} {M : MS} {T : Nat} (h : TxR X M T) : TB (x_text X) M T (fun k => (t_bytes (x_text X) k).toNatClampNeg) := by
  obtain ⟨h1, h2, h3, h4⟩ := h
  refine ⟨h1, h2, h3, fun k hk => ?_⟩
  obtain ⟨b, hb, e1, e2⟩ := h4 k hk
  have : (t_bytes (x_text X) k).toNatClampNeg = b := by rw [e1, nI_clamp (by omega)]
  show (t_bytes (x_text X) k).toNatClampNeg < 256 ∧ t_bytes (x_text X) k = nI (t_bytes (x_text X) k).toNatClampNeg ∧ m_text M k = nI (t_bytes (x_text X) k).toNatClampNeg
  rw [this]
  exact ⟨hb, e1, e2⟩
theorem Rel.reread {X : XS} {M M' : MS} (h : Rel X M) {t : TS} (ht : SameT (x_text X) t) (hm : SameM M M') : Rel (x_text_u X t) M' := by
  obtain ⟨T, G, N, hT, hL, hS, hF, hO⟩ := h.same hm
  refine ⟨T, G, N, ⟨hT.1, ht.2.trans hT.2.1, hT.2.2.1, fun k hk => ?_⟩, hL, hS, hF, hO⟩
  show ∃ b, b < 256 ∧ t_bytes t k = nI b ∧ _
  rw [ht.1]
  exact hT.2.2.2 k hk
theorem nm1 {s : Nat} (hs : s ≤ 400) : ¬ nI s = -1 := fun e => by
  have h := nI_pos (show s < 2 ^ 31 by omega)
  rw [e] at h
  exact h (by decide)
theorem begX (t : TS) : fX1_begin t = fX1_next (pX (t_told_u t 0) (nI 0) (t_start t) (t_token t) (t_meaning t)) := by
  unfold fX1_begin
  rw [zL_t, zL_t, zB1_some]
  rfl
theorem begM (M : MS) : fX3_begins M = fX3_advances (pM (m_fault_u M (-1)) (nI 0) (m_token M) (m_place M) (m_value M)) := by
  unfold fX3_begins
  rw [zL_t, zL_t, zB1_some]
  rfl
def xU (X : XS) (t : TS) (n gl st wr : Int32) (cm : Int64) : XS := (t, x_lineSums X, x_lineValues X, n, gl, st, wr, cm, x_traced X, x_following X, x_followingStands X, x_grown X, x_grownStands X)
theorem xu_0 (X : XS) (t : TS) : x_text_u X t = xU X t (x_lines X) (x_givenLines X) (x_steps X) (x_wrongStep X) (x_commonWorlds X) := rfl
theorem xu_t (X : XS) (t t2 : TS) (n gl st wr : Int32) (cm : Int64) : x_text_u (xU X t n gl st wr cm) t2 = xU X t2 n gl st wr cm := rfl
theorem xu_n (X : XS) (t : TS) (n gl st wr : Int32) (cm : Int64) (z : Int32) : x_lines_u (xU X t n gl st wr cm) z = xU X t z gl st wr cm := rfl
theorem xu_s (X : XS) (t : TS) (n gl st wr : Int32) (cm : Int64) (z : Int32) : x_steps_u (xU X t n gl st wr cm) z = xU X t n gl z wr cm := rfl
theorem xu_w (X : XS) (t : TS) (n gl st wr : Int32) (cm : Int64) (z : Int32) : x_wrongStep_u (xU X t n gl st wr cm) z = xU X t n gl st z cm := rfl
theorem xu_c (X : XS) (t : TS) (n gl st wr : Int32) (cm z : Int64) : x_commonWorlds_u (xU X t n gl st wr cm) z = xU X t n gl st wr z := rfl
theorem xu_gt (X : XS) (t : TS) (n gl st wr : Int32) (cm : Int64) : x_text (xU X t n gl st wr cm) = t := rfl
theorem xu_gg (X : XS) (t : TS) (n gl st wr : Int32) (cm : Int64) : x_givenLines (xU X t n gl st wr cm) = gl := rfl
theorem xu_gn (X : XS) (t : TS) (n gl st wr : Int32) (cm : Int64) : x_lines (xU X t n gl st wr cm) = n := rfl
theorem xu_drop (X : XS) (t : TS) (n gl st wr : Int32) (cm : Int64) : fX2_dropProof (xU X t n gl st wr cm) = some (xU X t n gl 0 (-9) cm) := by
  unfold fX2_dropProof
  rw [zL_t, zL_t, xu_s, xu_w]
theorem xu_gv (X : XS) (t : TS) (n gl st wr : Int32) (cm : Int64) : xU X t n gl st wr cm = gvX (xU X t n gl st wr cm) (x_lineSums X) (x_lineValues X) n cm := rfl
theorem rel_given {X : XS} {t : TS} {M : MS} {gl : Int32} {ls lv l : Nat → Int64} {k : Nat} {cm st rs : Int64} {vec mk : Nat → Int64} {n : Nat} {pv : Nat → Nat} {P : Int64} (hk : k ≤ 8) (hO : OrdOk M) (htr : x_traced X = m_trace M) (hst : ∀ s, s < 24 → ∃ a, a < 32 ∧ m_step M (3 * s + 1) = nI a) (hcm : cm = cmn l k) (hls : ∀ i, i < k + 0 → ls i = l i ∧ lv i = vals (l i)) (hI : StI (cmn l k) st vec mk n 64 pv P) : Rel (gfX (xU X (t_length_u t 0) 0 gl 0 (-9) (-1)) ls lv (nI k) cm) (stdU (gvU M l (nI k)) (cmn l k) st vec mk (nI n) rs) :=
  ⟨0, k, 0, ⟨Nat.zero_le 400, rfl, rfl, fun j hj => absurd hj (Nat.not_lt_zero j)⟩, ⟨hk, Nat.zero_le 24, rfl, rfl, rfl, rfl, hls⟩, ⟨rfl, n, pv, P, rfl, hI⟩, ⟨Or.inl rfl, Or.inl rfl⟩, ⟨hO, rfl, rfl, hcm, htr, hst⟩⟩
