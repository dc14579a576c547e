/-! ===== the class's Span, the model's led: what their methods do ===== -/
theorem zB1_some {α : Type} (o : Option α) : zB1 o (fun x => some x) = o := by cases o <;> rfl
def ldX (S : SS) (p : Nat) : Bool := tb (s_leads S) p
theorem redX_l (S : SS) : ∀ (j n : Nat) (v : Int64), j ≤ 64 → j < n → fX0_reduced_b6L n v (nI j + (-1)) S = some (rdn (ldX S) (s_rows S) j v, S) := by
  intro j
  induction j with
  | zero =>
    intro n v _ hn
    obtain ⟨n, rfl⟩ : ∃ k, n = k + 1 := ⟨n - 1, by omega⟩
    show fX0_reduced_b6 (fX0_reduced_b6L n) _ _ _ = _
    unfold fX0_reduced_b6
    rw [if_pos (by decide)]
    rfl
  | succ j ih =>
    intro n v hj hn
    obtain ⟨n, rfl⟩ : ∃ k, n = k + 1 := ⟨n - 1, by omega⟩
    show fX0_reduced_b6 (fX0_reduced_b6L n) _ _ _ = _
    unfold fX0_reduced_b6
    have hj' : j < 64 := by omega
    rw [pk_m1, if_neg (nI_pos (by omega)), zGI_t (vp_in_nI hj' (by decide)), nI_clamp (by omega), zOrd_ord j hj', hasX v (ord_lt j hj')]
    show (if b2i (tb v (ord j)) = 0 then _ else _) = _
    rw [rdn]
    unfold stp
    cases ht : tb v (ord j)
    · rw [if_pos (by decide)]
      unfold fX0_reduced_b50
      rw [ih n v (by omega) (by omega)]
      rfl
    · rw [if_neg (by decide), hasX _ (ord_lt j hj')]
      show (if b2i (tb (s_leads S) (ord j)) = 0 then _ else _) = _
      cases hl : tb (s_leads S) (ord j)
      · rw [if_pos (by decide)]
        unfold fX0_reduced_b50
        rw [ih n v (by omega) (by omega)]
        unfold ldX
        rw [hl]
        rfl
      · rw [if_neg (by decide), zGI_t (vp_in_nI (ord_lt j hj') (by decide)), ord_cl j hj', zL_t]
        unfold fX0_reduced_b50
        rw [ih n _ (by omega) (by omega)]
        unfold ldX
        rw [hl]
        rfl
theorem redX (S : SS) (v : Int64) : fX0_reduced v S = some (rdn (ldX S) (s_rows S) 64 v, S) := redX_l S 64 zF v (by omega) (by decide)
theorem addX_l (S : SS) (lv : Int32) : ∀ (j n : Nat) (v : Int64), j ≤ 64 → j < n → fX0_add_b7L n lv v (nI j + (-1)) S = (match trn (ldX S) (s_rows S) j v with
    | none => some S
    | some (i, y) => fX0_keep (nI (ord i)) y lv S) := by
  intro j
  induction j with
  | zero =>
    intro n v _ hn
    obtain ⟨n, rfl⟩ : ∃ k, n = k + 1 := ⟨n - 1, by omega⟩
    show fX0_add_b7 (fX0_add_b7L n) _ _ _ _ = _
    unfold fX0_add_b7
    rw [if_pos (by decide)]
    rfl
  | succ j ih =>
    intro n v hj hn
    obtain ⟨n, rfl⟩ : ∃ k, n = k + 1 := ⟨n - 1, by omega⟩
    show fX0_add_b7 (fX0_add_b7L n) _ _ _ _ = _
    unfold fX0_add_b7
    have hj' : j < 64 := by omega
    rw [pk_m1, if_neg (nI_pos (by omega)), ifl0]
    by_cases h0 : v = 0
    · subst h0
      rw [if_pos rfl, trn_0]
    · rw [if_neg h0, zGI_t (vp_in_nI hj' (by decide)), nI_clamp (by omega), zOrd_ord j hj', hasX v (ord_lt j hj')]
      show (if b2i (tb v (ord j)) = 0 then _ else _) = _
      rw [trn]
      cases ht : tb v (ord j)
      · rw [if_pos (by decide)]
        unfold fX0_add_b71
        rw [ih n v (by omega) (by omega)]
        rfl
      · rw [if_neg (by decide), hasX _ (ord_lt j hj')]
        show (if b2i (tb (s_leads S) (ord j)) = 0 then _ else _) = _
        cases hl : tb (s_leads S) (ord j)
        · rw [if_pos (by decide), zB1_some]
          unfold ldX
          rw [hl]
          rfl
        · rw [if_neg (by decide), zGI_t (vp_in_nI (ord_lt j hj') (by decide)), ord_cl j hj', zL_t]
          unfold fX0_add_b71
          rw [ih n _ (by omega) (by omega)]
          unfold ldX
          rw [hl]
          rfl
theorem addX (S : SS) (lv : Int32) (v : Int64) : fX0_add v lv S = (match trn (ldX S) (s_rows S) 64 v with
    | none => some S
    | some (i, y) => fX0_keep (nI (ord i)) y lv S) := addX_l S lv 64 zF v (by omega) (by decide)
def mx (a b : Int32) : Int32 := if a < b then b else a
def lvl (ld : Nat → Bool) (rw : Nat → Int64) (lev : Nat → Int32) : Nat → Int64 → Int32 → Int32
  | 0, _, l => l
  | n + 1, x, l => if x = 0 then l else if tb x (ord n) then (if ld (ord n) then lvl ld rw lev n (x ^^^ rw (ord n)) (mx l (lev (ord n))) else -9) else lvl ld rw lev n x l
theorem lvlX_l (S : SS) : ∀ (j n : Nat) (v : Int64) (l : Int32), j ≤ 64 → j < n → fX0_levelOf_b9L n v l (nI j + (-1)) S = some (lvl (ldX S) (s_rows S) (s_levels S) j v l, S) := by
  intro j
  induction j with
  | zero =>
    intro n v l _ hn
    obtain ⟨n, rfl⟩ : ∃ k, n = k + 1 := ⟨n - 1, by omega⟩
    show fX0_levelOf_b9 (fX0_levelOf_b9L n) _ _ _ _ = _
    unfold fX0_levelOf_b9
    rw [if_pos (by decide)]
    rfl
  | succ j ih =>
    intro n v l hj hn
    obtain ⟨n, rfl⟩ : ∃ k, n = k + 1 := ⟨n - 1, by omega⟩
    show fX0_levelOf_b9 (fX0_levelOf_b9L n) _ _ _ _ = _
    unfold fX0_levelOf_b9
    have hj' : j < 64 := by omega
    rw [pk_m1, if_neg (nI_pos (by omega)), ifl0, lvl]
    by_cases h0 : v = 0
    · rw [if_pos h0, if_pos h0]
    · rw [if_neg h0, if_neg h0, zGI_t (vp_in_nI hj' (by decide)), nI_clamp (by omega), zOrd_ord j hj', hasX v (ord_lt j hj')]
      show (if b2i (tb v (ord j)) = 0 then _ else _) = _
      cases ht : tb v (ord j)
      · rw [if_pos (by decide), if_neg (by decide)]
        unfold fX0_levelOf_b76
        rw [ih n v l (by omega) (by omega)]
      · rw [if_neg (by decide), if_pos rfl, hasX _ (ord_lt j hj')]
        show (if b2i (tb (s_leads S) (ord j)) = 0 then _ else _) = _
        cases hl : tb (s_leads S) (ord j)
        · rw [if_pos (by decide)]
          unfold ldX
          rw [hl, if_neg (by decide)]
        · rw [if_neg (by decide), zGI_t (vp_in_nI (ord_lt j hj') (by decide)), ord_cl j hj', zL_t, zGI_t (vp_in_nI (ord_lt j hj') (by decide)), zL_t]
          unfold fX0_levelOf_b76
          rw [ih n _ _ (by omega) (by omega)]
          unfold ldX
          rw [hl, if_pos rfl]
          rfl
theorem lvlX (S : SS) (v : Int64) : fX0_levelOf v S = some (lvl (ldX S) (s_rows S) (s_levels S) 64 v 0, S) := lvlX_l S 64 zF v 0 (by omega) (by decide)
/-! the model -/
def ldM (S : MS) (p : Nat) : Bool := !decide (m_isLed S p = 0)
theorem redM_l (S : MS) (hO : OrdOk S) : ∀ (j n : Nat) (v : Int64), j ≤ 64 → j < n → fX3_reduced_b6L n v (nI j + (-1)) S = some (rdn (ldM S) (m_led S) j v, S) := by
  intro j
  induction j with
  | zero =>
    intro n v _ hn
    obtain ⟨n, rfl⟩ : ∃ k, n = k + 1 := ⟨n - 1, by omega⟩
    show fX3_reduced_b6 (fX3_reduced_b6L n) _ _ _ = _
    unfold fX3_reduced_b6
    rw [if_pos (by decide)]
    rfl
  | succ j ih =>
    intro n v hj hn
    obtain ⟨n, rfl⟩ : ∃ k, n = k + 1 := ⟨n - 1, by omega⟩
    show fX3_reduced_b6 (fX3_reduced_b6L n) _ _ _ = _
    unfold fX3_reduced_b6
    have hj' : j < 64 := by omega
    rw [pk_m1, if_neg (nI_pos (by omega)), zGI_t (vp_in_nI hj' (by decide)), nI_clamp (by omega), hO j hj', hasM v (ord_lt j hj')]
    show (if b2i (tb v (ord j)) = 0 then _ else _) = _
    rw [rdn]
    unfold stp
    cases ht : tb v (ord j)
    · rw [if_pos (by decide)]
      unfold fX3_reduced_b50 fX3_reduced_b51
      rw [xor_0, ih n v (by omega) (by omega)]
      rfl
    · rw [if_neg (by decide), zGI_t (vp_in_nI (ord_lt j hj') (by decide)), ord_cl j hj']
      by_cases hl : m_isLed S (ord j) = 0
      · rw [if_pos hl]
        unfold fX3_reduced_b50 fX3_reduced_b51
        rw [xor_0, ih n v (by omega) (by omega)]
        simp [ldM, hl]
      · rw [if_neg hl, zGI_t (vp_in_nI (ord_lt j hj') (by decide))]
        unfold fX3_reduced_b51
        rw [ih n _ (by omega) (by omega)]
        simp [ldM, hl]
theorem redM (S : MS) (hO : OrdOk S) (v : Int64) : fX3_reduced v S = some (rdn (ldM S) (m_led S) 64 v, S) := redM_l S hO 64 zF v (by omega) (by decide)
def joM (v : Int64) (S : MS) : MS := match ltop (rdn (ldM S) (m_led S) 64 v) 64 with
  | none => S
  | some j => m_isLed_u (m_led_u S (vp_updL (m_led S) (ord j) (rdn (ldM S) (m_led S) 64 v))) (upd (m_isLed S) (ord j) 1)
theorem joinsM (S : MS) (hO : OrdOk S) (v : Int64) : ∃ r, fX3_joins v S = some (r, joM v S) := by
  unfold fX3_joins joM
  rw [redM S hO]
  show ∃ r, (if lg_cmp (rdn (ldM S) (m_led S) 64 v) 0 = 0 then _ else _) = _
  rw [ifl0]
  generalize rdn (ldM S) (m_led S) 64 v = x
  by_cases h0 : x = 0
  · subst h0
    rw [if_pos rfl, ltop_0]
    exact ⟨0, rfl⟩
  · rw [if_neg h0, leadM x S hO]
    cases h : ltop x 64 with
    | none => exact absurd (ltop_zero h) h0
    | some j =>
      have hj := (ltop_some h).1
      have e : ldv x 64 = nI (ord j) := by unfold ldv; rw [h]
      refine ⟨1, ?_⟩
      show (zGI (ldv x 64) 64 (zGI (ldv x 64) 64 _)) = _
      rw [e, zGI_t (vp_in_nI (ord_lt j hj) (by decide)), zGI_t (vp_in_nI (ord_lt j hj) (by decide)), ord_cl j hj]
      rfl
