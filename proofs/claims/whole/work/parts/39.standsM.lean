/-! ===== the model's stands() ===== -/
def stdU (S : MS) (cm st : Int64) (vec mk : Nat → Int64) (n : Int32) (rs : Int64) : MS := (m_thrown S, m_trace S, m_order S, m_text S, m_typed S, m_next S, m_token S, m_place S, m_value S, m_fault S, m_given S, m_made S, m_steps S, m_wrongStep S, m_line S, m_draft S, m_step S, m_claimed S, cm, st, vec, mk, n, rs, m_led S, m_isLed S, m_isDone S)
theorem sd_order (S : MS) (cm st : Int64) (vec mk : Nat → Int64) (n : Int32) (rs : Int64) : m_order (stdU S cm st vec mk n rs) = m_order S := rfl
theorem sd_common (S : MS) (cm st : Int64) (vec mk : Nat → Int64) (n : Int32) (rs : Int64) : m_common (stdU S cm st vec mk n rs) = cm := rfl
theorem sd_standing (S : MS) (cm st : Int64) (vec mk : Nat → Int64) (n : Int32) (rs : Int64) : m_standing (stdU S cm st vec mk n rs) = st := rfl
theorem sd_vector (S : MS) (cm st : Int64) (vec mk : Nat → Int64) (n : Int32) (rs : Int64) : m_vector (stdU S cm st vec mk n rs) = vec := rfl
theorem sd_made0 (S : MS) (cm st : Int64) (vec mk : Nat → Int64) (n : Int32) (rs : Int64) : m_made0 (stdU S cm st vec mk n rs) = mk := rfl
theorem sd_vectors (S : MS) (cm st : Int64) (vec mk : Nat → Int64) (n : Int32) (rs : Int64) : m_vectors (stdU S cm st vec mk n rs) = n := rfl
theorem sd_rests (S : MS) (cm st : Int64) (vec mk : Nat → Int64) (n : Int32) (rs : Int64) : m_rests (stdU S cm st vec mk n rs) = rs := rfl
theorem sd_line (S : MS) (cm st : Int64) (vec mk : Nat → Int64) (n : Int32) (rs : Int64) : m_line (stdU S cm st vec mk n rs) = m_line S := rfl
theorem sd_given (S : MS) (cm st : Int64) (vec mk : Nat → Int64) (n : Int32) (rs : Int64) : m_given (stdU S cm st vec mk n rs) = m_given S := rfl
theorem su_standing (S : MS) (cm st : Int64) (vec mk : Nat → Int64) (n : Int32) (rs : Int64) (st2 : Int64) : m_standing_u (stdU S cm st vec mk n rs) st2 = stdU S cm st2 vec mk n rs := rfl
theorem su_rests (S : MS) (cm st : Int64) (vec mk : Nat → Int64) (n : Int32) (rs : Int64) (rs2 : Int64) : m_rests_u (stdU S cm st vec mk n rs) rs2 = stdU S cm st vec mk n rs2 := rfl
theorem su_vectors (S : MS) (cm st : Int64) (vec mk : Nat → Int64) (n : Int32) (rs : Int64) (n2 : Int32) : m_vectors_u (stdU S cm st vec mk n rs) n2 = stdU S cm st vec mk n2 rs := rfl
theorem su_vector (S : MS) (cm st : Int64) (vec mk : Nat → Int64) (n : Int32) (rs : Int64) (vec2 : Nat → Int64) : m_vector_u (stdU S cm st vec mk n rs) vec2 = stdU S cm st vec2 mk n rs := rfl
theorem su_made0 (S : MS) (cm st : Int64) (vec mk : Nat → Int64) (n : Int32) (rs : Int64) (mk2 : Nat → Int64) : m_made0_u (stdU S cm st vec mk n rs) mk2 = stdU S cm st vec mk2 n rs := rfl
theorem sd_0 (S : MS) (cm : Int64) : m_vectors_u (m_standing_u (m_common_u S cm) 0) 0 = stdU S cm 0 (m_vector S) (m_made0 S) 0 (m_rests S) := rfl
theorem standsM_b (S : MS) (hO : OrdOk S) (K : Int32 → MS → Option MS) (cm st : Int64) (vec mk : Nat → Int64) (n j : Nat) (rs : Int64) (hj : j < 64) (hn : n ≤ j) :
    fX3_stands_b57 K (nI j) (stdU S cm st vec mk (nI n) rs) = if (brs vec mk n (rv cm (e1 (ord j)))).1 = 0 then K (nI (j + 1)) (stdU S cm st vec mk (nI n) (brs vec mk n (rv cm (e1 (ord j)))).2)
      else K (nI (j + 1)) (stdU S cm (st ||| e1 (ord j)) (vp_updL vec n (brs vec mk n (rv cm (e1 (ord j)))).1) (vp_updL mk n ((brs vec mk n (rv cm (e1 (ord j)))).2 ^^^ e1 (ord j))) (nI (n + 1)) (brs vec mk n (rv cm (e1 (ord j)))).2) := by
  unfold fX3_stands_b57
  have hord : m_order S (nI j).toNatClampNeg = nI (ord j) := by
    rw [nI_clamp (by omega)]
    exact hO j hj
  have hb := bearsM (stdU S cm st vec mk (nI n) rs) n (by omega) (sd_vectors _ _ _ _ _ _ _) (rv cm (e1 (ord j)))
  rw [sd_vector, sd_made0, su_rests] at hb
  unfold rv at hb
  rw [if_neg (nle64 hj), zGI_t (vp_in_nI hj (by decide)), sd_order, hord, e1_shl _ (ord_lt j hj), valsM, zB1_t rfl, sd_common, hb, zB2_t rfl, ifl0]
  unfold rv
  generalize brs vec mk n (vals (e1 (ord j)) &&& cm) = b
  by_cases h0 : b.1 = 0
  · rw [if_pos h0, if_pos h0]
    unfold fX3_stands_b149
    rw [nI_1]
  · rw [if_neg h0, if_neg h0, zGI_t (vp_in_nI hj (by decide)), zL_t, sd_order, hord, e1_shl _ (ord_lt j hj), sd_standing, su_standing, sd_vectors, zGI_t (vp_in_nI (by omega) (by decide)), zL_t, sd_vector, su_vector, zGI_t (vp_in_nI hj (by decide)), sd_vectors, zGI_t (vp_in_nI (by omega) (by decide)), zL_t, sd_made0, sd_rests, sd_order, hord, e1_shl _ (ord_lt j hj), su_made0, zL_t, sd_vectors, su_vectors]
    unfold fX3_stands_b149
    rw [nI_1, nI_1, nI_clamp (show n < 2 ^ 31 by omega)]
theorem standsM_l (S : MS) (hO : OrdOk S) (cm : Int64) : ∀ (d m j : Nat) (st : Int64) (vec mk : Nat → Int64) (n : Nat) (pv : Nat → Nat) (P rs : Int64), j + d = 64 → d < m → StI cm st vec mk n j pv P →
    ∃ st' vec' mk' n' pv' P' rs', fX3_stands_b57L m (nI j) (stdU S cm st vec mk (nI n) rs) = some (stdU S cm st' vec' mk' (nI n') rs') ∧ StI cm st' vec' mk' n' 64 pv' P' := by
  intro d
  induction d with
  | zero =>
    intro m j st vec mk n pv P rs hj hm hI
    obtain ⟨m, rfl⟩ : ∃ q, m = q + 1 := ⟨m - 1, by omega⟩
    have : j = 64 := by omega
    subst this
    refine ⟨st, vec, mk, n, pv, P, rs, ?_, hI⟩
    show fX3_stands_b57 (fX3_stands_b57L m) _ _ = _
    unfold fX3_stands_b57
    rw [if_pos (by decide)]
  | succ d ih =>
    intro m j st vec mk n pv P rs hj hm hI
    obtain ⟨m, rfl⟩ : ∃ q, m = q + 1 := ⟨m - 1, by omega⟩
    have hj' : j < 64 := by omega
    have hb := standsM_b S hO (fX3_stands_b57L m) cm st vec mk n j rs hj' hI.1
    have hb : fX3_stands_b57L (m + 1) (nI j) (stdU S cm st vec mk (nI n) rs) = _ := hb
    rw [hb]
    by_cases h0 : (brs vec mk n (rv cm (e1 (ord j)))).1 = 0
    · rw [if_pos h0]
      exact ih m (j + 1) st vec mk n pv P _ (by omega) (by omega) (hI.zero hj' h0)
    · rw [if_neg h0]
      obtain ⟨pv', P', hI'⟩ := hI.step hj' h0
      exact ih m (j + 1) _ _ _ (n + 1) pv' P' _ (by omega) (by omega) hI'
theorem StI.start (cm : Int64) (vec mk : Nat → Int64) (pv : Nat → Nat) : StI cm 0 vec mk 0 0 pv 0 :=
  ⟨Nat.le_refl 0, fun k hk => absurd hk (by omega), fun k hk => absurd hk (by omega), fun k hk => absurd hk (by omega), fun i _ _ => tb_0 _, fun i hi => absurd hi (by omega), fun i hi => absurd hi (by omega), popc_0, popc_0, fun w _ => ⟨fun h => by rw [tb_0] at h; exact absurd h (by decide), fun ⟨k, hk, _⟩ => absurd hk (by omega)⟩⟩
def cmn (line : Nat → Int64) : Nat → Int64
  | 0 => -1
  | i + 1 => cmn line i &&& (vals (line i) ^^^ (-1))
theorem standsM_c (S : MS) (G : Nat) (hG : G ≤ 32) (hg : m_given S = nI G) : ∀ (d m i : Nat), i + d = G → d < m → fX3_stands_b9L m (nI i) (m_common_u S (cmn (m_line S) i)) = fX3_stands_b57L zF (0 : Int32) (m_vectors_u (m_standing_u (m_common_u S (cmn (m_line S) G)) 0) 0) := by
  intro d
  induction d with
  | zero =>
    intro m i hi hm
    obtain ⟨m, rfl⟩ : ∃ q, m = q + 1 := ⟨m - 1, by omega⟩
    show fX3_stands_b9 (fX3_stands_b9L m) _ _ = _
    unfold fX3_stands_b9
    have : i = G := by omega
    subst this
    rw [if_pos (show m_given (m_common_u S (cmn (m_line S) i)) ≤ nI i from (show m_given S ≤ nI i by rw [hg]; exact nI_le (Nat.le_refl i) (by omega))), zL_t, zL_t]
  | succ d ih =>
    intro m i hi hm
    obtain ⟨m, rfl⟩ : ∃ q, m = q + 1 := ⟨m - 1, by omega⟩
    show fX3_stands_b9 (fX3_stands_b9L m) _ _ = _
    unfold fX3_stands_b9
    rw [if_neg (show ¬ m_given (m_common_u S (cmn (m_line S) i)) ≤ nI i from (show ¬ m_given S ≤ nI i by rw [hg]; exact nI_ge (by omega) (by omega))), zGI_t (vp_in_nI (by omega) (by decide)), nI_clamp (by omega), valsM, zB1_t rfl, zL_t, nI_1]
    exact ih m (i + 1) (by omega) (by omega)
theorem standsM (S : MS) (hO : OrdOk S) (G : Nat) (hG : G ≤ 32) (hg : m_given S = nI G) : ∃ st vec mk n pv P rs, fX3_stands S = some (stdU S (cmn (m_line S) G) st vec mk (nI n) rs) ∧ StI (cmn (m_line S) G) st vec mk n 64 pv P := by
  have h1 : fX3_stands S = fX3_stands_b57L zF (0 : Int32) (m_vectors_u (m_standing_u (m_common_u S (cmn (m_line S) G)) 0) 0) := by
    unfold fX3_stands
    rw [zL_t]
    exact standsM_c S G hG hg G zF 0 (by omega) (by unfold zF; omega)
  rw [h1, sd_0]
  exact standsM_l S hO (cmn (m_line S) G) 64 zF 0 0 (m_vector S) (m_made0 S) 0 (fun _ => 0) 0 (m_rests S) (by omega) (by decide) (StI.start _ _ _ _)
