/-! ===== one step read on both sides ===== -/
theorem px_uO (t : TS) (q s tk mn : Int32) (v : Nat → Int32) : t_ops_u (pX t q s tk mn) v = pX (t_ops_u t v) q s tk mn := rfl
theorem px_uF (t : TS) (q s tk mn : Int32) (v : Nat → Int32) : t_firsts_u (pX t q s tk mn) v = pX (t_firsts_u t v) q s tk mn := rfl
theorem px_u2 (t : TS) (q s tk mn : Int32) (v : Nat → Int32) : t_seconds_u (pX t q s tk mn) v = pX (t_seconds_u t v) q s tk mn := rfl
theorem px_ops (t : TS) (q s tk mn : Int32) : t_ops (pX t q s tk mn) = t_ops t := rfl
theorem px_firsts (t : TS) (q s tk mn : Int32) : t_firsts (pX t q s tk mn) = t_firsts t := rfl
theorem px_seconds (t : TS) (q s tk mn : Int32) : t_seconds (pX t q s tk mn) = t_seconds t := rfl
theorem pm_uS (M : MS) (nx tk pl va : Int32) (v : Nat → Int32) : m_step_u (pM M nx tk pl va) v = pM (m_step_u M v) nx tk pl va := rfl
theorem pm_uC (M : MS) (nx tk pl va : Int32) (v : Nat → Int64) : m_claimed_u (pM M nx tk pl va) v = pM (m_claimed_u M v) nx tk pl va := rfl
theorem pm_step (M : MS) (nx tk pl va : Int32) : m_step (pM M nx tk pl va) = m_step M := rfl
theorem pm_claimed (M : MS) (nx tk pl va : Int32) : m_claimed (pM M nx tk pl va) = m_claimed M := rfl
theorem pm_given (M : MS) (nx tk pl va : Int32) : m_given (pM M nx tk pl va) = m_given M := rfl
theorem fs_g (M : MS) (f : Int32) : m_step (m_fault_u M f) = m_step M := rfl
theorem fs_c (M : MS) (f : Int32) (v : Nat → Int32) : m_step_u (m_fault_u M f) v = m_fault_u (m_step_u M v) f := rfl
theorem fc_g (M : MS) (f : Int32) : m_claimed (m_fault_u M f) = m_claimed M := rfl
theorem fc_c (M : MS) (f : Int32) (v : Nat → Int64) : m_claimed_u (m_fault_u M f) v = m_fault_u (m_claimed_u M v) f := rfl
theorem ss_g (M : MS) (v : Nat → Int32) : m_step (m_step_u M v) = v := rfl
theorem ss_u (M : MS) (v w : Nat → Int32) : m_step_u (m_step_u M v) w = m_step_u M w := rfl
theorem i3 (k : Nat) : (3 : Int32) * nI k = nI (3 * k) := pk_mul 3 k
theorem i31 (k : Nat) : (3 : Int32) * nI k + 1 = nI (3 * k + 1) := by rw [i3, nI_1]
theorem i32 (k : Nat) : (3 : Int32) * nI k + 2 = nI (3 * k + 2) := by rw [i3]; exact nI_add (3 * k) 2
theorem letters_l (x : Int32) : ∀ (d n l : Nat) (v : Int32), l + d = 6 → d < n → ∃ r, fX3_letters_b4L n x v (nI l) = some r := by
  intro d
  induction d with
  | zero =>
    intro n l v hl hn
    obtain ⟨n, rfl⟩ : ∃ q, n = q + 1 := ⟨n - 1, by omega⟩
    have : l = 6 := by omega
    subst this
    refine ⟨v, ?_⟩
    show fX3_letters_b4 (fX3_letters_b4L n) _ _ _ = _
    unfold fX3_letters_b4
    rw [if_pos (by decide)]
  | succ d ih =>
    intro n l v hl hn
    obtain ⟨n, rfl⟩ : ∃ q, n = q + 1 := ⟨n - 1, by omega⟩
    show ∃ r, fX3_letters_b4 (fX3_letters_b4L n) _ _ _ = some r
    unfold fX3_letters_b4
    rw [if_neg (nle6 (show l < 6 by omega)), zL_t, nI_1]
    exact ih n (l + 1) _ (by omega) (by omega)
theorem letters_some (x : Int32) : ∃ r, fX3_letters x = some r := letters_l x 6 zF 0 0 (by omega) (by decide)
/-! the model behind a fault -/
theorem ill182 (M : MS) {s : Nat} (hs : s < 2 ^ 31) (a b c v : Int32) : fX3_readsStep_b182 (pM (m_fault_u M (nI s)) a b c v) = some (pM (m_fault_u M (nI s)) a b c v) := by
  unfold fX3_readsStep_b182
  rw [takesN hs, zB2_t rfl, takesN hs, zB2_t rfl, ite_self]
theorem ill178 (M : MS) {s : Nat} (hs : s < 2 ^ 31) (a b c v u : Int32) {i : Nat} (hi : i < 72) : fX3_readsStep_b178 u (nI i) (pM (m_fault_u M (nI s)) a b c v) = some (pM (m_fault_u (m_step_u M (upd (m_step M) i 0)) (nI s)) a b c v) := by
  unfold fX3_readsStep_b178
  rw [takesN hs, zB2_t rfl, zGI_t (vp_in_nI hi (by decide)), zL_t, pm_step, pm_uS, fs_g, fs_c, nI_clamp (by omega), ill182 _ hs]
theorem ill135 (M : MS) {s : Nat} (hs : s < 2 ^ 31) (a b c v u : Int32) {i : Nat} (hi : i < 72) : fX3_readsStep_b135 u (nI i) (pM (m_fault_u M (nI s)) a b c v) = some (pM (m_fault_u (m_step_u M (upd (m_step M) i 0)) (nI s)) a b c v) := by
  unfold fX3_readsStep_b135
  rw [takesN hs, zB2_t rfl, zGI_t (vp_in_nI hi (by decide)), zL_t, pm_step, pm_uS, fs_g, fs_c, nI_clamp (by omega), ill182 _ hs]
/-- what is left of a step behind its first number, if there is a fault -/
theorem illMid (M : MS) {s k : Nat} (hs : s < 2 ^ 31) (hk : k < 24) (a b c v v2 : Int32) :
    (if v2 = (1 : Int32) then (if b = (1 : Int32) then (zB1 (fX3_letters v) (fun r_123 =>
(if r_123 = (1 : Int32) then fX3_readsStep_b135 (1 : Int32) (((3 : Int32) * nI k) + (2 : Int32)) (pM (m_fault_u M (nI s)) a b c v) else
fX3_readsStep_b134 (((3 : Int32) * nI k) + (2 : Int32)) (pM (m_fault_u M (nI s)) a b c v)))) else
fX3_readsStep_b134 (((3 : Int32) * nI k) + (2 : Int32)) (pM (m_fault_u M (nI s)) a b c v)) else
(if b = (3 : Int32) then (if ((m_given (m_fault_u M (nI s))) + nI k) ≤ v then fX3_readsStep_b177 (((3 : Int32) * nI k) + (2 : Int32)) (pM (m_fault_u M (nI s)) a b c v) else
fX3_readsStep_b178 (1 : Int32) (((3 : Int32) * nI k) + (2 : Int32)) (pM (m_fault_u M (nI s)) a b c v)) else
fX3_readsStep_b177 (((3 : Int32) * nI k) + (2 : Int32)) (pM (m_fault_u M (nI s)) a b c v))) = some (pM (m_fault_u (m_step_u M (upd (m_step M) (3 * k + 2) 0)) (nI s)) a b c v) := by
  obtain ⟨r, hr⟩ := letters_some v
  unfold fX3_readsStep_b134 fX3_readsStep_b177
  rw [hr, zB1_t rfl, i32, ill135 M hs _ _ _ _ _ (by omega), ill135 M hs _ _ _ _ _ (by omega), ill178 M hs _ _ _ _ _ (by omega), ill178 M hs _ _ _ _ _ (by omega)]
  simp only [ite_self]
theorem ill92 (M : MS) {s k : Nat} (hs : s < 2 ^ 31) (hk : k < 24) (a b c v v2 u : Int32) : fX3_readsStep_b92 (nI k) v2 u (nI (3 * k + 1)) (pM (m_fault_u M (nI s)) a b c v) = some (pM (m_fault_u (m_step_u M (upd (upd (m_step M) (3 * k + 1) 0) (3 * k + 2) 0)) (nI s)) a b c v) := by
  unfold fX3_readsStep_b92
  rw [takesN hs, zB2_t rfl, zGI_t (vp_in_nI (show 3 * k + 1 < 72 by omega) (by decide)), zL_t, pm_step, pm_uS, fs_g, fs_c, nI_clamp (by omega), pm_token, pm_value, pm_given]
  rw [illMid _ hs hk, ss_g, ss_u]
theorem bad92 {M : MS} (hf : m_fault M = -1) {s k : Nat} (hs : s < 2 ^ 31) (hk : k < 24) (a b v v2 : Int32) : fX3_readsStep_b91 (nI k) v2 (nI (3 * k + 1)) (pM M a b (nI s) v) = some (pM (m_fault_u (m_step_u M (upd (upd (m_step M) (3 * k + 1) 0) (3 * k + 2) 0)) (nI s)) a b (nI s) v) := by
  unfold fX3_readsStep_b91 fX3_readsStep_b92
  rw [takes0 hf, zB2_t rfl, zGI_t (vp_in_nI (show 3 * k + 1 < 72 by omega) (by decide)), zL_t, pm_step, pm_uS, fs_g, fs_c, nI_clamp (by omega), pm_token, pm_value, pm_given]
  rw [illMid _ hs hk, ss_g, ss_u]
theorem bad182 {M : MS} (hf : m_fault M = -1) {s : Nat} (a b v : Int32) (hb : b ≠ 5) : fX3_readsStep_b182 (pM M a b (nI s) v) = some (pM (m_fault_u M (nI s)) a b (nI s) v) := by
  unfold fX3_readsStep_b182
  rw [pm_token, if_neg hb, takes0 hf, zB2_t rfl]
theorem good182 {M : MS} (hf : m_fault M = -1) (a c v : Int32) : fX3_readsStep_b182 (pM M a 5 c v) = fX3_advances (pM M a 5 c v) := by
  unfold fX3_readsStep_b182
  rw [pm_token, if_pos rfl, takes1 hf]
  cases fX3_advances (pM M a 5 c v) <;> rfl
theorem bad178 {M : MS} (hf : m_fault M = -1) {s i : Nat} (hs : s < 2 ^ 31) (hi : i < 72) (a b v : Int32) : fX3_readsStep_b177 (nI i) (pM M a b (nI s) v) = some (pM (m_fault_u (m_step_u M (upd (m_step M) i 0)) (nI s)) a b (nI s) v) := by
  unfold fX3_readsStep_b177 fX3_readsStep_b178
  rw [takes0 hf, zB2_t rfl, zGI_t (vp_in_nI hi (by decide)), zL_t, pm_step, pm_uS, fs_g, fs_c, nI_clamp (by omega), ill182 _ hs]
theorem bad135 {M : MS} (hf : m_fault M = -1) {s i : Nat} (hs : s < 2 ^ 31) (hi : i < 72) (a b v : Int32) : fX3_readsStep_b134 (nI i) (pM M a b (nI s) v) = some (pM (m_fault_u (m_step_u M (upd (m_step M) i 0)) (nI s)) a b (nI s) v) := by
  unfold fX3_readsStep_b134 fX3_readsStep_b135
  rw [takes0 hf, zB2_t rfl, zGI_t (vp_in_nI hi (by decide)), zL_t, pm_step, pm_uS, fs_g, fs_c, nI_clamp (by omega), ill182 _ hs]
theorem good178 {M : MS} (hf : m_fault M = -1) {i : Nat} (hi : i < 72) (a b c v : Int32) {a1 b1 c1 v1 : Int32} (h : fX3_advances (pM M a b c v) = some (pM M a1 b1 c1 v1)) : fX3_readsStep_b178 1 (nI i) (pM M a b c v) = fX3_readsStep_b182 (pM (m_step_u M (upd (m_step M) i v)) a1 b1 c1 v1) := by
  unfold fX3_readsStep_b178
  rw [takes1 hf, h, zB1_t rfl, zB2_t rfl, zGI_t (vp_in_nI hi (by decide)), zL_t, pm_step, pm_uS, nI_clamp (by omega)]
theorem good135 {M : MS} (hf : m_fault M = -1) {i : Nat} (hi : i < 72) (a b c v : Int32) {a1 b1 c1 v1 : Int32} (h : fX3_advances (pM M a b c v) = some (pM M a1 b1 c1 v1)) : fX3_readsStep_b135 1 (nI i) (pM M a b c v) = fX3_readsStep_b182 (pM (m_step_u M (upd (m_step M) i v)) a1 b1 c1 v1) := by
  unfold fX3_readsStep_b135
  rw [takes1 hf, h, zB1_t rfl, zB2_t rfl, zGI_t (vp_in_nI hi (by decide)), zL_t, pm_step, pm_uS, nI_clamp (by omega)]
/-- a number of a line told ahead -/
def NumT (tok mean tok' va : Int32) (A v : Nat) : Prop := v < A ∧ v ≤ 99 ∧ tok = 6 ∧ tok' = 3 ∧ mean = nI v ∧ va = nI v
theorem TK.num {tok mean tok' va : Int32} (h : TK tok mean tok' va) {A : Nat} (hA : A < 2 ^ 31) : (∃ v, NumT tok mean tok' va A v) ∨ ((¬ tok = 6 ∨ nI A ≤ mean) ∧ (¬ tok' = 3 ∨ nI A ≤ va)) := by
  have key : ∀ k k' : Int32, tok = k → tok' = k' → ¬ k = 6 → ¬ k' = 3 → (¬ tok = 6 ∨ nI A ≤ mean) ∧ (¬ tok' = 3 ∨ nI A ≤ va) := fun k k' e1 e2 n6 n3 => by
    subst e1
    subst e2
    exact ⟨Or.inl n6, Or.inl n3⟩
  rcases h with ⟨e1, e2, -⟩ | ⟨e1, e2, -⟩ | ⟨e1, e2, -⟩ | ⟨e1, e2, -⟩ | ⟨p, hp, e1, e2, e3, e4⟩ | ⟨v, hv, e1, e2, e3, e4⟩ | ⟨e1, e2⟩ | ⟨e1, e2⟩ | ⟨e1, e2⟩ | ⟨e1, e2⟩
  · exact Or.inr (key 1 2 e1 e2 (by decide) (by decide))
  · exact Or.inr (key 2 2 e1 e2 (by decide) (by decide))
  · exact Or.inr (key 3 2 e1 e2 (by decide) (by decide))
  · exact Or.inr (key 4 2 e1 e2 (by decide) (by decide))
  · exact Or.inr (key 5 1 e1 e2 (by decide) (by decide))
  · rcases Nat.lt_or_ge v A with q | q
    · exact Or.inl ⟨v, q, hv, e1, e2, e3, e4⟩
    · exact Or.inr ⟨Or.inr (by rw [e3]; exact nI_le q (by omega)), Or.inr (by rw [e4]; exact nI_le q (by omega))⟩
  · exact Or.inr (key 7 4 e1 e2 (by decide) (by decide))
  · exact Or.inr (key 8 5 e1 e2 (by decide) (by decide))
  · exact Or.inr (key 9 0 e1 e2 (by decide) (by decide))
  · exact Or.inr (key 10 6 e1 e2 (by decide) (by decide))
/-- a run of one letter -/
theorem TK.let1 {tok mean tok' va : Int32} (h : TK tok mean tok' va) : (∃ p, p < 64 ∧ lt6 p = 1 ∧ tok = 5 ∧ tok' = 1 ∧ mean = nI p ∧ va = nI p) ∨ ((¬ tok = 5 ∨ ∃ p, p < 64 ∧ ¬ lt6 p = 1 ∧ mean = nI p) ∧ (¬ tok' = 1 ∨ ∃ p, p < 64 ∧ ¬ lt6 p = 1 ∧ va = nI p)) := by
  have key : ∀ k k' : Int32, tok = k → tok' = k' → ¬ k = 5 → ¬ k' = 1 → (¬ tok = 5 ∨ ∃ p, p < 64 ∧ ¬ lt6 p = 1 ∧ mean = nI p) ∧ (¬ tok' = 1 ∨ ∃ p, p < 64 ∧ ¬ lt6 p = 1 ∧ va = nI p) := fun k k' e1 e2 n6 n3 => by
    subst e1
    subst e2
    exact ⟨Or.inl n6, Or.inl n3⟩
  rcases h with ⟨e1, e2, -⟩ | ⟨e1, e2, -⟩ | ⟨e1, e2, -⟩ | ⟨e1, e2, -⟩ | ⟨p, hp, e1, e2, e3, e4⟩ | ⟨v, hv, e1, e2, e3, e4⟩ | ⟨e1, e2⟩ | ⟨e1, e2⟩ | ⟨e1, e2⟩ | ⟨e1, e2⟩
  · exact Or.inr (key 1 2 e1 e2 (by decide) (by decide))
  · exact Or.inr (key 2 2 e1 e2 (by decide) (by decide))
  · exact Or.inr (key 3 2 e1 e2 (by decide) (by decide))
  · exact Or.inr (key 4 2 e1 e2 (by decide) (by decide))
  · by_cases q : lt6 p = 1
    · exact Or.inl ⟨p, hp, q, e1, e2, e3, e4⟩
    · exact Or.inr ⟨Or.inr ⟨p, hp, q, e3⟩, Or.inr ⟨p, hp, q, e4⟩⟩
  · exact Or.inr (key 6 3 e1 e2 (by decide) (by decide))
  · exact Or.inr (key 7 4 e1 e2 (by decide) (by decide))
  · exact Or.inr (key 8 5 e1 e2 (by decide) (by decide))
  · exact Or.inr (key 9 0 e1 e2 (by decide) (by decide))
  · exact Or.inr (key 10 6 e1 e2 (by decide) (by decide))
/-! the class's three readers, once the token is known -/
theorem lineX4 {t : TS} {k A : Nat} (hk : k < 24) (hto : t_told t = nI k) (q st tk mn : Int32) {q1 s1 tok mean : Int32} (h : fX1_next (pX t q st tk mn) = some (pX t q1 s1 tok mean)) : (∀ v, v < A → A < 2 ^ 31 → tok = 6 → mean = nI v → fX1_readLine_4 (nI A) (pX t q st tk mn) = some (1, pX (t_firsts_u t (upd (t_firsts t) k (nI v))) q1 s1 tok mean)) ∧ ((¬ tok = 6 ∨ nI A ≤ mean) → fX1_readLine_4 (nI A) (pX t q st tk mn) = some (0, pX t q1 s1 tok mean)) := by
  unfold fX1_readLine_4
  rw [h, zB1_t rfl, px_token, px_mean, px_told, hto]
  refine ⟨fun v hv hA e1 e2 => ?_, fun hno => ?_⟩
  · rw [if_pos e1, e2, if_neg (nI_ge hv hA), if_neg (nI_pos (by omega)), if_pos (show nI k < (24 : Int32) from nI_lt hk (by decide)), zGI_t (vp_in_nI hk (by decide)), zL_t, px_firsts, px_uF, nI_clamp (by omega)]
  · rcases hno with q | q
    · rw [if_neg q]
    · by_cases e : tok = 6
      · rw [if_pos e, if_pos q]
      · rw [if_neg e]
theorem lineX5 {t : TS} {k A : Nat} (hk : k < 24) (hto : t_told t = nI k) (q st tk mn : Int32) {q1 s1 tok mean : Int32} (h : fX1_next (pX t q st tk mn) = some (pX t q1 s1 tok mean)) : (∀ v, v < A → A < 2 ^ 31 → tok = 6 → mean = nI v → fX1_readLine_5 (nI A) (pX t q st tk mn) = some (1, pX (t_seconds_u t (upd (t_seconds t) k (nI v))) q1 s1 tok mean)) ∧ ((¬ tok = 6 ∨ nI A ≤ mean) → fX1_readLine_5 (nI A) (pX t q st tk mn) = some (0, pX t q1 s1 tok mean)) := by
  unfold fX1_readLine_5
  rw [h, zB1_t rfl, px_token, px_mean, px_told, hto]
  refine ⟨fun v hv hA e1 e2 => ?_, fun hno => ?_⟩
  · rw [if_pos e1, e2, if_neg (nI_ge hv hA), if_neg (nI_pos (by omega)), if_pos (show nI k < (24 : Int32) from nI_lt hk (by decide)), zGI_t (vp_in_nI hk (by decide)), zL_t, px_seconds, px_u2, nI_clamp (by omega)]
  · rcases hno with q | q
    · rw [if_neg q]
    · by_cases e : tok = 6
      · rw [if_pos e, if_pos q]
      · rw [if_neg e]
theorem lt6_ne1 : ∀ p, p < 64 → (nI (lt6 p) = 1 ↔ lt6 p = 1) := by decide +kernel
theorem letX {t : TS} {k : Nat} (hk : k < 24) (hto : t_told t = nI k) (q st tk mn : Int32) {q1 s1 tok mean : Int32} (h : fX1_next (pX t q st tk mn) = some (pX t q1 s1 tok mean)) : (∀ p, p < 64 → lt6 p = 1 → tok = 5 → mean = nI p → fX1_readLetter (pX t q st tk mn) = some (1, pX (t_seconds_u t (upd (t_seconds t) k (nI p))) q1 s1 tok mean)) ∧ ((¬ tok = 5 ∨ ∃ p, p < 64 ∧ ¬ lt6 p = 1 ∧ mean = nI p) → fX1_readLetter (pX t q st tk mn) = some (0, pX t q1 s1 tok mean)) := by
  unfold fX1_readLetter
  rw [h, zB1_t rfl, px_token, px_mean, px_told, hto]
  refine ⟨fun p hp hl e1 e2 => ?_, fun hno => ?_⟩
  · rw [if_pos e1, e2, countI p hp, zB1_t rfl, if_pos ((lt6_ne1 p hp).mpr hl), if_neg (nI_pos (by omega)), if_pos (show nI k < (24 : Int32) from nI_lt hk (by decide)), zGI_t (vp_in_nI hk (by decide)), zL_t, px_seconds, px_u2, nI_clamp (by omega)]
  · rcases hno with q | ⟨p, hp, hl, e⟩
    · rw [if_neg q]
    · by_cases e1 : tok = 5
      · rw [if_pos e1, e, countI p hp, zB1_t rfl, if_neg (fun z => hl ((lt6_ne1 p hp).mp z))]
      · rw [if_neg e1]
theorem semiX {t : TS} (q st tk mn : Int32) {q1 s1 tok mean : Int32} (h : fX1_next (pX t q st tk mn) = some (pX t q1 s1 tok mean)) : fX1_readSemicolon (pX t q st tk mn) = if tok = 8 then some (1, pX t q1 s1 tok mean) else some (0, pX t q1 s1 tok mean) := by
  unfold fX1_readSemicolon
  rw [h, zB1_t rfl, px_token]
