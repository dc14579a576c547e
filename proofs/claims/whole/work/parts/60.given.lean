/-! ===== given() on both sides ===== -/
theorem px_uT (t : TS) (q s tk mn v : Int32) : t_told_u (pX t q s tk mn) v = pX (t_told_u t v) q s tk mn := rfl
theorem pm_uD (M : MS) (nx tk pl va : Int32) (v : Nat → Int64) : m_draft_u (pM M nx tk pl va) v = pM (m_draft_u M v) nx tk pl va := rfl
theorem pm_draft (M : MS) (nx tk pl va : Int32) : m_draft (pM M nx tk pl va) = m_draft M := rfl
theorem fd_g (M : MS) (f : Int32) : m_draft (m_fault_u M f) = m_draft M := rfl
theorem fd_c (M : MS) (f : Int32) (v : Nat → Int64) : m_draft_u (m_fault_u M f) v = m_fault_u (m_draft_u M v) f := rfl
theorem md_u (M : MS) (v : Nat → Int64) : m_draft (m_draft_u M v) = v := rfl
theorem ts_u (t : TS) (v : Nat → Int64) : t_sums (t_sums_u t v) = v := rfl
theorem ts_tu (t : TS) (v : Int32) : t_sums (t_told_u t v) = t_sums t := rfl
theorem same_pM (M : MS) (nx tk pl va : Int32) : SameM M (pM M nx tk pl va) := ⟨rfl, rfl, rfl, rfl, rfl, rfl, rfl, rfl, rfl, rfl, rfl, rfl, rfl, rfl, rfl⟩
theorem same_fault (M : MS) (v : Int32) : SameM M (m_fault_u M v) := ⟨rfl, rfl, rfl, rfl, rfl, rfl, rfl, rfl, rfl, rfl, rfl, rfl, rfl, rfl, rfl⟩
theorem same_draft (M : MS) (v : Nat → Int64) : SameM M (m_draft_u M v) := ⟨rfl, rfl, rfl, rfl, rfl, rfl, rfl, rfl, rfl, rfl, rfl, rfl, rfl, rfl, rfl⟩
theorem same_rf (M : MS) : SameM M M := ⟨rfl, rfl, rfl, rfl, rfl, rfl, rfl, rfl, rfl, rfl, rfl, rfl, rfl, rfl, rfl⟩
theorem gv74_ok {M : MS} (hf : m_fault M = -1) (v nx tk pl va : Int32) : fX3_given_b74 v (pM M nx tk pl va) = fX3_given_b91L zF v 0 (pM M nx tk pl va) := by
  unfold fX3_given_b74
  rw [wellM hf, zB2_t rfl, i10]
theorem gv11_ill {M : MS} {s : Nat} (hs : s < 2 ^ 31) {m : Nat} (v nx tk pl va : Int32) : fX3_given_b11L (m + 1) v (pM (m_fault_u M (nI s)) nx tk pl va) = some (-10 - nI s, pM (m_fault_u M (nI s)) nx tk pl va) := by
  show fX3_given_b11 (fX3_given_b11L m) _ _ = _
  unfold fX3_given_b11 fX3_given_b74
  rw [illM hs, zB2_t rfl, i00, illM hs, zB2_t rfl, i00]
  rfl
theorem gv64_1 {M : MS} (hf : m_fault M = -1) (K : Int32 → MS → Option (Int32 × MS)) (v nx tk pl va : Int32) {S : MS} (h : fX3_advances (pM M nx tk pl va) = some S) : fX3_given_b64 K v 1 (pM M nx tk pl va) = K (v + 1) S := by
  unfold fX3_given_b64
  rw [takes1 hf, h, zB1_t rfl, zB2_t rfl]
/-- the texts are the same still -/
def SameT (t t' : TS) : Prop := t_bytes t' = t_bytes t ∧ t_length t' = t_length t
theorem readG {T : Nat} {B : Nat → Nat} : ∀ (d n m k q s : Nat) (t : TS) (M : MS) (tok mean tok' va : Int32), k + d = 8 → d < n → d + 1 < m → TB t M T B → t_told t = nI k → m_fault M = -1 → (∀ j, j < k → t_sums t j = m_draft M j) → s ≤ q → q ≤ T → (tok ≠ 9 → 1 ≤ q) → TK tok mean tok' va →
    (∃ k' t' M', k' ≤ 8 ∧ SameT t t' ∧ SameM M M' ∧ t_told t' = nI k' ∧ (∀ j, j < k' → t_sums t' j = m_draft M' j) ∧ fX1_readGiven_b4L n (pX t (nI q) (nI s) tok mean) = some (-1, t') ∧ fX3_given_b11L m (nI k) (pM M (nI q) tok' (nI s) va) = fX3_given_b91L zF (nI k') 0 M') ∨
    (∃ s' t' M', s' ≤ T ∧ SameT t t' ∧ SameM M M' ∧ fX1_readGiven_b4L n (pX t (nI q) (nI s) tok mean) = some (nI s', t') ∧ fX3_given_b11L m (nI k) (pM M (nI q) tok' (nI s) va) = some (-10 - nI s', M')) := by
  intro d
  induction d with
  | zero =>
    intro n m k q s t M tok mean tok' va hk hn hm hB hto hf hD hsq hqT hq1 hK
    have h4 := hB.1
    obtain ⟨n, rfl⟩ : ∃ z, n = z + 1 := ⟨n - 1, by omega⟩
    obtain ⟨m, rfl⟩ : ∃ z, m = z + 2 := ⟨m - 2, by omega⟩
    have : k = 8 := by omega
    subst this
    have h9 := hK.tok7.2.2
    have hX : fX1_readGiven_b4L (n + 1) (pX t (nI q) (nI s) tok mean) = if tok = 9 then some (-1, pX t (nI q) (nI s) tok mean) else some (nI s, pX t (nI q) (nI s) tok mean) := by
      show fX1_readGiven_b4 (fX1_readGiven_b4L n) _ = _
      unfold fX1_readGiven_b4 fX1_readGiven_b51
      rw [px_told, hto, if_pos (by decide), px_token, px_start]
    have hM : fX3_given_b11L (m + 2) (nI 8) (pM M (nI q) tok' (nI s) va) = if tok' = 0 then fX3_given_b91L zF (nI 8) 0 (pM M (nI q) tok' (nI s) va) else some (-10 - nI s, pM (m_fault_u M (nI s)) (nI q) tok' (nI s) va) := by
      show fX3_given_b11 (fX3_given_b11L (m + 1)) _ _ = _
      unfold fX3_given_b11
      rw [wellM hf, zB2_t rfl, i10, pm_token, gv74_ok hf, if_pos (show nI 8 = 8 by decide), takes0 hf, zB2_t rfl, gv11_ill (by omega)]
    rw [hX, hM]
    by_cases h : tok = 9
    · rw [if_pos h, if_pos (h9.mp h)]
      exact Or.inl ⟨8, pX t (nI q) (nI s) tok mean, pM M (nI q) tok' (nI s) va, Nat.le_refl 8, ⟨rfl, rfl⟩, same_pM M _ _ _ _, hto, hD, rfl, rfl⟩
    · rw [if_neg h, if_neg (fun e => h (h9.mpr e))]
      exact Or.inr ⟨s, pX t (nI q) (nI s) tok mean, pM (m_fault_u M (nI s)) (nI q) tok' (nI s) va, by omega, ⟨rfl, rfl⟩, (same_fault M _).tr (same_pM _ _ _ _ _), rfl, rfl⟩
  | succ d ih =>
    intro n m k q s t M tok mean tok' va hk hn hm hB hto hf hD hsq hqT hq1 hK
    have h4 := hB.1
    obtain ⟨n, rfl⟩ : ∃ z, n = z + 1 := ⟨n - 1, by omega⟩
    obtain ⟨m, rfl⟩ : ∃ z, m = z + 2 := ⟨m - 2, by omega⟩
    have h9 := hK.tok7.2.2
    have hk8 : k < 8 := by omega
    have hX : fX1_readGiven_b4L (n + 1) (pX t (nI q) (nI s) tok mean) = if tok = 9 then some (-1, pX t (nI q) (nI s) tok mean) else zB2 (fX1_readSum (pX t (nI q) (nI s) tok mean)) (fun r S => if r = 0 then some (t_start S, S) else zB1 (fX1_next (t_told_u S (t_told S + 1))) (fun S2 => fX1_readGiven_b4L n S2)) := by
      show fX1_readGiven_b4 (fX1_readGiven_b4L n) _ = _
      unfold fX1_readGiven_b4 fX1_readGiven_b51
      rw [px_told, hto, if_neg (show ¬ (8 : Int32) ≤ nI k from nI_ge hk8 (by decide)), px_token]
      by_cases h : tok = 9
      · rw [if_pos h, if_pos h, if_pos h]
      · rw [if_neg h, if_neg h]
        rfl
    have hM : fX3_given_b11L (m + 2) (nI k) (pM M (nI q) tok' (nI s) va) = if tok' = 0 then fX3_given_b91L zF (nI k) 0 (pM M (nI q) tok' (nI s) va) else zB2 (fX3_readsSum (pM M (nI q) tok' (nI s) va)) (fun r S => if m_token S = 5 then fX3_given_b64 (fX3_given_b11L (m + 1)) (nI k) 1 (m_draft_u S (vp_updL (m_draft S) k r)) else fX3_given_b64 (fX3_given_b11L (m + 1)) (nI k) 0 (m_draft_u S (vp_updL (m_draft S) k r))) := by
      show fX3_given_b11 (fX3_given_b11L (m + 1)) _ _ = _
      unfold fX3_given_b11
      rw [wellM hf, zB2_t rfl, i10, pm_token, gv74_ok hf, if_neg (show ¬ nI k = 8 from fun e => by have := (nI_eq (b := 8) (show k < 2 ^ 31 by omega) (by decide)).mp e; omega)]
      by_cases h : tok' = 0
      · rw [if_pos h, if_pos h]
      · rw [if_neg h, if_neg h]
        congr 1
        funext r S
        rw [zGI_t (vp_in_nI hk8 (by decide)), zL_t, nI_clamp (show k < 2 ^ 31 by omega)]
        rfl
    rw [hX, hM]
    by_cases h : tok = 9
    · rw [if_pos h, if_pos (h9.mp h)]
      exact Or.inl ⟨k, pX t (nI q) (nI s) tok mean, pM M (nI q) tok' (nI s) va, by omega, ⟨rfl, rfl⟩, same_pM M _ _ _ _, hto, hD, rfl, rfl⟩
    · rw [if_neg h, if_neg (fun e => h (h9.mpr e))]
      rcases sumR hB (show k < 24 by omega) hto hf 401 zF zF q s 0 tok mean tok' va 0 (by omega) (by decide) (by decide) hsq hqT (by omega) (fun h => by have := hq1 h; omega) hK with ⟨q', s', mean', va', sum', a1, a2, a3, a4, a5, a6⟩ | ⟨s', a, b, mean', sum', M', a1, a2, a3, a4⟩
      · have a5 : fX1_readSum (pX t (nI q) (nI s) tok mean) = _ := a5
        have a6 : fX3_readsSum (pM M (nI q) tok' (nI s) va) = _ := a6
        have hB2 : TB (t_told_u (t_sums_u t (vp_updL (t_sums t) k sum')) (nI (k + 1))) (m_draft_u M (vp_updL (m_draft M) k sum')) T B := hB
        obtain ⟨q2, s2, tok2, mean2, tok2', va2, b1, b2, b3, b4, b5, b6, b7⟩ := nextR hB2 a2 (nI s') 8 mean' 5 (nI s') va'
        rw [a5, a6, zB2_t rfl, zB2_t rfl, i10, px_told, show t_told (t_sums_u t (vp_updL (t_sums t) k sum')) = nI k from hto, nI_1, px_uT, b6, zB1_t rfl, pm_token, if_pos rfl, pm_draft, pm_uD, gv64_1 (M := m_draft_u M (vp_updL (m_draft M) k sum')) hf (fX3_given_b11L (m + 1)) (nI k) _ _ _ _ b7, nI_1]
        have hD2 : ∀ j, j < k + 1 → t_sums (t_told_u (t_sums_u t (vp_updL (t_sums t) k sum')) (nI (k + 1))) j = m_draft (m_draft_u M (vp_updL (m_draft M) k sum')) j := fun j hj => by
          rw [ts_tu, ts_u, md_u]
          by_cases e : j = k
          · subst e
            rw [pk_uLs, pk_uLs]
          · rw [pk_uLn e, pk_uLn e]
            exact hD j (by omega)
        rcases ih n (m + 1) (k + 1) q2 s2 _ _ tok2 mean2 tok2' va2 (by omega) (by omega) (by omega) hB2 rfl hf hD2 b1 b2 (fun h => by have := b4 h; omega) b5 with ⟨k', t', M', c1, c2, c3, c4, c5, c6, c7⟩ | ⟨s3, t', M', c1, c2, c3, c4, c5⟩
        · exact Or.inl ⟨k', t', M', c1, c2, (same_draft M _).tr c3, c4, c5, c6, c7⟩
        · exact Or.inr ⟨s3, t', M', c1, c2, (same_draft M _).tr c3, c4, c5⟩
      · have a2 : fX1_readSum (pX t (nI q) (nI s) tok mean) = _ := a2
        have a3 : fX3_readsSum (pM M (nI q) tok' (nI s) va) = _ := a3
        rw [a2, a3, zB2_t rfl, zB2_t rfl, i00, px_start]
        obtain ⟨x1, x2, x3, x4, hM' | ⟨hM', h5⟩⟩ := a4
        · subst hM'
          have key : ∀ u : Int32, fX3_given_b64 (fX3_given_b11L (m + 1)) (nI k) u (m_draft_u (pM (m_fault_u M (nI s')) x1 x2 x3 x4) (vp_updL (m_draft (pM (m_fault_u M (nI s')) x1 x2 x3 x4)) k sum')) = some (-10 - nI s', pM (m_fault_u (m_draft_u M (vp_updL (m_draft M) k sum')) (nI s')) x1 x2 x3 x4) := fun u => by
            rw [pm_draft, pm_uD, fd_g, fd_c]
            unfold fX3_given_b64
            rw [takesN (by omega), zB2_t rfl, gv11_ill (by omega)]
          rw [key 1, key 0, ite_self]
          exact Or.inr ⟨s', pX t a (nI s') b mean', _, a1, ⟨rfl, rfl⟩, ((same_draft M _).tr (same_fault _ _)).tr (same_pM _ _ _ _ _), rfl, rfl⟩
        · subst hM'
          rw [pm_token, if_neg h5, pm_draft, pm_uD]
          unfold fX3_given_b64
          rw [takes0 (M := m_draft_u M (vp_updL (m_draft M) k sum')) hf, zB2_t rfl, gv11_ill (by omega)]
          exact Or.inr ⟨s', pX t a (nI s') b mean', _, a1, ⟨rfl, rfl⟩, ((same_draft M _).tr (same_fault _ _)).tr (same_pM _ _ _ _ _), rfl, rfl⟩
