/-! ===== a sum read on both sides ===== -/
theorem pm_fault (M : MS) (nx tk pl va : Int32) : m_fault (pM M nx tk pl va) = m_fault M := rfl
theorem pm_uf (M : MS) (nx tk pl va z : Int32) : m_fault_u (pM M nx tk pl va) z = pM (m_fault_u M z) nx tk pl va := rfl
theorem px_told (t : TS) (q s tk mn : Int32) : t_told (pX t q s tk mn) = t_told t := rfl
theorem px_sums (t : TS) (q s tk mn : Int32) : t_sums (pX t q s tk mn) = t_sums t := rfl
theorem px_uS (t : TS) (q s tk mn : Int32) (v : Nat → Int64) : t_sums_u (pX t q s tk mn) v = pX (t_sums_u t v) q s tk mn := rfl
theorem wellM {M : MS} (h : m_fault M = -1) (nx tk pl va : Int32) : fX3_isWell (pM M nx tk pl va) = some (1, pM M nx tk pl va) := by
  unfold fX3_isWell
  rw [pm_fault, h, if_neg (by decide)]
theorem illM {M : MS} {s : Nat} (hs : s < 2 ^ 31) (nx tk pl va : Int32) : fX3_isWell (pM (m_fault_u M (nI s)) nx tk pl va) = some (0, pM (m_fault_u M (nI s)) nx tk pl va) := by
  unfold fX3_isWell
  rw [pm_fault, show m_fault (m_fault_u M (nI s)) = nI s from rfl, if_pos (nI_pos' hs)]
theorem takes1 {M : MS} (h : m_fault M = -1) (nx tk pl va : Int32) : fX3_takes 1 (pM M nx tk pl va) = zB1 (fX3_advances (pM M nx tk pl va)) (fun S => some (va, S)) := by
  unfold fX3_takes
  rw [wellM h, zB2_t rfl, i10, i10, pm_value]
theorem takes0 {M : MS} (h : m_fault M = -1) (nx tk pl va : Int32) : fX3_takes 0 (pM M nx tk pl va) = some (0, pM (m_fault_u M pl) nx tk pl va) := by
  unfold fX3_takes
  rw [wellM h, zB2_t rfl, i10, i00, zL_t, pm_place, pm_uf]
theorem takesN {M : MS} {s : Nat} (hs : s < 2 ^ 31) (a nx tk pl va : Int32) : fX3_takes a (pM (m_fault_u M (nI s)) nx tk pl va) = some (0, pM (m_fault_u M (nI s)) nx tk pl va) := by
  unfold fX3_takes
  rw [illM hs, zB2_t rfl, i00]
/-- the term that a token is -/
def TmX (tok mean : Int32) (v : Int64) : Prop := (∃ p, p < 64 ∧ tok = 5 ∧ mean = nI p ∧ v = e1 p) ∨ (∃ p, p < 2 ∧ tok = 6 ∧ mean = nI p ∧ v = if p = 1 then 1 else 0)
def TmM (tok va : Int32) (v : Int64) : Prop := (∃ p, p < 64 ∧ tok = 1 ∧ va = nI p ∧ v = e1 p) ∨ (∃ p, p < 2 ∧ tok = 3 ∧ va = nI p ∧ v = if p = 1 then 1 else 0)
def NoM (tok va : Int32) : Prop := ¬ tok = 1 ∧ (¬ tok = 3 ∨ 2 ≤ va)
theorem TK.term {tok mean tok' va : Int32} (h : TK tok mean tok' va) : (∃ v, TmX tok mean v ∧ TmM tok' va v ∧ tok ≠ 9) ∨ (NoM tok' va ∧ ∀ t q s, fX1_isTerm (pX t q s tok mean) = some (0, pX t q s tok mean)) := by
  have key : ∀ k k' : Int32, tok = k → tok' = k' → ¬ k = 5 → ¬ k = 6 → ¬ k' = 1 → ¬ k' = 3 → NoM tok' va ∧ ∀ t q s, fX1_isTerm (pX t q s tok mean) = some (0, pX t q s tok mean) := fun k k' e1 e2 n5 n6 n1 n3 => by
    subst e1
    subst e2
    refine ⟨⟨n1, Or.inl n3⟩, fun t q s => ?_⟩
    unfold fX1_isTerm
    rw [px_token, if_neg n5, if_neg n6]
  rcases h with ⟨e1, e2, -⟩ | ⟨e1, e2, -⟩ | ⟨e1, e2, -⟩ | ⟨e1, e2, -⟩ | ⟨p, hp, e1, e2, e3, e4⟩ | ⟨v, hv, e1, e2, e3, e4⟩ | ⟨e1, e2⟩ | ⟨e1, e2⟩ | ⟨e1, e2⟩ | ⟨e1, e2⟩
  · exact Or.inr (key 1 2 e1 e2 (by decide) (by decide) (by decide) (by decide))
  · exact Or.inr (key 2 2 e1 e2 (by decide) (by decide) (by decide) (by decide))
  · exact Or.inr (key 3 2 e1 e2 (by decide) (by decide) (by decide) (by decide))
  · exact Or.inr (key 4 2 e1 e2 (by decide) (by decide) (by decide) (by decide))
  · exact Or.inl ⟨_, Or.inl ⟨p, hp, e1, e3, rfl⟩, Or.inl ⟨p, hp, e2, e4, rfl⟩, by rw [e1]; decide⟩
  · rcases Nat.lt_or_ge v 2 with q | q
    · exact Or.inl ⟨_, Or.inr ⟨v, q, e1, e3, rfl⟩, Or.inr ⟨v, q, e2, e4, rfl⟩, by rw [e1]; decide⟩
    · refine Or.inr ⟨⟨by rw [e2]; decide, Or.inr (by rw [e4]; exact nI_le (a := 2) q (by omega))⟩, fun t z s => ?_⟩
      unfold fX1_isTerm
      rw [px_token, px_mean, e1, e3, if_neg (by decide), if_pos rfl, if_pos (show (1 : Int32) < nI v from nI_lt (a := 1) (by omega) (by omega))]
  · exact Or.inr (key 7 4 e1 e2 (by decide) (by decide) (by decide) (by decide))
  · exact Or.inr (key 8 5 e1 e2 (by decide) (by decide) (by decide) (by decide))
  · exact Or.inr (key 9 0 e1 e2 (by decide) (by decide) (by decide) (by decide))
  · exact Or.inr (key 10 6 e1 e2 (by decide) (by decide) (by decide) (by decide))
theorem TmX.ok {tok mean : Int32} {v : Int64} (h : TmX tok mean v) (t : TS) (q s : Int32) : fX1_isTerm (pX t q s tok mean) = some (1, pX t q s tok mean) ∧ fX1_termAtHand (pX t q s tok mean) = some (v, pX t q s tok mean) := by
  unfold fX1_isTerm fX1_termAtHand
  rw [px_token, px_mean]
  rcases h with ⟨p, hp, rfl, rfl, rfl⟩ | ⟨p, hp, rfl, rfl, rfl⟩
  · rw [if_pos rfl, if_pos rfl, e1_shl p hp]
    exact ⟨rfl, rfl⟩
  · have hp2 : p = 0 ∨ p = 1 := by omega
    rw [if_neg (by decide), if_pos rfl, if_neg (show ¬ (1 : Int32) < nI p from nI_nlt (a := 1) (b := p) (by omega) (by decide)), if_neg (by decide)]
    rcases hp2 with rfl | rfl
    · exact ⟨rfl, by rw [if_neg (by decide), if_neg (by decide)]⟩
    · exact ⟨rfl, by rw [if_pos (by decide), if_pos rfl]⟩
theorem sumX_ok {tok mean : Int32} {v : Int64} (h : TmX tok mean v) (t : TS) (q s : Int32) {n terms : Nat} (ht : terms < 400) (sum : Int64) {t1 : TS} (h1 : fX1_next (pX t q s tok mean) = some t1) : fX1_readSum_b4L (n + 1) sum (nI terms) (pX t q s tok mean) = if t_token t1 = 7 then zB1 (fX1_next t1) (fun S => fX1_readSum_b4L n (sum ^^^ v) (nI (terms + 1)) S) else fX1_readSum_b53 (sum ^^^ v) t1 := by
  show fX1_readSum_b4 (fX1_readSum_b4L n) _ _ _ = _
  unfold fX1_readSum_b4
  rw [if_neg (show ¬ (400 : Int32) ≤ nI terms from nI_ge ht (by decide)), (h.ok t q s).1, zB2_t rfl, i10, (h.ok t q s).2, zB2_t rfl, h1, zB1_t rfl, nI_1]
theorem sumM_ok {M : MS} (hf : m_fault M = -1) {tok va : Int32} {v : Int64} (h : TmM tok va v) (nx pl : Int32) {m : Nat} (sum : Int64) {nx1 tok1 pl1 va1 : Int32} (h1 : fX3_advances (pM M nx tok pl va) = some (pM M nx1 tok1 pl1 va1)) : fX3_readsSum_b4L (m + 1) sum 1 (pM M nx tok pl va) = if tok1 = 4 then zB1 (fX3_advances (pM M nx1 tok1 pl1 va1)) (fun S => fX3_readsSum_b4L m (sum ^^^ v) 1 S) else fX3_readsSum_b4L m (sum ^^^ v) 0 (pM M nx1 tok1 pl1 va1) := by
  have h97 : ∀ u : Int64, fX3_readsSum_b97 (fX3_readsSum_b4L m) u sum (pM M nx1 tok1 pl1 va1) = if tok1 = 4 then zB1 (fX3_advances (pM M nx1 tok1 pl1 va1)) (fun S => fX3_readsSum_b4L m (sum ^^^ u) 1 S) else fX3_readsSum_b4L m (sum ^^^ u) 0 (pM M nx1 tok1 pl1 va1) := fun u => by
    unfold fX3_readsSum_b97 fX3_readsSum_b118 fX3_readsSum_b119 fX3_readsSum_b128
    rw [wellM hf, zB2_t rfl, i10, pm_token, i10, i00]
  have h57a : fX3_readsSum_b57 (fX3_readsSum_b4L m) sum 1 1 (pM M nx tok pl va) = fX3_readsSum_b97 (fX3_readsSum_b4L m) ((1 : Int64) <<< (va.toInt64 &&& 63)) sum (pM M nx1 tok1 pl1 va1) := by
    unfold fX3_readsSum_b57
    rw [takes1 hf, h1, zB1_t rfl, zB2_t rfl, wellM hf, zB2_t rfl, i10, i10]
  have h57b : fX3_readsSum_b57 (fX3_readsSum_b4L m) sum 0 1 (pM M nx tok pl va) = if va = 1 then fX3_readsSum_b97 (fX3_readsSum_b4L m) 1 sum (pM M nx1 tok1 pl1 va1) else fX3_readsSum_b97 (fX3_readsSum_b4L m) 0 sum (pM M nx1 tok1 pl1 va1) := by
    unfold fX3_readsSum_b57
    rw [takes1 hf, h1, zB1_t rfl, zB2_t rfl, wellM hf, zB2_t rfl, i10, i00]
  show fX3_readsSum_b4 (fX3_readsSum_b4L m) _ _ _ = _
  unfold fX3_readsSum_b4
  rw [i10, wellM hf, zB2_t rfl, i10, pm_token]
  unfold fX3_readsSum_b28 fX3_readsSum_b52
  rw [i10, i00, h57a, h57b, pm_token, pm_value]
  rcases h with ⟨p, hp, rfl, rfl, rfl⟩ | ⟨p, hp, rfl, rfl, rfl⟩
  · rw [if_pos rfl, e1_shl p hp]
    exact h97 _
  · rw [if_neg (by decide), if_pos rfl, if_neg (show ¬ (2 : Int32) ≤ nI p from nI_ge (b := 2) hp (by decide))]
    have hp2 : p = 0 ∨ p = 1 := by omega
    rcases hp2 with rfl | rfl
    · rw [if_neg (by decide)]
      exact h97 _
    · rw [if_pos (by decide)]
      exact h97 _
theorem sumM_end (M : MS) (m : Nat) (sum : Int64) : fX3_readsSum_b4L (m + 1) sum 0 M = some (sum, M) := by
  show fX3_readsSum_b4 (fX3_readsSum_b4L m) _ _ _ = _
  unfold fX3_readsSum_b4
  rw [i00]
theorem sumM_no {M : MS} (hf : m_fault M = -1) {tok va : Int32} (h : NoM tok va) (nx : Int32) {s : Nat} (hs : s < 2 ^ 31) {m : Nat} (sum : Int64) : fX3_readsSum_b4L (m + 2) sum 1 (pM M nx tok (nI s) va) = some (sum, pM (m_fault_u M (nI s)) nx tok (nI s) va) := by
  have h97 : fX3_readsSum_b97 (fX3_readsSum_b4L (m + 1)) 0 sum (pM (m_fault_u M (nI s)) nx tok (nI s) va) = some (sum, pM (m_fault_u M (nI s)) nx tok (nI s) va) := by
    unfold fX3_readsSum_b97 fX3_readsSum_b118 fX3_readsSum_b119 fX3_readsSum_b128
    rw [illM hs, zB2_t rfl, i00, i00, xor_0]
    exact sumM_end _ m sum
  have h56 : fX3_readsSum_b57 (fX3_readsSum_b4L (m + 1)) sum 0 0 (pM M nx tok (nI s) va) = some (sum, pM (m_fault_u M (nI s)) nx tok (nI s) va) := by
    unfold fX3_readsSum_b57
    rw [takes0 hf, zB2_t rfl, illM hs, zB2_t rfl, i00]
    exact h97
  show fX3_readsSum_b4 (fX3_readsSum_b4L (m + 1)) _ _ _ = _
  unfold fX3_readsSum_b4
  rw [i10, wellM hf, zB2_t rfl, i10, pm_token, if_neg h.1]
  unfold fX3_readsSum_b28 fX3_readsSum_b56
  rw [i00, pm_token, pm_value, h56]
  rcases h.2 with h3 | h3
  · rw [if_neg h3]
  · by_cases q : tok = 3
    · rw [if_pos q, if_pos h3]
    · rw [if_neg q]
/-- how a fault looks -/
def BadM (M : MS) (s : Nat) (M' : MS) : Prop := ∃ a b c v, M' = pM (m_fault_u M (nI s)) a b c v ∨ (M' = pM M a b (nI s) v ∧ b ≠ 5)
theorem TK.tok7 {tok mean tok' va : Int32} (h : TK tok mean tok' va) : (tok = 7 ↔ tok' = 4) ∧ (tok = 8 ↔ tok' = 5) ∧ (tok = 9 ↔ tok' = 0) := by
  rcases h with ⟨rfl, rfl, -⟩ | ⟨rfl, rfl, -⟩ | ⟨rfl, rfl, -⟩ | ⟨rfl, rfl, -⟩ | ⟨p, -, rfl, rfl, -⟩ | ⟨v, -, rfl, rfl, -⟩ | ⟨rfl, rfl⟩ | ⟨rfl, rfl⟩ | ⟨rfl, rfl⟩ | ⟨rfl, rfl⟩ <;> decide
theorem sumR {t : TS} {M : MS} {T : Nat} {B : Nat → Nat} (h : TB t M T B) {k : Nat} (hk : k < 24) (hto : t_told t = nI k) (hf : m_fault M = -1) : ∀ (d n m q s terms : Nat) (tok mean tok' va : Int32) (sum : Int64), T < q + d → d < n → d < m → s ≤ q → q ≤ T → 2 * terms ≤ q → (tok ≠ 9 → 2 * terms + 1 ≤ q) → TK tok mean tok' va →
    (∃ q' s' mean' va' sum', s' ≤ q' ∧ q' ≤ T ∧ q ≤ q' ∧ 1 ≤ q' ∧ fX1_readSum_b4L n sum (nI terms) (pX t (nI q) (nI s) tok mean) = some (1, pX (t_sums_u t (vp_updL (t_sums t) k sum')) (nI q') (nI s') 8 mean') ∧ fX3_readsSum_b4L m sum 1 (pM M (nI q) tok' (nI s) va) = some (sum', pM M (nI q') 5 (nI s') va')) ∨
    (∃ s' a b mean' sum' M', s' ≤ T ∧ fX1_readSum_b4L n sum (nI terms) (pX t (nI q) (nI s) tok mean) = some (0, pX t a (nI s') b mean') ∧ fX3_readsSum_b4L m sum 1 (pM M (nI q) tok' (nI s) va) = some (sum', M') ∧ BadM M s' M') := by
  have h4 := h.1
  intro d
  induction d with
  | zero =>
    intro n m q s terms tok mean tok' va sum hd
    omega
  | succ d ih =>
    intro n m q s terms tok mean tok' va sum hd hn hm hsq hqT ht1 ht2 hT
    obtain ⟨n, rfl⟩ : ∃ z, n = z + 1 := ⟨n - 1, by omega⟩
    obtain ⟨m, rfl⟩ : ∃ z, m = z + 2 := ⟨m - 2, by omega⟩
    rcases hT.term with ⟨v, x1, m1, hn9⟩ | ⟨hno, hx⟩
    · obtain ⟨q1, s1, tok1, mean1, tok1', va1, a1, a2, a3, a4, a5, a6, a7⟩ := nextR h hqT (nI s) tok mean tok' (nI s) va
      rw [sumX_ok x1 t (nI q) (nI s) (by omega) sum a6, sumM_ok hf m1 (nI q) (nI s) sum a7, px_token]
      have h7 := a5.tok7
      by_cases hp : tok1 = 7
      · rw [if_pos hp, if_pos (h7.1.mp hp)]
        obtain ⟨q2, s2, tok2, mean2, tok2', va2, b1, b2, b3, b4, b5, b6, b7⟩ := nextR h a2 (nI s1) tok1 mean1 tok1' (nI s1) va1
        rw [b6, b7, zB1_t rfl, zB1_t rfl]
        have hq1 := a4 (by rw [hp]; decide)
        have hq0 := ht2 hn9
        rcases ih n (m + 1) q2 s2 (terms + 1) tok2 mean2 tok2' va2 (sum ^^^ v) (by omega) (by omega) (by omega) b1 b2 (by omega) (fun h9 => by have := b4 h9; omega) b5 with ⟨q', s', mean', va', sum', c1, c2, c3, c4, c5, c6⟩ | c
        · exact Or.inl ⟨q', s', mean', va', sum', c1, c2, by omega, c4, c5, c6⟩
        · exact Or.inr c
      · rw [if_neg hp, if_neg (fun e => hp (h7.1.mpr e)), sumM_end]
        unfold fX1_readSum_b53
        rw [px_token, px_told, hto]
        by_cases h8 : tok1 = 8
        · have hq1 := a4 (by rw [h8]; decide)
          rw [if_pos h8, if_neg (nI_pos (by omega)), if_pos (show nI k < (24 : Int32) from nI_lt hk (by decide)), zGI_t (vp_in_nI hk (by decide)), zL_t, px_sums, px_uS, nI_clamp (by omega), h7.2.1.mp h8, h8]
          exact Or.inl ⟨q1, s1, mean1, va1, sum ^^^ v, a1, a2, by omega, by omega, rfl, rfl⟩
        · rw [if_neg h8]
          exact Or.inr ⟨s1, nI q1, tok1, mean1, sum ^^^ v, _, by omega, rfl, rfl, nI q1, tok1', nI s1, va1, Or.inr ⟨rfl, fun e => h8 (h7.2.1.mpr e)⟩⟩
    · refine Or.inr ⟨s, nI q, tok, mean, sum, pM (m_fault_u M (nI s)) (nI q) tok' (nI s) va, by omega, ?_, sumM_no hf hno (nI q) (by omega) sum, nI q, tok', nI s, va, Or.inl rfl⟩
      show fX1_readSum_b4 (fX1_readSum_b4L n) _ _ _ = _
      unfold fX1_readSum_b4
      rw [if_neg (show ¬ (400 : Int32) ≤ nI terms from nI_ge (show terms < 400 by omega) (by decide)), hx, zB2_t rfl, i00]
