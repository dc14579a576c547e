/-- by -/
theorem stepBy {t : TS} {M : MS} {T G k q s : Nat} {B : Nat → Nat} (hB : TB t M T B) (hk : k < 24) (hG8 : G ≤ 8) (hto : t_told t = nI k) (hG : m_given M = nI G) (hf : m_fault M = -1) (hqT : q ≤ T) (mean : Int32) :
    StepOut T G k q t M (zB2 (fX1_readLine_4 (nI (G + k)) (pX (stX t (t_sums t) (upd (t_ops t) k 2) (t_firsts t) (t_seconds t)) (nI q) (nI s) 2 mean)) (fun r_107 S_107 =>
(if r_107 = 0 then some ((0 : Int32), S_107) else
(zB2 (fX1_readLetter S_107) (fun r_114 S_114 =>
(if r_114 = 0 then some ((0 : Int32), S_114) else
(zB2 (fX1_readSemicolon S_114) (fun r_121 S_121 =>
(if r_121 = 0 then some ((0 : Int32), S_121) else
some ((1 : Int32), S_121))))))))))  (fX3_readsStep_b14 (nI k) 1 (pM M (nI q) 2 (nI s) 1)) := by
  have h4 := hB.1
  have hB0 := hB.sx (t_sums t) (upd (t_ops t) k 2) (t_firsts t) (t_seconds t)
  obtain ⟨q1, s1, tok1, mean1, tok1', va1, a1, a2, a3, a4, a5, a6, a7⟩ := nextR hB0 hqT (nI s) 2 mean 2 (nI s) 1
  have hX4 := lineX4 (t := stX t (t_sums t) (upd (t_ops t) k 2) (t_firsts t) (t_seconds t)) (A := G + k) hk hto (nI q) (nI s) 2 mean a6
  rw [b14_go hf hk hG _ _ _ _ (by decide) a7]
  rcases a5.num (A := G + k) (by omega) with ⟨v, n1, n2, n3, n4, n5, n6⟩ | ⟨n1, n2⟩
  · have hq1 := a4 (by rw [n3]; decide)
    rw [hX4.1 v n1 (by omega) n3 n5, zB2_t rfl, i10, sx_f, sx_uf, if_pos n4, n6, if_neg (nI_ge n1 (by omega))]
    have hB1 := (hB.sx (t_sums t) (upd (t_ops t) k 2) (upd (t_firsts t) k (nI v)) (t_seconds t)).st (upd (m_step M) (3 * k) 1)
    obtain ⟨q2, s2, tok2, mean2, tok2', va2, b1, b2, b3, b4, b5, b6, b7⟩ := nextR hB1 a2 (nI s1) tok1 mean1 tok1' (nI s1) (nI v)
    have hX5 := letX (t := stX t (t_sums t) (upd (t_ops t) k 2) (upd (t_firsts t) k (nI v)) (t_seconds t)) hk hto (nI q1) (nI s1) tok1 mean1 b6
    rw [b92_go (M := m_step_u M (upd (m_step M) (3 * k) 1)) hf hk hG _ _ _ _ _ b7, if_pos rfl, ss_g, ss_u]
    rcases b5.let1 with ⟨v2, p1, p2, p3, p4, p5, p6⟩ | ⟨p1, p2⟩
    · have hq2 := b4 (by rw [p3]; decide)
      rw [hX5.1 v2 p1 p2 p3 p5, zB2_t rfl, i10, sx_g, sx_ug, if_pos p4, p6, lettersM v2 p1, zB1_t rfl, if_pos ((lt6_ne1 v2 p1).mpr p2)]
      have hB2 := (hB.sx (t_sums t) (upd (t_ops t) k 2) (upd (t_firsts t) k (nI v)) (upd (t_seconds t) k (nI v2))).st (upd (upd (m_step M) (3 * k) 1) (3 * k + 1) (nI v))
      obtain ⟨q3, s3, tok3, mean3, tok3', va3, c1, c2, c3, c4, c5, c6, c7⟩ := nextR hB2 b2 (nI s2) tok2 mean2 tok2' (nI s2) (nI v2)
      rw [semiX (nI q2) (nI s2) tok2 mean2 c6, good135 (M := m_step_u M (upd (upd (m_step M) (3 * k) 1) (3 * k + 1) (nI v))) hf (show 3 * k + 2 < 72 by omega) _ _ _ _ c7, ss_g, ss_u]
      have hM3 : MStp k M (m_step_u M (up3 (m_step M) k 1 (nI v) (nI v2))) := mstp3 (show v < 32 by omega) rfl
      by_cases h8 : tok3 = 8
      · have hq3 := c4 (by rw [h8]; decide)
        rw [if_pos h8, zB2_t rfl, i10, c5.tok7.2.1.mp h8, h8]
        refine Or.inl ⟨q3, s3, mean3, va3, _, m_step_u M (up3 (m_step M) k 1 (nI v) (nI v2)), c1, c2, by omega, tstp_of (fun j hj => ⟨pk_un hj, pk_un hj, pk_un hj, rfl⟩), hM3, hf, Or.inr (Or.inl ⟨v, v2, n1, p1, ?_, ?_, ?_, ?_, ?_, ?_⟩), rfl, good182 (M := m_step_u M (up3 (m_step M) k 1 (nI v) (nI v2))) hf _ _ _⟩
        · rw [sx_f, pk_us]
        · rw [ss_g, up3_1]
        · rw [sx_g, pk_us]
        · rw [ss_g, up3_2]
        · rw [sx_o, pk_us]
        · rw [ss_g, up3_0]
      · rw [if_neg h8, zB2_t rfl, i00]
        refine Or.inr ⟨s3, _, m_step_u M (up3 (m_step M) k 1 (nI v) (nI v2)), nI q3, tok3, mean3, nI q3, tok3', nI s3, va3, by omega, samet_sx _ _ _ _ _, hM3, rfl, bad182 (M := m_step_u M (up3 (m_step M) k 1 (nI v) (nI v2))) hf _ _ _ (fun e => h8 (c5.tok7.2.1.mpr e))⟩
    · rw [hX5.2 p1, zB2_t rfl, i00]
      have key : (if tok2' = 1 then zB1 (fX3_letters va2) (fun r => if r = 1 then fX3_readsStep_b135 1 (nI (3 * k + 2)) (pM (m_step_u M (upd (upd (m_step M) (3 * k) 1) (3 * k + 1) (nI v))) (nI q2) tok2' (nI s2) va2) else fX3_readsStep_b134 (nI (3 * k + 2)) (pM (m_step_u M (upd (upd (m_step M) (3 * k) 1) (3 * k + 1) (nI v))) (nI q2) tok2' (nI s2) va2)) else fX3_readsStep_b134 (nI (3 * k + 2)) (pM (m_step_u M (upd (upd (m_step M) (3 * k) 1) (3 * k + 1) (nI v))) (nI q2) tok2' (nI s2) va2)) = fX3_readsStep_b134 (nI (3 * k + 2)) (pM (m_step_u M (upd (upd (m_step M) (3 * k) 1) (3 * k + 1) (nI v))) (nI q2) tok2' (nI s2) va2) := by
        rcases p2 with p2 | ⟨p, hp, hl, e⟩
        · rw [if_neg p2]
        · rw [e, lettersM p hp, zB1_t rfl, if_neg (fun z => hl ((lt6_ne1 p hp).mp z)), ite_self]
      rw [key, bad135 (M := m_step_u M (upd (upd (m_step M) (3 * k) 1) (3 * k + 1) (nI v))) hf (by omega) (show 3 * k + 2 < 72 by omega), ss_g, ss_u]
      exact Or.inr ⟨s2, _, m_step_u M (up3 (m_step M) k 1 (nI v) 0), nI q2, tok2, mean2, nI q2, tok2', nI s2, va2, by omega, samet_sx _ _ _ _ _, mstp3 (show v < 32 by omega) rfl, rfl, rfl⟩
  · rw [hX4.2 n1, zB2_t rfl, i00]
    have key : (if tok1' = 3 then (if nI (G + k) ≤ va1 then fX3_readsStep_b91 (nI k) 1 (nI (3 * k + 1)) (pM (m_step_u M (upd (m_step M) (3 * k) 1)) (nI q1) tok1' (nI s1) va1) else fX3_readsStep_b92 (nI k) 1 1 (nI (3 * k + 1)) (pM (m_step_u M (upd (m_step M) (3 * k) 1)) (nI q1) tok1' (nI s1) va1)) else fX3_readsStep_b91 (nI k) 1 (nI (3 * k + 1)) (pM (m_step_u M (upd (m_step M) (3 * k) 1)) (nI q1) tok1' (nI s1) va1)) = fX3_readsStep_b91 (nI k) 1 (nI (3 * k + 1)) (pM (m_step_u M (upd (m_step M) (3 * k) 1)) (nI q1) tok1' (nI s1) va1) := by
      rcases n2 with n2 | n2
      · rw [if_neg n2]
      · rw [if_pos n2, ite_self]
    rw [key, bad92 (M := m_step_u M (upd (m_step M) (3 * k) 1)) hf (by omega) hk, ss_g, ss_u]
    exact Or.inr ⟨s1, _, m_step_u M (up3 (m_step M) k 1 0 0), nI q1, tok1, mean1, nI q1, tok1', nI s1, va1, by omega, samet_sx _ _ _ _ _, mstp3 (show 0 < 32 by omega) rfl, rfl, rfl⟩
/-- what a claim's step leaves -/
theorem mstpC {k : Nat} {M : MS} (c : Int64) (ha : ∃ a, a < 32 ∧ m_step M (3 * k + 1) = nI a) : MStp k M (m_claimed_u (m_step_u M (upd (m_step M) (3 * k) 3)) (vp_updL (m_claimed M) k c)) := by
  refine ⟨(samep_step M _).tr (samep_claim _ _), fun i h0 _ _ => pk_un h0, fun j hj => pk_uLn hj, ?_⟩
  obtain ⟨a, h1, h2⟩ := ha
  exact ⟨a, h1, (pk_un (by omega)).trans h2⟩
theorem b14_claim {M : MS} (hf : m_fault M = -1) {k : Nat} (hk : k < 24) (a b c : Int32) {a1 b1 c1 v1 : Int32} (h : fX3_advances (pM M a b c 3) = some (pM M a1 b1 c1 v1)) : fX3_readsStep_b14 (nI k) 1 (pM M a b c 3) = zB2 (fX3_readsSum (pM (m_step_u M (upd (m_step M) (3 * k) 3)) a1 b1 c1 v1)) (fun r S => fX3_readsStep_b52 r (nI k) S) := by
  unfold fX3_readsStep_b14
  rw [takes1 hf, h, zB1_t rfl, zB2_t rfl, i3, zGI_t (vp_in_nI (show 3 * k < 72 by omega) (by decide)), zL_t, if_pos rfl, pm_step, pm_uS, nI_clamp (show 3 * k < 2 ^ 31 by omega), wellM (M := m_step_u M (upd (m_step M) (3 * k) 3)) hf, zB2_t rfl, i10]
theorem b52_go (M : MS) {k : Nat} (hk : k < 24) (c : Int64) (a b p v : Int32) : fX3_readsStep_b52 c (nI k) (pM M a b p v) = fX3_readsStep_b182 (pM (m_claimed_u M (vp_updL (m_claimed M) k c)) a b p v) := by
  unfold fX3_readsStep_b52
  rw [zGI_t (vp_in_nI hk (by decide)), zL_t, pm_claimed, pm_uC, nI_clamp (by omega)]
theorem cl_s (M : MS) (f : Nat → Int32) : m_claimed (m_step_u M f) = m_claimed M := rfl
theorem sc_g (M : MS) (f : Nat → Int64) : m_step (m_claimed_u M f) = m_step M := rfl
theorem cc_g (M : MS) (f : Nat → Int64) : m_claimed (m_claimed_u M f) = f := rfl
theorem stepCl {t : TS} {M : MS} {T G k q s : Nat} {B : Nat → Nat} (hB : TB t M T B) (hk : k < 24) (hto : t_told t = nI k) (hf : m_fault M = -1) (hst : ∃ a, a < 32 ∧ m_step M (3 * k + 1) = nI a) (hqT : q ≤ T) (mean : Int32) :
    StepOut T G k q t M (zB1 (fX1_next (pX (stX t (t_sums t) (upd (t_ops t) k 4) (t_firsts t) (t_seconds t)) (nI q) (nI s) 4 mean)) (fun S_134 =>
(zB2 (fX1_readSum S_134) (fun r_138 S_138 =>
(zG (r_138 = 0 ∨ r_138 = 1) (some (r_138, S_138))))))) (fX3_readsStep_b14 (nI k) 1 (pM M (nI q) 2 (nI s) 3)) := by
  have h4 := hB.1
  have hB0 := hB.sx (t_sums t) (upd (t_ops t) k 4) (t_firsts t) (t_seconds t)
  obtain ⟨q1, s1, tok1, mean1, tok1', va1, a1, a2, a3, a4, a5, a6, a7⟩ := nextR hB0 hqT (nI s) 4 mean 2 (nI s) 3
  rw [a6, zB1_t rfl, b14_claim hf hk _ _ _ a7]
  have hB1 := hB0.st (upd (m_step M) (3 * k) 3)
  have hf1 : m_fault (m_step_u M (upd (m_step M) (3 * k) 3)) = -1 := by rw [sf_g]; exact hf
  have hf2 : ∀ g, m_fault (m_claimed_u (m_step_u M (upd (m_step M) (3 * k) 3)) g) = -1 := fun g => by rw [cf_g, sf_g]; exact hf
  rcases sumR hB1 hk (show t_told (stX t (t_sums t) (upd (t_ops t) k 4) (t_firsts t) (t_seconds t)) = nI k from hto) hf1 401 zF zF q1 s1 0 tok1 mean1 tok1' va1 0 (by omega) (by decide) (by decide) a1 a2 (by omega) (fun h => by have := a4 h; omega) a5 with ⟨q', s', mean', va', sum', e1, e2, e3, e4, e5, e6⟩ | ⟨s', a, b, mean', sum', M', e1, e2, e3, e4⟩
  · have e5 : fX1_readSum (pX (stX t (t_sums t) (upd (t_ops t) k 4) (t_firsts t) (t_seconds t)) (nI q1) (nI s1) tok1 mean1) = _ := e5
    have e6 : fX3_readsSum (pM (m_step_u M (upd (m_step M) (3 * k) 3)) (nI q1) tok1' (nI s1) va1) = _ := e6
    rw [e5, e6, zB2_t rfl, zB2_t rfl, zG_t (Or.inr rfl), b52_go _ hk, cl_s, sx_s, sx_us]
    refine Or.inl ⟨q', s', mean', va', _, m_claimed_u (m_step_u M (upd (m_step M) (3 * k) 3)) (vp_updL (m_claimed M) k sum'), e1, e2, by omega, tstp_of (fun j hj => ⟨pk_un hj, rfl, rfl, pk_uLn hj⟩), mstpC sum' hst, hf2 _, Or.inr (Or.inr ⟨?_, ?_, ?_⟩), rfl, good182 (hf2 _) _ _ _⟩
    · rw [sx_o, pk_us]
    · rw [sc_g, ss_g, pk_us]
    · rw [sx_s, cc_g, pk_uLs, pk_uLs]
  · have e2 : fX1_readSum (pX (stX t (t_sums t) (upd (t_ops t) k 4) (t_firsts t) (t_seconds t)) (nI q1) (nI s1) tok1 mean1) = _ := e2
    have e3 : fX3_readsSum (pM (m_step_u M (upd (m_step M) (3 * k) 3)) (nI q1) tok1' (nI s1) va1) = _ := e3
    rw [e2, e3, zB2_t rfl, zB2_t rfl, zG_t (Or.inl rfl)]
    obtain ⟨x1, x2, x3, x4, hM' | ⟨hM', h5⟩⟩ := e4
    · subst hM'
      rw [b52_go _ hk, fc_g, fc_c, cl_s, ill182 _ (by omega)]
      exact Or.inr ⟨s', _, m_claimed_u (m_step_u M (upd (m_step M) (3 * k) 3)) (vp_updL (m_claimed M) k sum'), a, b, mean', x1, x2, x3, x4, e1, samet_sx _ _ _ _ _, mstpC sum' hst, rfl, rfl⟩
    · subst hM'
      rw [b52_go _ hk, cl_s, bad182 (hf2 _) _ _ _ h5]
      exact Or.inr ⟨s', _, m_claimed_u (m_step_u M (upd (m_step M) (3 * k) 3)) (vp_updL (m_claimed M) k sum'), a, b, mean', x1, x2, nI s', x4, e1, samet_sx _ _ _ _ _, mstpC sum' hst, rfl, rfl⟩
/-- no step at all -/
theorem stepNo {t : TS} {M : MS} {T G k q s : Nat} (hk : k < 24) (hf : m_fault M = -1) (hsT : s ≤ T) (hT : T ≤ 400) (tok mean tok' va : Int32) : StepOut T G k q t M (some (0, pX (stX t (t_sums t) (upd (t_ops t) k tok) (t_firsts t) (t_seconds t)) (nI q) (nI s) tok mean)) (fX3_readsStep_b14 (nI k) 0 (pM M (nI q) tok' (nI s) va)) := by
  have h14 : fX3_readsStep_b14 (nI k) 0 (pM M (nI q) tok' (nI s) va) = some (pM (m_fault_u (m_step_u M (up3 (m_step M) k 0 0 0)) (nI s)) (nI q) tok' (nI s) va) := by
    unfold fX3_readsStep_b14 fX3_readsStep_b91
    rw [takes0 hf, zB2_t rfl, i3, zGI_t (vp_in_nI (show 3 * k < 72 by omega) (by decide)), zL_t, if_neg (by decide), pm_step, pm_uS, fs_g, fs_c, nI_clamp (show 3 * k < 2 ^ 31 by omega), nI_1, ill92 _ (by omega) hk, ill92 _ (by omega) hk, ss_g, ss_u, ite_self, ite_self]
    rfl
  rw [h14]
  exact Or.inr ⟨s, _, m_step_u M (up3 (m_step M) k 0 0 0), nI q, tok, mean, nI q, tok', nI s, va, hsT, samet_sx _ _ _ _ _, mstp3 (show 0 < 32 by omega) rfl, rfl, rfl⟩
theorem stepR {t : TS} {M : MS} {T G k q s : Nat} {B : Nat → Nat} (hB : TB t M T B) (hk : k < 24) (hG8 : G ≤ 8) (hto : t_told t = nI k) (hG : m_given M = nI G) (hf : m_fault M = -1) (hst : ∃ a, a < 32 ∧ m_step M (3 * k + 1) = nI a) (hsq : s ≤ q) (hqT : q ≤ T) {tok mean tok' va : Int32} (hK : TK tok mean tok' va) :
    StepOut T G k q t M (fX1_readStep (nI (G + k)) (pX t (nI q) (nI s) tok mean)) (fX3_readsStep (nI k) (pM M (nI q) tok' (nI s) va)) := by
  have h4 := hB.1
  rw [readX_go hk hto]
  unfold fX3_readsStep
  rw [pm_token]
  have key : ∀ c c' : Int32, tok = c → tok' = c' → ¬ c = 1 → ¬ c = 2 → ¬ c = 3 → ¬ c = 4 → ¬ c' = 2 → StepOut T G k q t M (some (0, pX (stX t (t_sums t) (upd (t_ops t) k tok) (t_firsts t) (t_seconds t)) (nI q) (nI s) tok mean)) (fX3_readsStep_b14 (nI k) 0 (pM M (nI q) tok' (nI s) va)) → StepOut T G k q t M (if tok = 1 then fX1_readStep_b64 (nI (G + k)) (pX (stX t (t_sums t) (upd (t_ops t) k tok) (t_firsts t) (t_seconds t)) (nI q) (nI s) tok mean) else if tok = 2 then (zB2 (fX1_readLine_4 (nI (G + k)) (pX (stX t (t_sums t) (upd (t_ops t) k tok) (t_firsts t) (t_seconds t)) (nI q) (nI s) tok mean)) (fun r_107 S_107 =>
(if r_107 = 0 then some ((0 : Int32), S_107) else
(zB2 (fX1_readLetter S_107) (fun r_114 S_114 =>
(if r_114 = 0 then some ((0 : Int32), S_114) else
(zB2 (fX1_readSemicolon S_114) (fun r_121 S_121 =>
(if r_121 = 0 then some ((0 : Int32), S_121) else
some ((1 : Int32), S_121)))))))))) else if tok = 3 then fX1_readStep_b64 (nI (G + k)) (pX (stX t (t_sums t) (upd (t_ops t) k tok) (t_firsts t) (t_seconds t)) (nI q) (nI s) tok mean) else if tok = 4 then (zB1 (fX1_next (pX (stX t (t_sums t) (upd (t_ops t) k tok) (t_firsts t) (t_seconds t)) (nI q) (nI s) tok mean)) (fun S_134 =>
(zB2 (fX1_readSum S_134) (fun r_138 S_138 =>
(zG (r_138 = 0 ∨ r_138 = 1) (some (r_138, S_138))))))) else some (0, pX (stX t (t_sums t) (upd (t_ops t) k tok) (t_firsts t) (t_seconds t)) (nI q) (nI s) tok mean)) (if tok' = 2 then fX3_readsStep_b14 (nI k) 1 (pM M (nI q) tok' (nI s) va) else fX3_readsStep_b14 (nI k) 0 (pM M (nI q) tok' (nI s) va)) := fun c c' e1 e2 n1 n2 n3 n4 m2 h => by
    subst e1
    subst e2
    rw [if_neg n1, if_neg n2, if_neg n3, if_neg n4, if_neg m2]
    exact h
  have hno := stepNo (t := t) (G := G) (q := q) hk hf (show s ≤ T by omega) h4 tok mean tok' va
  rcases hK with ⟨e1, e2, e3⟩ | ⟨e1, e2, e3⟩ | ⟨e1, e2, e3⟩ | ⟨e1, e2, e3⟩ | ⟨p, hp, e1, e2, -⟩ | ⟨v, hv, e1, e2, -⟩ | ⟨e1, e2⟩ | ⟨e1, e2⟩ | ⟨e1, e2⟩ | ⟨e1, e2⟩
  · subst e1; subst e2; subst e3
    rw [if_pos rfl, if_pos rfl]
    exact stepAT hB hk hG8 hto hG hf hqT mean 1 0 (Or.inl ⟨rfl, rfl⟩)
  · subst e1; subst e2; subst e3
    rw [if_neg (by decide), if_pos rfl, if_pos rfl]
    exact stepBy hB hk hG8 hto hG hf hqT mean
  · subst e1; subst e2; subst e3
    rw [if_neg (by decide), if_neg (by decide), if_pos rfl, if_pos rfl]
    exact stepAT hB hk hG8 hto hG hf hqT mean 3 2 (Or.inr ⟨rfl, rfl⟩)
  · subst e1; subst e2; subst e3
    rw [if_neg (by decide), if_neg (by decide), if_neg (by decide), if_pos rfl, if_pos rfl]
    exact stepCl hB hk hto hf hst hqT mean
  · exact key 5 1 e1 e2 (by decide) (by decide) (by decide) (by decide) (by decide) hno
  · exact key 6 3 e1 e2 (by decide) (by decide) (by decide) (by decide) (by decide) hno
  · exact key 7 4 e1 e2 (by decide) (by decide) (by decide) (by decide) (by decide) hno
  · exact key 8 5 e1 e2 (by decide) (by decide) (by decide) (by decide) (by decide) hno
  · exact key 9 0 e1 e2 (by decide) (by decide) (by decide) (by decide) (by decide) hno
  · exact key 10 6 e1 e2 (by decide) (by decide) (by decide) (by decide) (by decide) hno
