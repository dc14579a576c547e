/-! ===== proof(): its text on both sides ===== -/
def StB (M : MS) : Prop := ∀ s, s < 24 → ∃ a, a < 32 ∧ m_step M (3 * s + 1) = nI a
theorem StpR.keep {t t' : TS} {M M' : MS} {G j k : Nat} (h : StpR t M G j) (ht : TStp k t t') (hm : MStp k M M') (hj : j ≠ k) : StpR t' M' G j := by
  obtain ⟨-, -, h3⟩ := ht
  obtain ⟨o, f, g, sm⟩ := h3 j hj
  obtain ⟨-, h2, h4, -⟩ := hm
  unfold StpR
  rw [o, f, g, sm, h4 j hj, h2 (3 * j) (by omega) (by omega) (by omega), h2 (3 * j + 1) (by omega) (by omega) (by omega), h2 (3 * j + 2) (by omega) (by omega) (by omega)]
  exact h
theorem StB.keep {M M' : MS} {k : Nat} (h : StB M) (hm : MStp k M M') : StB M' := fun s hs => by
  by_cases e : s = k
  · subst e
    exact hm.2.2.2
  · rw [hm.2.1 (3 * s + 1) (by omega) (by omega) (by omega)]
    exact h s hs
theorem StpR.told {t : TS} {M : MS} {G j : Nat} (h : StpR t M G j) (v : Int32) : StpR (t_told_u t v) M G j := h
theorem StpR.pm {t : TS} {M : MS} {G j : Nat} (h : StpR t M G j) (a b c d a' b' c' d' : Int32) : StpR (pX t a b c d) (pM M a' b' c' d') G j := h
theorem StB.pm {M : MS} (h : StB M) (a b c d : Int32) : StB (pM M a b c d) := h
theorem StB.fl {M : MS} (h : StB M) (a : Int32) : StB (m_fault_u M a) := h
theorem SameP.rf (M : MS) : SameP M M := ⟨rfl, rfl, rfl, rfl, rfl, rfl, rfl, rfl, rfl, rfl, rfl, rfl, rfl, rfl⟩
theorem samep_pM (M : MS) (a b c d : Int32) : SameP M (pM M a b c d) := ⟨rfl, rfl, rfl, rfl, rfl, rfl, rfl, rfl, rfl, rfl, rfl, rfl, rfl, rfl⟩
theorem samep_fault (M : MS) (a : Int32) : SameP M (m_fault_u M a) := ⟨rfl, rfl, rfl, rfl, rfl, rfl, rfl, rfl, rfl, rfl, rfl, rfl, rfl, rfl⟩
theorem TB.samep {t t' : TS} {M M' : MS} {T : Nat} {B : Nat → Nat} (h : TB t M T B) (ht : SameT t t') (hm : SameP M M') : TB t' M' T B := by
  unfold TB
  rw [ht.1, ht.2, hm.2.1, hm.2.2.1]
  exact h
theorem pf11_ill {M : MS} {s : Nat} (hs : s < 2 ^ 31) {m : Nat} (v nx tk pl va : Int32) : fX3_proof_b11L (m + 1) v (pM (m_fault_u M (nI s)) nx tk pl va) = some (-10 - nI s, pM (m_fault_u M (nI s)) nx tk pl va) := by
  show fX3_proof_b11 (fX3_proof_b11L m) _ _ = _
  unfold fX3_proof_b11 fX3_proof_b51
  rw [illM hs, zB2_t rfl, i00, illM hs, zB2_t rfl, i00]
  rfl
theorem SameT.tu {t t' : TS} (h : SameT t t') (v : Int32) : SameT t (t_told_u t' v) := h
theorem readP {T G : Nat} {B : Nat → Nat} (hG8 : G ≤ 8) : ∀ (d n m k q s : Nat) (t : TS) (M : MS) (tok mean tok' va : Int32), k + d = 24 → d < n → d + 1 < m → TB t M T B → t_told t = nI k → m_given M = nI G → m_fault M = -1 → StB M → (∀ j, j < k → StpR t M G j) → s ≤ q → q ≤ T → TK tok mean tok' va →
    (∃ k' t' M', k' ≤ 24 ∧ SameT t t' ∧ SameP M M' ∧ StB M' ∧ t_told t' = nI k' ∧ (∀ j, j < k' → StpR t' M' G j) ∧ m_fault M' = -1 ∧ fX1_readProof_b4L n (nI G) (pX t (nI q) (nI s) tok mean) = some (-1, t') ∧ fX3_proof_b11L m (nI k) (pM M (nI q) tok' (nI s) va) = fX3_proof_b51 (nI k') M') ∨
    (∃ s' t' M', s' ≤ T ∧ SameT t t' ∧ SameP M M' ∧ StB M' ∧ fX1_readProof_b4L n (nI G) (pX t (nI q) (nI s) tok mean) = some (nI s', t') ∧ fX3_proof_b11L m (nI k) (pM M (nI q) tok' (nI s) va) = some (-10 - nI s', M')) := by
  intro d
  induction d with
  | zero =>
    intro n m k q s t M tok mean tok' va hk hn hm hB hto hG hf hst hR hsq hqT hK
    have h4 := hB.1
    obtain ⟨n, rfl⟩ : ∃ z, n = z + 1 := ⟨n - 1, by omega⟩
    obtain ⟨m, rfl⟩ : ∃ z, m = z + 2 := ⟨m - 2, by omega⟩
    have : k = 24 := by omega
    subst this
    have h9 := hK.tok7.2.2
    have hX : fX1_readProof_b4L (n + 1) (nI G) (pX t (nI q) (nI s) tok mean) = if tok = 9 then some (-1, pX t (nI q) (nI s) tok mean) else some (nI s, pX t (nI q) (nI s) tok mean) := by
      show fX1_readProof_b4 (fX1_readProof_b4L n) _ _ = _
      unfold fX1_readProof_b4 fX1_readProof_b57
      rw [px_told, hto, if_pos (by decide), px_token, px_start]
    have hM : fX3_proof_b11L (m + 2) (nI 24) (pM M (nI q) tok' (nI s) va) = if tok' = 0 then fX3_proof_b51 (nI 24) (pM M (nI q) tok' (nI s) va) else some (-10 - nI s, pM (m_fault_u M (nI s)) (nI q) tok' (nI s) va) := by
      show fX3_proof_b11 (fX3_proof_b11L (m + 1)) _ _ = _
      unfold fX3_proof_b11
      rw [wellM hf, zB2_t rfl, i10, pm_token, if_pos (show nI 24 = 24 by decide), takes0 hf, zB2_t rfl, pf11_ill (by omega)]
    rw [hX, hM]
    by_cases h : tok = 9
    · rw [if_pos h, if_pos (h9.mp h)]
      exact Or.inl ⟨24, pX t (nI q) (nI s) tok mean, pM M (nI q) tok' (nI s) va, Nat.le_refl 24, ⟨rfl, rfl⟩, samep_pM M _ _ _ _, hst.pm _ _ _ _, hto, fun j hj => (hR j hj).pm _ _ _ _ _ _ _ _, hf, rfl, rfl⟩
    · rw [if_neg h, if_neg (fun e => h (h9.mpr e))]
      exact Or.inr ⟨s, pX t (nI q) (nI s) tok mean, pM (m_fault_u M (nI s)) (nI q) tok' (nI s) va, by omega, ⟨rfl, rfl⟩, (samep_fault M _).tr (samep_pM _ _ _ _ _), (hst.fl _).pm _ _ _ _, rfl, rfl⟩
  | succ d ih =>
    intro n m k q s t M tok mean tok' va hk hn hm hB hto hG hf hst hR hsq hqT hK
    have h4 := hB.1
    obtain ⟨n, rfl⟩ : ∃ z, n = z + 1 := ⟨n - 1, by omega⟩
    obtain ⟨m, rfl⟩ : ∃ z, m = z + 2 := ⟨m - 2, by omega⟩
    have h9 := hK.tok7.2.2
    have hk24 : k < 24 := by omega
    have hX : fX1_readProof_b4L (n + 1) (nI G) (pX t (nI q) (nI s) tok mean) = if tok = 9 then some (-1, pX t (nI q) (nI s) tok mean) else zB2 (fX1_readStep (nI (G + k)) (pX t (nI q) (nI s) tok mean)) (fun r S => if r = 0 then some (t_start S, S) else zB1 (fX1_next (t_told_u S (t_told S + 1))) (fun S2 => fX1_readProof_b4L n (nI G) S2)) := by
      show fX1_readProof_b4 (fX1_readProof_b4L n) _ _ = _
      unfold fX1_readProof_b4 fX1_readProof_b57
      rw [px_told, hto, if_neg (show ¬ (24 : Int32) ≤ nI k from nI_ge hk24 (by decide)), px_token, nI_add]
      by_cases h : tok = 9
      · rw [if_pos h, if_pos h, if_pos h]
      · rw [if_neg h, if_neg h]
        rfl
    have hM : fX3_proof_b11L (m + 2) (nI k) (pM M (nI q) tok' (nI s) va) = if tok' = 0 then fX3_proof_b51 (nI k) (pM M (nI q) tok' (nI s) va) else zB1 (fX3_readsStep (nI k) (pM M (nI q) tok' (nI s) va)) (fun S => fX3_proof_b11L (m + 1) (nI (k + 1)) S) := by
      show fX3_proof_b11 (fX3_proof_b11L (m + 1)) _ _ = _
      unfold fX3_proof_b11
      rw [wellM hf, zB2_t rfl, i10, pm_token, if_neg (show ¬ nI k = 24 from fun e => by have := (nI_eq (b := 24) (show k < 2 ^ 31 by omega) (by decide)).mp e; omega), nI_1]
    rw [hX, hM]
    by_cases h : tok = 9
    · rw [if_pos h, if_pos (h9.mp h)]
      exact Or.inl ⟨k, pX t (nI q) (nI s) tok mean, pM M (nI q) tok' (nI s) va, by omega, ⟨rfl, rfl⟩, samep_pM M _ _ _ _, hst.pm _ _ _ _, hto, fun j hj => (hR j hj).pm _ _ _ _ _ _ _ _, hf, rfl, rfl⟩
    · rw [if_neg h, if_neg (fun e => h (h9.mpr e))]
      rcases stepR (s := s) hB hk24 hG8 hto hG hf (hst k hk24) hsq hqT hK with ⟨q1, s1, mean1, va1, t1, M1, a1, a2, a3, a4, a5, a6, a7, a8, a9⟩ | ⟨s1, t1, M1, a, b, mean1, a', b', c', v', a1, a2, a3, a4, a5⟩
      · have hB2 : TB (t_told_u t1 (nI (k + 1))) M1 T B := hB.samep (a4.1.tu _) a5.1
        obtain ⟨q2, s2, tok2, mean2, tok2', va2, b1, b2, b3, b4, b5, b6, b7⟩ := nextR hB2 a2 (nI s1) 8 mean1 5 (nI s1) va1
        rw [a8, a9, b7, zB1_t rfl, zB2_t rfl, i10, px_told, a4.2.1, hto, nI_1, px_uT, b6, zB1_t rfl]
        rcases ih n (m + 1) (k + 1) q2 s2 _ _ tok2 mean2 tok2' va2 (by omega) (by omega) (by omega) hB2 rfl (by rw [a5.1.2.2.2.1]; exact hG) a6 (hst.keep a5) (fun j hj => by
          by_cases e : j = k
          · subst e; exact a7.told _
          · exact ((hR j (by omega)).keep a4 a5 e).told _) b1 b2 b5 with ⟨k', t', M', c1, c2, c3, c4, c5, c6, c7, c8, c9⟩ | ⟨s3, t', M', c1, c2, c3, c4, c5, c6⟩
        · exact Or.inl ⟨k', t', M', c1, ⟨c2.1.trans a4.1.1, c2.2.trans a4.1.2⟩, a5.1.tr c3, c4, c5, c6, c7, c8, c9⟩
        · exact Or.inr ⟨s3, t', M', c1, ⟨c2.1.trans a4.1.1, c2.2.trans a4.1.2⟩, a5.1.tr c3, c4, c5, c6⟩
      · rw [a4, a5, zB1_t rfl, zB2_t rfl, i00, px_start, pf11_ill (by omega)]
        exact Or.inr ⟨s1, pX t1 a (nI s1) b mean1, pM (m_fault_u M1 (nI s1)) a' b' c' v', a1, a2, (a3.1.tr (samep_fault _ _)).tr (samep_pM _ _ _ _ _), ((hst.keep a3).fl _).pm _ _ _ _, rfl, rfl⟩
theorem readP0 {X : XS} {M : MS} {T G : Nat} (hG8 : G ≤ 8) (hT : TxR X M T) (hG : m_given M = nI G) (hst : StB M) : (∃ k t' M', k ≤ 24 ∧ SameT (x_text X) t' ∧ SameP M M' ∧ StB M' ∧ t_told t' = nI k ∧ (∀ j, j < k → StpR t' M' G j) ∧ m_fault M' = -1 ∧ fX1_readProof (nI G) (x_text X) = some (-1, t') ∧ zB1 (fX3_begins M) (fun S_8 => fX3_proof_b11L zF (0 : Int32) S_8) = fX3_proof_b51 (nI k) M') ∨
    (∃ s' t' M', s' ≤ T ∧ SameT (x_text X) t' ∧ SameP M M' ∧ StB M' ∧ fX1_readProof (nI G) (x_text X) = some (nI s', t') ∧ zB1 (fX3_begins M) (fun S_8 => fX3_proof_b11L zF (0 : Int32) S_8) = some (-10 - nI s', M')) := by
  have hB := TB.of hT
  generalize (fun k => (t_bytes (x_text X) k).toNatClampNeg) = B at hB
  have hB1 : TB (t_told_u (x_text X) 0) (m_fault_u M (-1)) T B := hB
  obtain ⟨q, s, tok, mean, tok', va, a1, a2, a3, a4, a5, a6, a7⟩ := nextR hB1 (q := 0) (Nat.zero_le T) (t_start (x_text X)) (t_token (x_text X)) (t_meaning (x_text X)) (m_token M) (m_place M) (m_value M)
  have hX : fX1_readProof (nI G) (x_text X) = fX1_readProof_b4L zF (nI G) (pX (t_told_u (x_text X) 0) (nI q) (nI s) tok mean) := by
    unfold fX1_readProof
    rw [begX, a6, zB1_t rfl]
  have hM : zB1 (fX3_begins M) (fun S_8 => fX3_proof_b11L zF (0 : Int32) S_8) = fX3_proof_b11L zF (nI 0) (pM (m_fault_u M (-1)) (nI q) tok' (nI s) va) := by
    rw [begM, a7, zB1_t rfl]
    rfl
  rw [hX, hM]
  rcases readP hG8 24 zF zF 0 q s (t_told_u (x_text X) 0) (m_fault_u M (-1)) tok mean tok' va (by omega) (by decide) (by decide) hB1 rfl hG rfl (hst.fl _) (fun j hj => absurd hj (by omega)) a1 a2 a5 with ⟨k, t', M', c1, c2, c3, c4, c5, c6, c7, c8, c9⟩ | ⟨s', t', M', c1, c2, c3, c4, c5, c6⟩
  · exact Or.inl ⟨k, t', M', c1, c2, (samep_fault M (-1)).tr c3, c4, c5, c6, c7, c8, c9⟩
  · exact Or.inr ⟨s', t', M', c1, c2, (samep_fault M (-1)).tr c3, c4, c5, c6⟩
