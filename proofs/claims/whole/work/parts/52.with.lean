/-! ===== a line with a letter being 0 or 1 ===== -/
def wth (l v : Nat) (a : Int64) : Int64 := (a &&& (zHas l ^^^ (-1))) ^^^ (if v = 1 then zLushr (a &&& zHas l) (nI (2 ^ l)) else 0)
def wlt (l v k : Nat) : Int64 := if k / 2 ^ l % 2 = 1 ∧ v = 0 then 0 else e1 (cl6 k l)
theorem wth_xor (l v : Nat) (hl : l < 6) (a b : Int64) : wth l v (a ^^^ b) = wth l v a ^^^ wth l v b := by
  apply tb_ext
  intro k hk
  unfold wth
  by_cases hv : v = 1
  · rw [if_pos hv, if_pos hv, if_pos hv]
    simp only [tb_xor, tb_ushr (2 ^ l) (p2_lt l hl), tb_and]
    cases tb a k <;> cases tb b k <;> cases tb a (2 ^ l + k) <;> cases tb b (2 ^ l + k) <;> cases tb (zHas l) (2 ^ l + k) <;> cases tb (zHas l) k <;> cases tb (-1) k <;> rfl
  · rw [if_neg hv, if_neg hv, if_neg hv]
    simp only [tb_xor, tb_and, tb_0]
    cases tb a k <;> cases tb b k <;> cases tb (zHas l) k <;> cases tb (-1) k <;> rfl
theorem wth_e : ∀ l, l < 6 → ∀ v, v < 2 → ∀ k, k < 64 → wth l v (e1 k) = wlt l v k := by decide +kernel
def wsm (l v : Nat) (a : Int64) : Nat → Int64
  | 0 => 0
  | n + 1 => wsm l v a n ^^^ (if tb a n then wlt l v n else 0)
theorem wth_0 (l v : Nat) (hl : l < 6) : wth l v 0 = 0 := by
  have := wth_xor l v hl 0 0
  rw [xor_self, xor_self] at this
  exact this
theorem wsm_ok (l v : Nat) (hl : l < 6) (hv : v < 2) (a : Int64) : ∀ n, n ≤ 64 → wsm l v a n = wth l v (pt n a)
  | 0, _ => by rw [wsm, pt, wth_0 l v hl]
  | n + 1, h => by
    rw [wsm, pt, wth_xor l v hl, wsm_ok l v hl hv a n (by omega)]
    cases ht : tb a n
    · simp [wth_0 l v hl]
    · simp [wth_e l hl v hv n (by omega)]
theorem bitM1 : ∀ p, p < 64 → ∀ l, l < 6 → (((nI p >>> (nI l &&& 31)) &&& 1 = 1) ↔ p / 2 ^ l % 2 = 1) := by decide +kernel
theorem withM_l (M : MS) (i l v : Nat) (hi : i < 32) (hl : l < 6) (hv : v < 2) : ∀ (d n p : Nat), p + d = 64 → d < n → fX3_with_b39L n (nI i) (nI l) (nI v) (wsm l v (m_line M i) p) (nI p) M = some (wsm l v (m_line M i) 64, M) := by
  intro d
  induction d with
  | zero =>
    intro n p hp hn
    obtain ⟨n, rfl⟩ : ∃ q, n = q + 1 := ⟨n - 1, by omega⟩
    have : p = 64 := by omega
    subst this
    show fX3_with_b39 (fX3_with_b39L n) _ _ _ _ _ _ = _
    unfold fX3_with_b39
    rw [if_pos (by decide)]
  | succ d ih =>
    intro n p hp hn
    obtain ⟨n, rfl⟩ : ∃ q, n = q + 1 := ⟨n - 1, by omega⟩
    have hp' : p < 64 := by omega
    have hs := ih n (p + 1) (by omega) (by omega)
    rw [wsm] at hs
    have h61 : ∀ u : Int32, fX3_with_b61 (fX3_with_b39L n) (nI i) (nI l) (nI v) (wsm l v (m_line M i) p) (nI p) u M = if b2i (tb (m_line M i) p) = 0 then fX3_with_b39L n (nI i) (nI l) (nI v) (wsm l v (m_line M i) p) (nI (p + 1)) M else if nI v = 1 then fX3_with_b39L n (nI i) (nI l) (nI v) (wsm l v (m_line M i) p ^^^ e1 (cl6 p l)) (nI (p + 1)) M else if u = 0 then fX3_with_b39L n (nI i) (nI l) (nI v) (wsm l v (m_line M i) p ^^^ e1 (cl6 p l)) (nI (p + 1)) M else fX3_with_b39L n (nI i) (nI l) (nI v) (wsm l v (m_line M i) p) (nI (p + 1)) M := fun u => by
      unfold fX3_with_b61 fX3_with_b87 fX3_with_b102
      rw [zGI_t (vp_in_nI hi (by decide)), nI_clamp (by omega), hasM _ hp', zB1_t rfl, zL_t, cl6_ok p hp' l hl, e1_shl _ (cl6_lt p hp' l hl), nI_1]
    show fX3_with_b39 (fX3_with_b39L n) _ _ _ _ _ _ = _
    unfold fX3_with_b39
    rw [if_neg (nle64 hp')]
    have key : fX3_with_b61 (fX3_with_b39L n) (nI i) (nI l) (nI v) (wsm l v (m_line M i) p) (nI p) (if p / 2 ^ l % 2 = 1 then 1 else 0) M = some (wsm l v (m_line M i) 64, M) := by
      rw [h61]
      cases ht : tb (m_line M i) p
      · rw [if_pos (by decide)]
        rw [ht] at hs
        simpa using hs
      · rw [if_neg (by decide)]
        rw [ht, if_pos rfl] at hs
        unfold wlt at hs
        have hv2 : v = 0 ∨ v = 1 := by omega
        rcases hv2 with rfl | rfl
        · rw [if_neg (by decide)]
          by_cases hb : p / 2 ^ l % 2 = 1
          · rw [if_pos hb, if_neg (by decide)]
            rw [if_pos ⟨hb, rfl⟩, xor_0] at hs
            exact hs
          · rw [if_neg hb, if_pos rfl]
            rw [if_neg (fun q => hb q.1)] at hs
            exact hs
        · rw [if_pos (by decide)]
          rw [if_neg (fun q => absurd q.2 (by decide))] at hs
          exact hs
    by_cases hb : p / 2 ^ l % 2 = 1
    · rw [if_pos ((bitM1 p hp' l hl).mpr hb)]
      rw [if_pos hb] at key
      exact key
    · rw [if_neg (fun q => hb ((bitM1 p hp' l hl).mp q))]
      rw [if_neg hb] at key
      exact key
