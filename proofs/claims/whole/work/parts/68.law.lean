/-! ===== the start; the law's own loop ===== -/
def cO (a p : Nat) : Nat := ((List.range 64).filter (fun q => decide (lt6 q < a) || (decide (lt6 q = a) && decide (q < p)))).length
theorem cO_s : ∀ a, a < 7 → ∀ p, p < 64 → cO a (p + 1) = cO a p + (if lt6 p = a then 1 else 0) := by decide +kernel
theorem cO_o : ∀ a, a < 7 → ∀ p, p < 64 → lt6 p = a → ord (cO a p) = p ∧ cO a p < 64 := by decide +kernel
theorem cO_64 : ∀ a, a < 7 → cO a 64 = cO (a + 1) 0 := by decide +kernel
theorem cO_e : cO 7 0 = 64 ∧ cO 0 0 = 0 := by decide +kernel
theorem mo_g (M : MS) (o : Nat → Int32) : m_order (m_order_u M o) = o := rfl
theorem mo_u (M : MS) (o o2 : Nat → Int32) : m_order_u (m_order_u M o) o2 = m_order_u M o2 := rfl
theorem lt6_nI : ∀ p, p < 64 → ∀ a, a < 7 → (nI (lt6 p) = nI a ↔ lt6 p = a) := by decide +kernel
theorem initM_in (M : MS) (a : Nat) (ha : a < 7) (K : Int32 → Int32 → MS → Option MS) : ∀ (d n p : Nat) (o : Nat → Int32), p + d = 64 → d < n → (∀ j, j < cO a p → o j = nI (ord j)) →
    ∃ o', fX3_init_b111L K n (nI (cO a p)) (nI a) (nI p) (m_order_u M o) = K (nI (cO (a + 1) 0)) (nI (a + 1)) (m_order_u M o') ∧ ∀ j, j < cO (a + 1) 0 → o' j = nI (ord j) := by
  intro d
  induction d with
  | zero =>
    intro n p o hp hn h
    obtain ⟨n, rfl⟩ : ∃ z, n = z + 1 := ⟨n - 1, by omega⟩
    have : p = 64 := by omega
    subst this
    rw [cO_64 a ha] at h ⊢
    refine ⟨o, ?_, h⟩
    show fX3_init_b111 K (fX3_init_b111L K n) _ _ _ _ = _
    unfold fX3_init_b111
    rw [if_pos (by decide), nI_1]
  | succ d ih =>
    intro n p o hp hn h
    obtain ⟨n, rfl⟩ : ∃ z, n = z + 1 := ⟨n - 1, by omega⟩
    have hp' : p < 64 := by omega
    have hs := cO_s a ha p hp'
    show ∃ o', fX3_init_b111 K (fX3_init_b111L K n) _ _ _ _ = _ ∧ _
    unfold fX3_init_b111 fX3_init_b135
    rw [if_neg (nle64 hp'), lettersM p hp', zB1_t rfl, nI_1, nI_1]
    by_cases e : lt6 p = a
    · obtain ⟨o1, o2⟩ := cO_o a ha p hp' e
      rw [if_pos e] at hs
      rw [if_pos ((lt6_nI p hp' a ha).mpr e), zGI_t (vp_in_nI o2 (by decide)), zL_t, mo_g, mo_u, nI_clamp (by omega)]
      obtain ⟨o', i1, i2⟩ := ih n (p + 1) (upd o (cO a p) (nI p)) (by omega) (by omega) (fun j hj => by
        by_cases q : j = cO a p
        · subst q
          rw [pk_us, o1]
        · rw [pk_un q]
          exact h j (by omega))
      rw [hs] at i1
      exact ⟨o', i1, i2⟩
    · rw [if_neg e] at hs
      rw [if_neg (fun q => e ((lt6_nI p hp' a ha).mp q))]
      obtain ⟨o', i1, i2⟩ := ih n (p + 1) o (by omega) (by omega) (fun j hj => h j (by omega))
      rw [hs] at i1
      exact ⟨o', i1, i2⟩
theorem initM_l (M : MS) : ∀ (d n a : Nat) (o : Nat → Int32), a + d = 7 → d < n → (∀ j, j < cO a 0 → o j = nI (ord j)) →
    ∃ o', fX3_init_b103L n (nI (cO a 0)) (nI a) (m_order_u M o) = fX3_stands (m_order_u M o') ∧ OrdOk (m_order_u M o') := by
  intro d
  induction d with
  | zero =>
    intro n a o ha hn h
    obtain ⟨n, rfl⟩ : ∃ z, n = z + 1 := ⟨n - 1, by omega⟩
    have : a = 7 := by omega
    subst this
    rw [cO_e.1] at h
    refine ⟨o, ?_, h⟩
    show fX3_init_b103 (fX3_init_b103L n) _ _ _ = _
    unfold fX3_init_b103
    rw [if_pos (by decide), zB1_some]
  | succ d ih =>
    intro n a o ha hn h
    obtain ⟨n, rfl⟩ : ∃ z, n = z + 1 := ⟨n - 1, by omega⟩
    obtain ⟨o1, i1, i2⟩ := initM_in M a (by omega) (fX3_init_b103L n) 64 zF 0 o (by omega) (by decide) h
    obtain ⟨o2, j1, j2⟩ := ih n (a + 1) o1 (by omega) (by omega) i2
    refine ⟨o2, ?_, j2⟩
    rw [← j1, ← i1]
    show fX3_init_b103 (fX3_init_b103L n) _ _ _ = _
    unfold fX3_init_b103
    rw [if_neg (show ¬ (7 : Int32) ≤ nI a from nI_ge (a := a) (b := 7) (by omega) (by decide))]
    rfl
theorem init_eq (M : MS) : fX3_init M = fX3_init_b103L zF (nI 0) (nI 0) M := rfl
theorem mo_id (M : MS) : m_order_u M (m_order M) = M := rfl
theorem rel_init {M : MS} {st rs : Int64} {vec mk : Nat → Int64} {n : Nat} {pv : Nat → Nat} {P : Int64} (hO : OrdOk M) (h1 : m_typed M = nI 0) (h2 : m_given M = nI 0) (h3 : m_made M = nI 0) (h4 : x_steps zX0 = m_steps M) (h5 : x_wrongStep zX0 = m_wrongStep M) (h6 : x_traced zX0 = m_trace M) (h7 : ∀ i, m_step M i = nI 0) (h8 : x_commonWorlds zX0 = cmn (m_line M) 0) (hI : StI (cmn (m_line M) 0) st vec mk n 64 pv P) : Rel zX0 (stdU M (cmn (m_line M) 0) st vec mk (nI n) rs) :=
  ⟨0, 0, 0, ⟨Nat.zero_le 400, rfl, h1, fun j hj => absurd hj (Nat.not_lt_zero j)⟩, ⟨Nat.zero_le 8, Nat.zero_le 24, rfl, h2, rfl, h3, fun i hi => absurd hi (Nat.not_lt_zero i)⟩, ⟨rfl, n, pv, P, rfl, hI⟩, ⟨Or.inl rfl, Or.inl rfl⟩, ⟨hO, h4, h5, h8, h6, fun s _ => ⟨0, by decide, h7 (3 * s + 1)⟩⟩⟩
theorem initR : ∃ SM, fX3_init zM0 = some SM ∧ Rel zX0 SM := by
  obtain ⟨o, a1, a2⟩ := initM_l zM0 7 zF 0 (m_order zM0) (by omega) (by decide) (fun j hj => absurd hj (by rw [cO_e.2]; omega))
  rw [mo_id, cO_e.2, ← init_eq] at a1
  obtain ⟨st, vec, mk, n, pv, P, rs, f1, f2⟩ := standsM (m_order_u zM0 o) a2 0 (by omega) rfl
  exact ⟨_, a1.trans f1, rel_init a2 rfl rfl rfl rfl rfl rfl (fun _ => rfl) rfl f2⟩
theorem lw1 (fx : XS → Option (Int32 × XS)) (fm : MS → Option (Int32 × MS)) (S : ZLS) (h : Ok2 (fx (l_x S)) (fm (l_m S))) (K : ZLS → Option Int32) (hK : ∀ X' M', Rel X' M' → K (X', M') = some 1) : zB2 (fx (l_x S)) (fun r S1 => zL (l_x_u S S1) (fun W => zB2 (fm (l_m W)) (fun r2 S2 => zL (l_m_u W S2) (fun W2 => if r = r2 then K W2 else some 0)))) = some 1 := by
  obtain ⟨r, X', M', e1, e2, hR⟩ := h
  rw [e1, zB2_t rfl, zL_t]
  show zB2 (fm (l_m S)) _ = _
  rw [e2, zB2_t rfl, zL_t, if_pos rfl]
  exact hK X' M' hR
theorem lw2 (fx : XS → Option (Int64 × XS)) (fm : MS → Option (Int64 × MS)) (S : ZLS) (h : Ok2 (fx (l_x S)) (fm (l_m S))) (K : ZLS → Option Int32) (hK : ∀ X' M', Rel X' M' → K (X', M') = some 1) : zB2 (fx (l_x S)) (fun r S1 => zL (l_x_u S S1) (fun W => zB2 (fm (l_m W)) (fun r2 S2 => zL (l_m_u W S2) (fun W2 => if lg_cmp r r2 = 0 then K W2 else some 0)))) = some 1 := by
  obtain ⟨r, X', M', e1, e2, hR⟩ := h
  rw [e1, zB2_t rfl, zL_t]
  show zB2 (fm (l_m S)) _ = _
  rw [e2, zB2_t rfl, zL_t, if_pos ((lg_cmp_eq r r).mpr rfl)]
  exact hK X' M' hR
theorem lim {L i : Nat} (hL : L ≤ 2048) (hi : i ≤ 4096) : (Int32.ofNat L - 4 < nI i) ↔ L < i + 4 := by
  have h1 : (Int32.ofNat L - 4).toInt = (L : Int) - (4 : Nat) := pk_sub_toInt (a := L) (b := 4) (by omega) (by decide)
  rw [Int32.lt_iff_toInt_lt, h1, nI_toInt (by omega)]
  omega
theorem law_l {L : Nat} (hL : L ≤ 2048) (xs : Nat → Int32) : ∀ (d n i : Nat) (S : ZLS), L < i + 4 * d + 4 → i ≤ 2052 → d < n → Rel (l_x S) (l_m S) → fL_law_b18L L xs n (nI i) S = some 1 := by
  intro d
  induction d with
  | zero =>
    intro n i S h1 h2 hn h
    obtain ⟨n, rfl⟩ : ∃ z, n = z + 1 := ⟨n - 1, by omega⟩
    show fL_law_b18 L xs (fL_law_b18L L xs n) _ _ = _
    unfold fL_law_b18
    rw [if_pos ((lim hL (by omega)).mpr (by omega))]
  | succ d ih =>
    intro n i S h1 h2 hn h
    obtain ⟨n, rfl⟩ : ∃ z, n = z + 1 := ⟨n - 1, by omega⟩
    show fL_law_b18 L xs (fL_law_b18L L xs n) _ _ = _
    unfold fL_law_b18
    by_cases hlt : L < i + 4
    · rw [if_pos ((lim hL (by omega)).mpr hlt)]
    · rw [if_neg (fun q => hlt ((lim hL (by omega)).mp q))]
      have e1 : nI i + 1 = nI (i + 1) := nI_1 i
      have e2 : nI i + 2 = nI (i + 2) := nI_add i 2
      have e3 : nI i + 3 = nI (i + 3) := nI_add i 3
      have g0 : ∀ {α : Type} (o : Option α), zGI (nI i) L o = o := fun o => zGI_t (vp_in_nI (by omega) (by omega))
      have g1 : ∀ {α : Type} (o : Option α), zGI (nI (i + 1)) L o = o := fun o => zGI_t (vp_in_nI (by omega) (by omega))
      have g2 : ∀ {α : Type} (o : Option α), zGI (nI (i + 2)) L o = o := fun o => zGI_t (vp_in_nI (by omega) (by omega))
      have g3 : ∀ {α : Type} (o : Option α), zGI (nI (i + 3)) L o = o := fun o => zGI_t (vp_in_nI (by omega) (by omega))
      have hK : ∀ X' M', Rel X' M' → fL_law_b731 L xs (fL_law_b18L L xs n) (nI i) (X', M') = some 1 := fun X' M' hR => by
        unfold fL_law_b731
        rw [show nI i + 4 = nI (i + 4) from nI_add i 4]
        exact ih n (i + 4) (X', M') (by omega) (by omega) (by omega) hR
      simp only [e1, e2, e3, g0, g1, g2, g3]
      generalize xs (nI i).toNatClampNeg &&& 31 = op
      by_cases h0 : op = 0
      · rw [if_pos h0]
        exact lw1 (fun X => fX2_type (((((xs (nI (i + 1)).toNatClampNeg)).toInt64) <<< ((32 : Int32).toInt64 &&& 63)) ||| ((((xs (nI (i + 2)).toNatClampNeg)).toInt64) &&& (4294967295 : Int64))) (xs (nI (i + 3)).toNatClampNeg) X) (fun M => fX3_type (((((xs (nI (i + 1)).toNatClampNeg)).toInt64) <<< ((32 : Int32).toInt64 &&& 63)) ||| ((((xs (nI (i + 2)).toNatClampNeg)).toInt64) &&& (4294967295 : Int64))) (xs (nI (i + 3)).toNatClampNeg) M) S (ok_type h _ _) (fL_law_b731 L xs (fL_law_b18L L xs n) (nI i)) hK
      rw [if_neg h0]
      by_cases h1 : op = 1
      · rw [if_pos h1]
        exact lw1 (fun X => fX2_clear X) (fun M => fX3_clear M) S (ok_clear h) (fL_law_b731 L xs (fL_law_b18L L xs n) (nI i)) hK
      rw [if_neg h1]
      by_cases h2 : op = 2
      · rw [if_pos h2]
        exact lw1 (fun X => fX2_given X) (fun M => fX3_given M) S (ok_given h) (fL_law_b731 L xs (fL_law_b18L L xs n) (nI i)) hK
      rw [if_neg h2]
      by_cases h3 : op = 3
      · rw [if_pos h3]
        exact lw1 (fun X => fX2_proof X) (fun M => fX3_proof M) S (ok_proof h) (fL_law_b731 L xs (fL_law_b18L L xs n) (nI i)) hK
      rw [if_neg h3]
      by_cases h4 : op = 4
      · rw [if_pos h4]
        exact lw1 (fun X => fX2_wrong X) (fun M => fX3_wrong M) S (ok_wrong h) (fL_law_b731 L xs (fL_law_b18L L xs n) (nI i)) hK
      rw [if_neg h4]
      by_cases h5 : op = 5
      · rw [if_pos h5]
        exact lw1 (fun X => fX2_end X) (fun M => fX3_end M) S (ok_end h) (fL_law_b731 L xs (fL_law_b18L L xs n) (nI i)) hK
      rw [if_neg h5]
      by_cases h6 : op = 6
      · rw [if_pos h6]
        exact lw2 (fun X => fX2_line (xs (nI (i + 1)).toNatClampNeg) X) (fun M => fX3_line (xs (nI (i + 1)).toNatClampNeg) M) S (ok_line h _) (fL_law_b731 L xs (fL_law_b18L L xs n) (nI i)) hK
      rw [if_neg h6]
      by_cases h7 : op = 7
      · rw [if_pos h7]
        exact lw1 (fun X => fX2_value (xs (nI (i + 1)).toNatClampNeg) (xs (nI (i + 2)).toNatClampNeg) X) (fun M => fX3_value (xs (nI (i + 1)).toNatClampNeg) (xs (nI (i + 2)).toNatClampNeg) M) S (ok_value h _ _) (fL_law_b731 L xs (fL_law_b18L L xs n) (nI i)) hK
      rw [if_neg h7]
      by_cases h8 : op = 8
      · rw [if_pos h8]
        exact lw1 (fun X => fX2_lead (xs (nI (i + 1)).toNatClampNeg) (xs (nI (i + 2)).toNatClampNeg) X) (fun M => fX3_lead (xs (nI (i + 1)).toNatClampNeg) (xs (nI (i + 2)).toNatClampNeg) M) S (ok_lead h _ _) (fL_law_b731 L xs (fL_law_b18L L xs n) (nI i)) hK
      rw [if_neg h8]
      by_cases h9 : op = 9
      · rw [if_pos h9]
        exact lw2 (fun X => fX2_both (xs (nI (i + 1)).toNatClampNeg) (xs (nI (i + 2)).toNatClampNeg) (xs (nI (i + 3)).toNatClampNeg) X) (fun M => fX3_both (xs (nI (i + 1)).toNatClampNeg) (xs (nI (i + 2)).toNatClampNeg) (xs (nI (i + 3)).toNatClampNeg) M) S (ok_both h _ _ _) (fL_law_b731 L xs (fL_law_b18L L xs n) (nI i)) hK
      rw [if_neg h9]
      by_cases h10 : op = 10
      · rw [if_pos h10]
        exact lw2 (fun X => fX2_with (xs (nI (i + 1)).toNatClampNeg) (xs (nI (i + 2)).toNatClampNeg) (xs (nI (i + 3)).toNatClampNeg) X) (fun M => fX3_with (xs (nI (i + 1)).toNatClampNeg) (xs (nI (i + 2)).toNatClampNeg) (xs (nI (i + 3)).toNatClampNeg) M) S (ok_with h _ _ _) (fL_law_b731 L xs (fL_law_b18L L xs n) (nI i)) hK
      rw [if_neg h10]
      by_cases h11 : op = 11
      · rw [if_pos h11]
        exact lw2 (fun X => fX2_common X) (fun M => fX3_common M) S (ok_common h) (fL_law_b731 L xs (fL_law_b18L L xs n) (nI i)) hK
      rw [if_neg h11]
      by_cases h12 : op = 12
      · rw [if_pos h12]
        exact lw1 (fun X => fX2_follows (xs (nI (i + 1)).toNatClampNeg) X) (fun M => fX3_follows (xs (nI (i + 1)).toNatClampNeg) M) S (ok_follows h _) (fL_law_b731 L xs (fL_law_b18L L xs n) (nI i)) hK
      rw [if_neg h12]
      by_cases h13 : op = 13
      · rw [if_pos h13]
        exact lw2 (fun X => fX2_standing X) (fun M => fX3_standing M) S (ok_standing h) (fL_law_b731 L xs (fL_law_b18L L xs n) (nI i)) hK
      rw [if_neg h13]
      by_cases h14 : op = 14
      · rw [if_pos h14]
        exact lw2 (fun X => fX2_left (xs (nI (i + 1)).toNatClampNeg) X) (fun M => fX3_left (xs (nI (i + 1)).toNatClampNeg) M) S (ok_left h _) (fL_law_b731 L xs (fL_law_b18L L xs n) (nI i)) hK
      rw [if_neg h14]
      by_cases h15 : op = 15
      · rw [if_pos h15]
        exact lw2 (fun X => fX2_rest (((((xs (nI (i + 1)).toNatClampNeg)).toInt64) <<< ((32 : Int32).toInt64 &&& 63)) ||| ((((xs (nI (i + 2)).toNatClampNeg)).toInt64) &&& (4294967295 : Int64))) X) (fun M => fX3_rest (((((xs (nI (i + 1)).toNatClampNeg)).toInt64) <<< ((32 : Int32).toInt64 &&& 63)) ||| ((((xs (nI (i + 2)).toNatClampNeg)).toInt64) &&& (4294967295 : Int64))) M) S (ok_rest h _) (fL_law_b731 L xs (fL_law_b18L L xs n) (nI i)) hK
      rw [if_neg h15]
      by_cases h16 : op = 16
      · rw [if_pos h16]
        exact lw2 (fun X => fX2_base (xs (nI (i + 1)).toNatClampNeg) X) (fun M => fX3_base (xs (nI (i + 1)).toNatClampNeg) M) S (ok_base h _) (fL_law_b731 L xs (fL_law_b18L L xs n) (nI i)) hK
      rw [if_neg h16]
      by_cases h17 : op = 17
      · rw [if_pos h17]
        exact lw1 (fun X => fX2_deep (xs (nI (i + 1)).toNatClampNeg) (xs (nI (i + 2)).toNatClampNeg) X) (fun M => fX3_deep (xs (nI (i + 1)).toNatClampNeg) (xs (nI (i + 2)).toNatClampNeg) M) S (ok_deep h _ _) (fL_law_b731 L xs (fL_law_b18L L xs n) (nI i)) hK
      rw [if_neg h17]
      by_cases h18 : op = 18
      · rw [if_pos h18]
        exact lw1 (fun X => fX2_needed (xs (nI (i + 1)).toNatClampNeg) (xs (nI (i + 2)).toNatClampNeg) X) (fun M => fX3_needed (xs (nI (i + 1)).toNatClampNeg) (xs (nI (i + 2)).toNatClampNeg) M) S (ok_needed h _ _) (fL_law_b731 L xs (fL_law_b18L L xs n) (nI i)) hK
      rw [if_neg h18]
      by_cases h19 : op = 19
      · rw [if_pos h19]
        exact lw1 (fun X => fX2_weight (xs (nI (i + 1)).toNatClampNeg) (xs (nI (i + 2)).toNatClampNeg) X) (fun M => fX3_weight (xs (nI (i + 1)).toNatClampNeg) (xs (nI (i + 2)).toNatClampNeg) M) S (ok_weight h _ _) (fL_law_b731 L xs (fL_law_b18L L xs n) (nI i)) hK
      rw [if_neg h19]
      by_cases h20 : op = 20
      · rw [if_pos h20]
        exact lw1 (fun X => fX2_count (xs (nI (i + 1)).toNatClampNeg) X) (fun M => fX3_count (xs (nI (i + 1)).toNatClampNeg) M) S (ok_count h _) (fL_law_b731 L xs (fL_law_b18L L xs n) (nI i)) hK
      rw [if_neg h20]
      by_cases h21 : op = 21
      · rw [if_pos h21]
        exact lw2 (fun X => fX2_trace X) (fun M => fX3_trace M) S (ok_trace h) (fL_law_b731 L xs (fL_law_b18L L xs n) (nI i)) hK
      rw [if_neg h21]
      exact hK (l_x S) (l_m S) h
theorem law_ok {L : Nat} (hL : L ≤ 2048) (xs : Nat → Int32) {SM : MS} (h : Rel zX0 SM) : fL_law L xs (zX0, SM) = some 1 := law_l hL xs 512 zF 0 (zX0, SM) (by omega) (by omega) (by decide) h
