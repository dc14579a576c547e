/-! ===== one token on both sides ===== -/
def TK (tok mean tok' va : Int32) : Prop := (tok = 1 ∧ tok' = 2 ∧ va = 0) ∨ (tok = 2 ∧ tok' = 2 ∧ va = 1) ∨ (tok = 3 ∧ tok' = 2 ∧ va = 2) ∨ (tok = 4 ∧ tok' = 2 ∧ va = 3) ∨ (∃ p, p < 64 ∧ tok = 5 ∧ tok' = 1 ∧ mean = nI p ∧ va = nI p) ∨ (∃ v, v ≤ 99 ∧ tok = 6 ∧ tok' = 3 ∧ mean = nI v ∧ va = nI v) ∨ (tok = 7 ∧ tok' = 4) ∨ (tok = 8 ∧ tok' = 5) ∨ (tok = 9 ∧ tok' = 0) ∨ (tok = 10 ∧ tok' = 6)
theorem eqW0 (B : Nat → Nat) (s z : Nat) : eqW B s z 0 = true ↔ z = 3 ∧ B (s + 0) = 97 ∧ B (s + 1) = 100 ∧ B (s + 2) = 100 := by
  simp [eqW, mat, wln, wch]
theorem eqW1 (B : Nat → Nat) (s z : Nat) : eqW B s z 1 = true ↔ z = 2 ∧ B (s + 0) = 98 ∧ B (s + 1) = 121 := by
  simp [eqW, mat, wln, wch]
theorem eqW2 (B : Nat → Nat) (s z : Nat) : eqW B s z 2 = true ↔ z = 5 ∧ B (s + 0) = 116 ∧ B (s + 1) = 105 ∧ B (s + 2) = 109 ∧ B (s + 3) = 101 ∧ B (s + 4) = 115 := by
  simp [eqW, mat, wln, wch]
theorem eqW3 (B : Nat → Nat) (s z : Nat) : eqW B s z 3 = true ↔ z = 5 ∧ B (s + 0) = 99 ∧ B (s + 1) = 108 ∧ B (s + 2) = 97 ∧ B (s + 3) = 105 ∧ B (s + 4) = 109 := by
  simp [eqW, mat, wln, wch]
theorem rf_1 {B : Nat → Nat} {s : Nat} (h : B (s + 0) ≤ 102) : rf B s 1 = some (2 ^ (B (s + 0) - 97)) := by
  have : rf B s 0 = some 0 := rfl
  rw [rf_s this, if_pos ⟨h, by simp⟩]
  simp
theorem no_run {B : Nat → Nat} {s z w : Nat} (hw : w < 4) (h : eqW B s z w = true) : rf B s z = none := by
  have hw4 : w = 0 ∨ w = 1 ∨ w = 2 ∨ w = 3 := by omega
  rcases hw4 with rfl | rfl | rfl | rfl
  · obtain ⟨rfl, a, b, c⟩ := (eqW0 B s z).mp h
    have h1 := rf_1 (B := B) (s := s) (by omega)
    rw [a] at h1
    have h2 := rf_s h1
    rw [b, if_pos (by decide)] at h2
    have h3 := rf_s h2
    rw [c, if_neg (by decide)] at h3
    exact h3
  · obtain ⟨rfl, a, b⟩ := (eqW1 B s z).mp h
    have h1 := rf_1 (B := B) (s := s) (by omega)
    have h2 := rf_s h1
    rw [b, if_neg (fun q => absurd q.1 (by decide))] at h2
    exact h2
  · obtain ⟨rfl, a, -⟩ := (eqW2 B s z).mp h
    have h0 : rf B s 0 = some 0 := rfl
    have h1 := rf_s h0
    rw [a, if_neg (fun q => absurd q.1 (by decide))] at h1
    exact rf_n h1 4
  · obtain ⟨rfl, a, b, -⟩ := (eqW3 B s z).mp h
    have h1 := rf_1 (B := B) (s := s) (by omega)
    have h2 := rf_s h1
    rw [b, if_neg (fun q => absurd q.1 (by decide))] at h2
    exact rf_n h2 3
theorem wd0 : fX3_word 97 100 100 0 0 = some (lN 6382692) := by decide +kernel
theorem wd1 : fX3_word 98 121 0 0 0 = some (lN 25209) := by decide +kernel
theorem wd2 : fX3_word 116 105 109 101 115 = some (lN 499984983411) := by decide +kernel
theorem wd3 : fX3_word 99 108 97 105 109 = some (lN 427020085613) := by decide +kernel
theorem wvs (B : Nat → Nat) (s : Nat) : wv B s 1 = B (s + 0) ∧ wv B s 2 = 256 * B (s + 0) + B (s + 1) ∧ wv B s 3 = 65536 * B (s + 0) + 256 * B (s + 1) + B (s + 2) ∧ wv B s 4 = 16777216 * B (s + 0) + 65536 * B (s + 1) + 256 * B (s + 2) + B (s + 3) ∧ wv B s 5 = 4294967296 * B (s + 0) + 16777216 * B (s + 1) + 65536 * B (s + 2) + 256 * B (s + 3) + B (s + 4) ∧ wv B s 6 = 1099511627776 * B (s + 0) + 4294967296 * B (s + 1) + 16777216 * B (s + 2) + 65536 * B (s + 3) + 256 * B (s + 4) + B (s + 5) := by
  simp only [wv]
  omega
theorem wv_w {B : Nat → Nat} {s z : Nat} (hz : 0 < z) (hA : AllL B s z) : wv B s (min z 6) < 2 ^ 63 ∧ (wv B s (min z 6) = 6382692 ↔ eqW B s z 0 = true) ∧ (wv B s (min z 6) = 25209 ↔ eqW B s z 1 = true) ∧ (wv B s (min z 6) = 499984983411 ↔ eqW B s z 2 = true) ∧ (wv B s (min z 6) = 427020085613 ↔ eqW B s z 3 = true) := by
  rw [eqW0, eqW1, eqW2, eqW3]
  obtain ⟨w1, w2, w3, w4, w5, w6⟩ := wvs B s
  have hc : z = 1 ∨ z = 2 ∨ z = 3 ∨ z = 4 ∨ z = 5 ∨ 6 ≤ z := by omega
  have a0 := hA 0 hz
  rcases hc with rfl | rfl | rfl | rfl | rfl | hc
  · rw [show min 1 6 = 1 by decide, w1]
    omega
  · have a1 := hA 1 (by decide)
    rw [show min 2 6 = 2 by decide, w2]
    omega
  · have a1 := hA 1 (by decide)
    have a2 := hA 2 (by decide)
    rw [show min 3 6 = 3 by decide, w3]
    omega
  · have a1 := hA 1 (by decide)
    have a2 := hA 2 (by decide)
    have a3 := hA 3 (by decide)
    rw [show min 4 6 = 4 by decide, w4]
    omega
  · have a1 := hA 1 (by decide)
    have a2 := hA 2 (by decide)
    have a3 := hA 3 (by decide)
    have a4 := hA 4 (by decide)
    rw [show min 5 6 = 5 by decide, w5]
    omega
  · have a1 := hA 1 (by omega)
    have a2 := hA 2 (by omega)
    have a3 := hA 3 (by omega)
    have a4 := hA 4 (by omega)
    have a5 := hA 5 (by omega)
    rw [Nat.min_eq_right hc, w6]
    omega
theorem iflN {α : Type} {a b : Nat} (ha : a < 2 ^ 63) (hb : b < 2 ^ 63) (x y : α) : (if lg_cmp (lN a) (lN b) = 0 then x else y) = if a = b then x else y := by
  by_cases h : a = b
  · rw [if_pos h, if_pos ((lg_cmp_eq _ _).mpr (by rw [h]))]
  · rw [if_neg h, if_neg (fun q => h ((pk_lEQ ha hb).mp ((lg_cmp_eq _ _).mp q)))]
theorem ib0 {α : Type} (a b : α) : (if b2i false = 0 then a else b) = a := if_pos (by decide)
theorem ib1 {α : Type} (a b : α) : (if b2i true = 0 then a else b) = b := if_neg (by decide)
theorem wordF {t : TS} {M : MS} {T : Nat} {B : Nat → Nat} (h : TB t M T B) (s z : Nat) (hz : 0 < z) (heT : s + z ≤ T) (hA : AllL B s z) (tk tm va : Int32) :
    ∃ tok mean tok' va', TK tok mean tok' va' ∧ tok ≠ 9 ∧ fX1_readWord_b38 (pX t (nI (s + z)) (nI s) tk 0) = some (pX t (nI (s + z)) (nI s) tok mean) ∧ fX3_words (nI (s + z) - nI s) (pM M (nI (s + z)) tm (nI s) va) = some (pM M (nI (s + z)) tok' (nI s) va') := by
  have h4 := h.1
  have hX := runX h s z heT hA tk z zF 0 0 (by omega) (by unfold zF; omega) rfl
  have hM := wordsM_l h s z heT hA tm va z zF 0 0 (by omega) (by unfold zF; omega) (fun st hst => by rw [← Option.some.inj hst]; rfl)
  have eM : nI (s + z) - nI s = nI z := by rw [pk_sub (by omega), show s + z - s = z by omega]
  rw [eM]
  obtain ⟨hlt, q0, q1, q2, q3⟩ := wv_w hz hA
  cases hr : rf B s z with
  | some st =>
    have hst := rf_lt hA z (Nat.le_refl z) st hr
    have hno : ∀ w, w < 4 → eqW B s z w = false := fun w hw => by
      cases he : eqW B s z w
      · rfl
      · have := no_run hw he
        rw [hr] at this
        cases this
    refine ⟨5, nI st, 1, nI st, Or.inr (Or.inr (Or.inr (Or.inr (Or.inl ⟨st, hst, rfl, rfl, rfl, rfl⟩)))), by decide, ?_, hM.1 st hr⟩
    have hrun : fX1_takeRun (pX t (nI (s + z)) (nI s) tk 0) = some (1, pX t (nI (s + z)) (nI s) tk (nI st)) := hX.1 st hr
    unfold fX1_readWord_b38
    rw [isW0 h s z heT, zB2_t rfl, hno 0 (by decide), if_pos (by decide), isW1 h s z heT, zB2_t rfl, hno 1 (by decide), if_pos (by decide), isW2 h s z heT, zB2_t rfl, hno 2 (by decide), if_pos (by decide), isW3 h s z heT, zB2_t rfl, hno 3 (by decide), if_pos (by decide), hrun, zB2_t rfl, i10, zL_t, px_ut]
  | none =>
    obtain ⟨mn, hrun⟩ := hX.2 hr
    have hrun : fX1_takeRun (pX t (nI (s + z)) (nI s) tk 0) = some (0, pX t (nI (s + z)) (nI s) tk mn) := hrun
    have hm : fX3_words (nI z) (pM M (nI (s + z)) tm (nI s) va) = wfin (lN (wv B s (min z 6))) (pM M (nI (s + z)) tm (nI s) va) := hM.2 hr
    rw [hm]
    unfold wfin fX3_words_b211 fX1_readWord_b38
    rw [isW0 h s z heT, zB2_t rfl, wd0, zB1_t rfl, iflN hlt (by decide)]
    cases e0 : eqW B s z 0 with
    | true =>
      rw [if_pos (q0.mpr e0), ib1, zL_t, px_ut, zL_t, pm_uv, pm_value, if_neg (by decide), zL_t, pm_ut]
      exact ⟨1, 0, 2, 0, Or.inl ⟨rfl, rfl, rfl⟩, by decide, rfl, rfl⟩
    | false =>
      have n0 : ¬ wv B s (min z 6) = 6382692 := fun q => by rw [q0.mp q] at e0; cases e0
      rw [if_neg n0, ib0, isW1 h s z heT, zB2_t rfl, wd1, zB1_t rfl, iflN hlt (by decide)]
      cases e1 : eqW B s z 1 with
      | true =>
        rw [if_pos (q1.mpr e1), ib1, zL_t, px_ut, zL_t, pm_uv, pm_value, if_neg (by decide), zL_t, pm_ut]
        exact ⟨2, 0, 2, 1, Or.inr (Or.inl ⟨rfl, rfl, rfl⟩), by decide, rfl, rfl⟩
      | false =>
        have n1 : ¬ wv B s (min z 6) = 25209 := fun q => by rw [q1.mp q] at e1; cases e1
        rw [if_neg n1, ib0, isW2 h s z heT, zB2_t rfl, wd2, zB1_t rfl, iflN hlt (by decide)]
        cases e2 : eqW B s z 2 with
        | true =>
          rw [if_pos (q2.mpr e2), ib1, zL_t, px_ut, zL_t, pm_uv, pm_value, if_neg (by decide), zL_t, pm_ut]
          exact ⟨3, 0, 2, 2, Or.inr (Or.inr (Or.inl ⟨rfl, rfl, rfl⟩)), by decide, rfl, rfl⟩
        | false =>
          have n2 : ¬ wv B s (min z 6) = 499984983411 := fun q => by rw [q2.mp q] at e2; cases e2
          rw [if_neg n2, ib0, isW3 h s z heT, zB2_t rfl, wd3, zB1_t rfl, iflN hlt (by decide)]
          cases e3 : eqW B s z 3 with
          | true =>
            rw [if_pos (q3.mpr e3), ib1, zL_t, px_ut, zL_t, pm_uv, pm_value, if_neg (by decide), zL_t, pm_ut]
            exact ⟨4, 0, 2, 3, Or.inr (Or.inr (Or.inr (Or.inl ⟨rfl, rfl, rfl⟩))), by decide, rfl, rfl⟩
          | false =>
            have n3 : ¬ wv B s (min z 6) = 427020085613 := fun q => by rw [q3.mp q] at e3; cases e3
            rw [if_neg n3, ib0, hrun, zB2_t rfl, i00, zL_t, px_ut, zL_t, pm_uv, pm_value, if_pos rfl, zL_t, pm_ut]
            exact ⟨10, mn, 6, -9, Or.inr (Or.inr (Or.inr (Or.inr (Or.inr (Or.inr (Or.inr (Or.inr (Or.inr ⟨rfl, rfl⟩)))))))), by decide, rfl, rfl⟩
theorem numF {t : TS} {M : MS} {T : Nat} {B : Nat → Nat} (h : TB t M T B) (s e v : Nat) (hs : s < e) (heT : e ≤ T) (hv : v ≤ 999) (tk tm : Int32) :
    ∃ tok mean tok' va', TK tok mean tok' va' ∧ tok ≠ 9 ∧ fX1_readNumber_b66 (pX t (nI e) (nI s) tk (nI (min v 100))) = some (pX t (nI e) (nI s) tok mean) ∧ advN (nI (B s)) (pM M (nI e) tm (nI s) (nI v)) = some (pM M (nI e) tok' (nI s) va') := by
  have h4 := h.1
  have hsT : s < T := by omega
  have hb := (h.2.2.2 s hsT).1
  have hsub : nI e - nI s = nI (e - s) := pk_sub (by omega)
  unfold fX1_readNumber_b66 advN fX1_readNumber_b96 fX1_readNumber_b97 fX3_advances_b228
  rw [px_start, byteX h hsT, zB2_t rfl, px_mean, pm_value, px_place, px_start, pm_next, pm_place, hsub, i00, i10]
  simp only [zL_t, px_ut, pm_ut]
  have hbad : TK 10 (nI (min v 100)) 6 (nI v) := Or.inr (Or.inr (Or.inr (Or.inr (Or.inr (Or.inr (Or.inr (Or.inr (Or.inr ⟨rfl, rfl⟩))))))))
  rcases Nat.lt_or_ge 99 v with hv9 | hv9
  · have c1 : ¬ nI (min v 100) ≤ (99 : Int32) := by
      rw [Nat.min_eq_right (show 100 ≤ v by omega)]
      decide
    have c2 : (99 : Int32) < nI v := nI_lt (a := 99) hv9 (by omega)
    rw [if_neg c1, if_pos c2]
    refine ⟨10, nI (min v 100), 6, nI v, hbad, by decide, ?_, rfl⟩
    split
    · split <;> rfl
    · rfl
  · have e100 : min v 100 = v := Nat.min_eq_left (by omega)
    have c1 : nI (min v 100) ≤ (99 : Int32) := by rw [e100]; exact nI_le (b := 99) hv9 (by decide)
    have c2 : ¬ (99 : Int32) < nI v := nI_nlt (a := 99) (b := v) hv9 (by decide)
    have hok : TK 6 (nI (min v 100)) 3 (nI v) := Or.inr (Or.inr (Or.inr (Or.inr (Or.inr (Or.inl ⟨v, hv9, rfl, rfl, by rw [e100], rfl⟩)))))
    rw [if_pos c1, if_neg c2]
    by_cases h48 : nI (B s) = 48
    · rw [if_pos h48, if_pos h48]
      by_cases hone : nI (e - s) ≤ 1
      · rw [if_pos hone, if_pos hone]
        exact ⟨6, _, 3, _, hok, by decide, rfl, rfl⟩
      · rw [if_neg hone, if_neg hone]
        exact ⟨10, _, 6, _, hbad, by decide, rfl, rfl⟩
    · rw [if_neg h48, if_neg h48]
      exact ⟨6, _, 3, _, hok, by decide, rfl, rfl⟩
/-- the next token -/
theorem nextR {t : TS} {M : MS} {T : Nat} {B : Nat → Nat} (h : TB t M T B) {q : Nat} (hq : q ≤ T) (st tk mn tm pl va : Int32) :
    ∃ q' s tok mean tok' va', s ≤ q' ∧ q' ≤ T ∧ q ≤ q' ∧ (tok ≠ 9 → q < q') ∧ TK tok mean tok' va' ∧ fX1_next (pX t (nI q) st tk mn) = some (pX t (nI q') (nI s) tok mean) ∧ fX3_advances (pM M (nI q) tm pl va) = some (pM M (nI q') tok' (nI s) va') := by
  have h4 := h.1
  obtain ⟨s, a1, a2, a3, a4⟩ := skipR h st tk mn tm pl va (T - q) (zF + 1) (zF + 1) q (by omega) (by unfold zF; omega) (by unfold zF; omega)
  have a3 : fX1_next (pX t (nI q) st tk mn) = fX1_next_b37 (pX t (nI s) st tk mn) := a3
  have a4 : fX3_advances (pM M (nI q) tm pl va) = advT (pM M (nI s) tm pl va) := a4
  rw [a3, a4]
  unfold fX1_next_b37 advT
  rw [px_place, zL_t, px_us, zL_t, px_um, px_start, zL_t, pm_next, pm_up, pm_next]
  rcases Nat.lt_or_ge s T with hsT | hsT
  · have hb := (h.2.2.2 s hsT).1
    rw [byteX h hsT, zB2_t rfl, px_start, px_len, h.2.1, if_pos (nI_lt hsT (by omega)), byteM h hsT, zB2_t rfl, if_pos (nI_pos' (by omega)), ltX _ hb, zB1_t rfl, ltM _ hb, zB1_t rfl]
    cases hl : isLt (B s) with
    | true =>
      rw [if_neg (by decide), if_neg (by decide)]
      obtain ⟨e', b1, b2, b3, b4, b5, b6⟩ := wordR h (nI s) tk 0 tm (nI s) va (T - s) (zF + 1) zF s (by omega) (by unfold zF; omega) (by unfold zF; omega)
      have b5 : fX1_readWord (pX t (nI s) (nI s) tk 0) = _ := b5
      have hlt := b3 hsT hl
      obtain ⟨z, rfl⟩ : ∃ z, e' = s + z := ⟨e' - s, by omega⟩
      have hA : AllL B s z := fun k hk => by
        have := b4 (s + k) (by omega) (by omega)
        unfold isLt at this
        simpa using this
      obtain ⟨tok, mean, tok', va', c1, c2, c3, c4⟩ := wordF h s z (by omega) b2 hA tk tm va
      rw [b5, b6, c3, c4]
      exact ⟨s + z, s, tok, mean, tok', va', by omega, b2, by omega, fun _ => by omega, c1, rfl, rfl⟩
    | false =>
      rw [if_pos (by decide), if_pos (by decide), dgX _ hb, zB1_t rfl, dgM _ hb, zB1_t rfl]
      cases hd : isDg (B s) with
      | true =>
        rw [if_neg (by decide), if_neg (by decide), zL_t, pm_uv]
        obtain ⟨e', v', b1, b2, b3, b4, b5, b6⟩ := numR h (nI s) tk tm (nI s) (nI (B s)) (T - s) (zF + 1) zF s 0 (by omega) (by unfold zF; omega) (by unfold zF; omega) (by omega)
        have b5 : fX1_readNumber (pX t (nI s) (nI s) tk 0) = _ := b5
        have b6 : fX3_advances_b129L zF (nI (B s)) (pM M (nI s) tm (nI s) 0) = _ := b6
        have hlt := b3 hsT hd
        obtain ⟨tok, mean, tok', va', c1, c2, c3, c4⟩ := numF h s e' v' hlt b2 b4 tk tm
        rw [b5, b6, c3, c4]
        exact ⟨e', s, tok, mean, tok', va', by omega, b2, by omega, fun _ => by omega, c1, rfl, rfl⟩
      | false =>
        rw [if_pos (by decide), if_pos (by decide), zL_t, px_uq, px_place, nI_1, zL_t, pm_un, pm_next, nI_1]
        simp only [zL_t, px_ut, pm_ut]
        by_cases h43 : nI (B s) = 43
        · rw [if_pos h43, if_pos h43]
          exact ⟨s + 1, s, 7, 0, 4, va, by omega, by omega, by omega, fun _ => by omega, Or.inr (Or.inr (Or.inr (Or.inr (Or.inr (Or.inr (Or.inl ⟨rfl, rfl⟩)))))), rfl, rfl⟩
        · rw [if_neg h43, if_neg h43]
          by_cases h59 : nI (B s) = 59
          · rw [if_pos h59, if_pos h59]
            exact ⟨s + 1, s, 8, 0, 5, va, by omega, by omega, by omega, fun _ => by omega, Or.inr (Or.inr (Or.inr (Or.inr (Or.inr (Or.inr (Or.inr (Or.inl ⟨rfl, rfl⟩))))))), rfl, rfl⟩
          · rw [if_neg h59, if_neg h59]
            exact ⟨s + 1, s, 10, 0, 6, va, by omega, by omega, by omega, fun _ => by omega, Or.inr (Or.inr (Or.inr (Or.inr (Or.inr (Or.inr (Or.inr (Or.inr (Or.inr ⟨rfl, rfl⟩)))))))), rfl, rfl⟩
  · have : s = T := by omega
    subst this
    rw [byteX0 h, zB2_t rfl, px_start, px_len, h.2.1, if_neg (nI_nlt (Nat.le_refl s) (by omega)), byteM0 h, zB2_t rfl, if_neg (by decide)]
    simp only [zL_t, px_ut, pm_ut]
    exact ⟨s, s, 9, 0, 0, va, Nat.le_refl s, Nat.le_refl s, hq, fun q => absurd rfl q, Or.inr (Or.inr (Or.inr (Or.inr (Or.inr (Or.inr (Or.inr (Or.inr (Or.inl ⟨rfl, rfl⟩)))))))), rfl, rfl⟩
