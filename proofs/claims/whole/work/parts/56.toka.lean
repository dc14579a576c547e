/-! ===== the two readers: their states, their bytes ===== -/
def pX (t : TS) (q s tk mn : Int32) : TS := (t_bytes t, t_length t, q, s, tk, mn, t_told t, t_sums t, t_ops t, t_firsts t, t_seconds t)
theorem px_len (t : TS) (q s tk mn : Int32) : t_length (pX t q s tk mn) = t_length t := rfl
theorem px_bytes (t : TS) (q s tk mn : Int32) : t_bytes (pX t q s tk mn) = t_bytes t := rfl
theorem px_place (t : TS) (q s tk mn : Int32) : t_place (pX t q s tk mn) = q := rfl
theorem px_start (t : TS) (q s tk mn : Int32) : t_start (pX t q s tk mn) = s := rfl
theorem px_token (t : TS) (q s tk mn : Int32) : t_token (pX t q s tk mn) = tk := rfl
theorem px_mean (t : TS) (q s tk mn : Int32) : t_meaning (pX t q s tk mn) = mn := rfl
theorem px_uq (t : TS) (q s tk mn z : Int32) : t_place_u (pX t q s tk mn) z = pX t z s tk mn := rfl
theorem px_us (t : TS) (q s tk mn z : Int32) : t_start_u (pX t q s tk mn) z = pX t q z tk mn := rfl
theorem px_ut (t : TS) (q s tk mn z : Int32) : t_token_u (pX t q s tk mn) z = pX t q s z mn := rfl
theorem px_um (t : TS) (q s tk mn z : Int32) : t_meaning_u (pX t q s tk mn) z = pX t q s tk z := rfl
theorem px_id (t : TS) : pX t (t_place t) (t_start t) (t_token t) (t_meaning t) = t := rfl
def pM (M : MS) (nx tk pl va : Int32) : MS := (m_thrown M, m_trace M, m_order M, m_text M, m_typed M, nx, tk, pl, va, m_fault M, m_given M, m_made M, m_steps M, m_wrongStep M, m_line M, m_draft M, m_step M, m_claimed M, m_common M, m_standing M, m_vector M, m_made0 M, m_vectors M, m_rests M, m_led M, m_isLed M, m_isDone M)
theorem pm_next (M : MS) (nx tk pl va : Int32) : m_next (pM M nx tk pl va) = nx := rfl
theorem pm_token (M : MS) (nx tk pl va : Int32) : m_token (pM M nx tk pl va) = tk := rfl
theorem pm_place (M : MS) (nx tk pl va : Int32) : m_place (pM M nx tk pl va) = pl := rfl
theorem pm_value (M : MS) (nx tk pl va : Int32) : m_value (pM M nx tk pl va) = va := rfl
theorem pm_text (M : MS) (nx tk pl va : Int32) : m_text (pM M nx tk pl va) = m_text M := rfl
theorem pm_typed (M : MS) (nx tk pl va : Int32) : m_typed (pM M nx tk pl va) = m_typed M := rfl
theorem pm_un (M : MS) (nx tk pl va z : Int32) : m_next_u (pM M nx tk pl va) z = pM M z tk pl va := rfl
theorem pm_ut (M : MS) (nx tk pl va z : Int32) : m_token_u (pM M nx tk pl va) z = pM M nx z pl va := rfl
theorem pm_up (M : MS) (nx tk pl va z : Int32) : m_place_u (pM M nx tk pl va) z = pM M nx tk z va := rfl
theorem pm_uv (M : MS) (nx tk pl va z : Int32) : m_value_u (pM M nx tk pl va) z = pM M nx tk pl z := rfl
theorem pm_id (M : MS) : pM M (m_next M) (m_token M) (m_place M) (m_value M) = M := rfl
/-- the same bytes on both sides -/
def TB (t : TS) (M : MS) (T : Nat) (B : Nat → Nat) : Prop := T ≤ 400 ∧ t_length t = nI T ∧ m_typed M = nI T ∧ ∀ k, k < T → B k < 256 ∧ t_bytes t k = nI (B k) ∧ m_text M k = nI (B k)
theorem byteX {t : TS} {M : MS} {T : Nat} {B : Nat → Nat} (h : TB t M T B) {k : Nat} (hk : k < T) (q s tk mn : Int32) : fX1_byteAt (nI k) (pX t q s tk mn) = some (nI (B k), pX t q s tk mn) := by
  have h4 := h.1
  unfold fX1_byteAt
  rw [if_neg (nI_pos (show k < 2 ^ 31 by omega)), px_len, h.2.1, if_neg (nI_ge hk (by omega)), if_neg (show ¬ (400 : Int32) ≤ nI k from nI_ge (show k < 400 by omega) (by decide)), zGI_t (vp_in_nI (show k < 400 by omega) (by decide)), px_bytes, nI_clamp (show k < 2 ^ 31 by omega), (h.2.2.2 k hk).2.1]
theorem byteX0 {t : TS} {M : MS} {T : Nat} {B : Nat → Nat} (h : TB t M T B) (q s tk mn : Int32) : fX1_byteAt (nI T) (pX t q s tk mn) = some (0, pX t q s tk mn) := by
  have h4 := h.1
  unfold fX1_byteAt
  rw [if_neg (nI_pos (show T < 2 ^ 31 by omega)), px_len, h.2.1, if_pos (nI_le (Nat.le_refl T) (by omega))]
theorem byteM {t : TS} {M : MS} {T : Nat} {B : Nat → Nat} (h : TB t M T B) {k : Nat} (hk : k < T) (nx tk pl va : Int32) : fX3_byteAt (nI k) (pM M nx tk pl va) = some (nI (B k), pM M nx tk pl va) := by
  have h4 := h.1
  unfold fX3_byteAt
  rw [pm_typed, h.2.2.1, if_neg (nI_ge hk (by omega)), zGI_t (vp_in_nI (show k < 400 by omega) (by decide)), pm_text, nI_clamp (show k < 2 ^ 31 by omega), (h.2.2.2 k hk).2.2]
theorem byteM0 {t : TS} {M : MS} {T : Nat} {B : Nat → Nat} (h : TB t M T B) (nx tk pl va : Int32) : fX3_byteAt (nI T) (pM M nx tk pl va) = some (-1, pM M nx tk pl va) := by
  have h4 := h.1
  unfold fX3_byteAt
  rw [pm_typed, h.2.2.1, if_pos (nI_le (Nat.le_refl T) (by omega))]
def isLt (c : Nat) : Bool := decide (97 ≤ c ∧ c ≤ 122)
def isDg (c : Nat) : Bool := decide (48 ≤ c ∧ c ≤ 57)
theorem ltX : ∀ c, c < 256 → fX1_isSmallLetter (nI c) = some (b2i (isLt c)) := by decide +kernel
theorem ltM : ∀ c, c < 256 → fX3_in (nI c) 97 122 = some (b2i (isLt c)) := by decide +kernel
theorem dgX : ∀ c, c < 256 → fX1_isDigit (nI c) = some (b2i (isDg c)) := by decide +kernel
theorem dgM : ∀ c, c < 256 → fX3_in (nI c) 48 57 = some (b2i (isDg c)) := by decide +kernel
theorem ltM1 : fX3_in (-1) 97 122 = some 0 := by decide +kernel
theorem dgM1 : fX3_in (-1) 48 57 = some 0 := by decide +kernel
theorem isc {c k : Nat} (hc : c < 256) (hk : k < 256) : nI c = nI k ↔ c = k := nI_eq (by omega) (by omega)
def advT (S : MS) : Option MS :=
(zL (m_place_u S (m_next S)) (fun S_31 =>
(zB2 (fX3_byteAt (m_next S_31) S_31) (fun r_39 S_39 =>
(if 0 ≤ r_39 then (zB1 (fX3_in r_39 (97 : Int32) (122 : Int32)) (fun r_60 =>
(if r_60 = 0 then (zB1 (fX3_in r_39 (48 : Int32) (57 : Int32)) (fun r_118 =>
(if r_118 = 0 then (zL (m_next_u S_39 ((m_next S_39) + (1 : Int32))) (fun S_247 =>
(if r_39 = (43 : Int32) then (zL (m_token_u S_247 (4 : Int32)) (fun S_273 =>
some S_273)) else
(if r_39 = (59 : Int32) then (zL (m_token_u S_247 (5 : Int32)) (fun S_273 =>
some S_273)) else
(zL (m_token_u S_247 (6 : Int32)) (fun S_273 =>
some S_273)))))) else
(zL (m_value_u S_39 (0 : Int32)) (fun S_126 =>
fX3_advances_b129L zF r_39 S_126))))) else
fX3_advances_b66L zF S_39))) else
(zL (m_token_u S_39 (0 : Int32)) (fun S_49 =>
some S_49)))))))
theorem skipR {t : TS} {M : MS} {T : Nat} {B : Nat → Nat} (h : TB t M T B) (st tk mn tm pl va : Int32) : ∀ (d n m q : Nat), q + d = T → d < n → d < m →
    ∃ s, q ≤ s ∧ s ≤ T ∧ fX1_next_b0L n (pX t (nI q) st tk mn) = fX1_next_b37 (pX t (nI s) st tk mn) ∧ fX3_advances_b0L m (pM M (nI q) tm pl va) = advT (pM M (nI s) tm pl va) := by
  have h4 := h.1
  intro d
  induction d with
  | zero =>
    intro n m q hq hn hm
    obtain ⟨n, rfl⟩ : ∃ k, n = k + 1 := ⟨n - 1, by omega⟩
    obtain ⟨m, rfl⟩ : ∃ k, m = k + 1 := ⟨m - 1, by omega⟩
    have : q = T := by omega
    subst this
    refine ⟨q, Nat.le_refl q, Nat.le_refl q, ?_, ?_⟩
    · show fX1_next_b0 (fX1_next_b0L n) _ = _
      unfold fX1_next_b0
      rw [px_len, px_place, h.2.1, if_pos (nI_le (Nat.le_refl q) (by omega))]
    · show fX3_advances_b0 (fX3_advances_b0L m) _ = _
      unfold fX3_advances_b0
      rw [pm_next, byteM0 h, zB2_t rfl, if_neg (by decide)]
      rfl
  | succ d ih =>
    intro n m q hq hn hm
    obtain ⟨n, rfl⟩ : ∃ k, n = k + 1 := ⟨n - 1, by omega⟩
    obtain ⟨m, rfl⟩ : ∃ k, m = k + 1 := ⟨m - 1, by omega⟩
    have hqT : q < T := by omega
    have hb := (h.2.2.2 q hqT).1
    by_cases h32 : B q = 32
    · have hyes : nI (B q) = (32 : Int32) := (isc hb (by decide : 32 < 256)).mpr h32
      obtain ⟨s, a1, a2, a3, a4⟩ := ih n m (q + 1) (by omega) (by omega) (by omega)
      refine ⟨s, by omega, a2, ?_, ?_⟩
      · rw [← a3]
        show fX1_next_b0 (fX1_next_b0L n) _ = _
        unfold fX1_next_b0
        rw [px_len, px_place, h.2.1, if_neg (nI_ge hqT (by omega)), byteX h hqT, zB2_t rfl, if_pos hyes, zL_t, px_uq, px_place, nI_1]
      · rw [← a4]
        show fX3_advances_b0 (fX3_advances_b0L m) _ = _
        unfold fX3_advances_b0
        rw [pm_next, byteM h hqT, zB2_t rfl, if_pos hyes, zL_t, pm_un, pm_next, nI_1]
    · have hne : ¬ nI (B q) = (32 : Int32) := fun e => h32 ((isc hb (by decide : 32 < 256)).mp e)
      refine ⟨q, Nat.le_refl q, by omega, ?_, ?_⟩
      · show fX1_next_b0 (fX1_next_b0L n) _ = _
        unfold fX1_next_b0
        rw [px_len, px_place, h.2.1, if_neg (nI_ge hqT (by omega)), byteX h hqT, zB2_t rfl, if_neg hne]
      · show fX3_advances_b0 (fX3_advances_b0L m) _ = _
        unfold fX3_advances_b0
        rw [pm_next, byteM h hqT, zB2_t rfl, if_neg hne]
        rfl
theorem wordR {t : TS} {M : MS} {T : Nat} {B : Nat → Nat} (h : TB t M T B) (st tk mn tm pl va : Int32) : ∀ (d n m e : Nat), e + d = T → d < n → d < m →
    ∃ e', e ≤ e' ∧ e' ≤ T ∧ (e < T → isLt (B e) = true → e < e') ∧ (∀ k, e ≤ k → k < e' → isLt (B k) = true) ∧ fX1_readWord_b0L n (pX t (nI e) st tk mn) = fX1_readWord_b38 (pX t (nI e') st tk mn) ∧ fX3_advances_b66L m (pM M (nI e) tm pl va) = fX3_words (nI e' - pl) (pM M (nI e') tm pl va) := by
  have h4 := h.1
  intro d
  induction d with
  | zero =>
    intro n m e he hn hm
    obtain ⟨n, rfl⟩ : ∃ k, n = k + 1 := ⟨n - 1, by omega⟩
    obtain ⟨m, rfl⟩ : ∃ k, m = k + 1 := ⟨m - 1, by omega⟩
    have : e = T := by omega
    subst this
    refine ⟨e, Nat.le_refl e, Nat.le_refl e, fun q => absurd q (by omega), fun k h1 h2 => absurd h2 (by omega), ?_, ?_⟩
    · show fX1_readWord_b0 (fX1_readWord_b0L n) _ = _
      unfold fX1_readWord_b0
      rw [px_len, px_place, h.2.1, if_pos (nI_le (Nat.le_refl e) (by omega))]
    · show fX3_advances_b66 (fX3_advances_b66L m) _ = _
      unfold fX3_advances_b66
      rw [pm_next, byteM0 h, zB2_t rfl, ltM1, zB1_t rfl, i00, pm_next, pm_place, zB1_some]
  | succ d ih =>
    intro n m e he hn hm
    obtain ⟨n, rfl⟩ : ∃ k, n = k + 1 := ⟨n - 1, by omega⟩
    obtain ⟨m, rfl⟩ : ∃ k, m = k + 1 := ⟨m - 1, by omega⟩
    have heT : e < T := by omega
    have hb := (h.2.2.2 e heT).1
    cases hl : isLt (B e)
    · refine ⟨e, Nat.le_refl e, by omega, fun _ q => (by cases q), fun k h1 h2 => absurd h2 (by omega), ?_, ?_⟩
      · show fX1_readWord_b0 (fX1_readWord_b0L n) _ = _
        unfold fX1_readWord_b0
        rw [px_len, px_place, h.2.1, if_neg (nI_ge heT (by omega)), byteX h heT, zB2_t rfl, ltX _ hb, hl, zB1_t rfl, if_pos (by decide)]
      · show fX3_advances_b66 (fX3_advances_b66L m) _ = _
        unfold fX3_advances_b66
        rw [pm_next, byteM h heT, zB2_t rfl, ltM _ hb, hl, zB1_t rfl, if_pos (by decide), pm_next, pm_place, zB1_some]
    · obtain ⟨e', a1, a2, -, a3, a4, a5⟩ := ih n m (e + 1) (by omega) (by omega) (by omega)
      refine ⟨e', by omega, a2, fun _ _ => by omega, fun k h1 h2 => ?_, ?_, ?_⟩
      · by_cases q : k = e
        · subst q; exact hl
        · exact a3 k (by omega) h2
      · rw [← a4]
        show fX1_readWord_b0 (fX1_readWord_b0L n) _ = _
        unfold fX1_readWord_b0
        rw [px_len, px_place, h.2.1, if_neg (nI_ge heT (by omega)), byteX h heT, zB2_t rfl, ltX _ hb, hl, zB1_t rfl, if_neg (by decide), zL_t, px_uq, px_place, nI_1]
      · rw [← a5]
        show fX3_advances_b66 (fX3_advances_b66L m) _ = _
        unfold fX3_advances_b66
        rw [pm_next, byteM h heT, zB2_t rfl, ltM _ hb, hl, zB1_t rfl, if_neg (by decide), zL_t, pm_un, pm_next, nI_1]
def advN (c : Int32) (S : MS) : Option MS :=
(if (99 : Int32) < (m_value S) then fX3_advances_b228 S else
(if c = (48 : Int32) then (if ((m_next S) - (m_place S)) ≤ (1 : Int32) then (zL (m_token_u S (3 : Int32)) (fun S_234 =>
some S_234)) else
fX3_advances_b228 S) else
(zL (m_token_u S (3 : Int32)) (fun S_234 =>
some S_234))))
theorem digX : ∀ v, v < 101 → ∀ c, c < 10 → (if (100 : Int32) < (10 : Int32) * nI v + nI (48 + c) - 48 then (100 : Int32) else (10 : Int32) * nI v + nI (48 + c) - 48) = nI (min (10 * v + c) 100) := by decide +kernel
theorem digM : ∀ v, v < 100 → ∀ c, c < 10 → (10 : Int32) * nI v + nI (48 + c) - 48 = nI (10 * v + c) := by decide +kernel
theorem numR {t : TS} {M : MS} {T : Nat} {B : Nat → Nat} (h : TB t M T B) (st tk tm pl : Int32) (c : Int32) : ∀ (d n m e v : Nat), e + d = T → d < n → d < m → v ≤ 999 →
    ∃ e' v', e ≤ e' ∧ e' ≤ T ∧ (e < T → isDg (B e) = true → e < e') ∧ v' ≤ 999 ∧ fX1_readNumber_b0L n (pX t (nI e) st tk (nI (min v 100))) = fX1_readNumber_b66 (pX t (nI e') st tk (nI (min v' 100))) ∧ fX3_advances_b129L m c (pM M (nI e) tm pl (nI v)) = advN c (pM M (nI e') tm pl (nI v')) := by
  have h4 := h.1
  intro d
  induction d with
  | zero =>
    intro n m e v he hn hm hv
    obtain ⟨n, rfl⟩ : ∃ k, n = k + 1 := ⟨n - 1, by omega⟩
    obtain ⟨m, rfl⟩ : ∃ k, m = k + 1 := ⟨m - 1, by omega⟩
    have : e = T := by omega
    subst this
    refine ⟨e, v, Nat.le_refl e, Nat.le_refl e, fun q => absurd q (by omega), hv, ?_, ?_⟩
    · show fX1_readNumber_b0 (fX1_readNumber_b0L n) _ = _
      unfold fX1_readNumber_b0
      rw [px_len, px_place, h.2.1, if_pos (nI_le (Nat.le_refl e) (by omega))]
    · show fX3_advances_b129 (fX3_advances_b129L m) _ _ = _
      unfold fX3_advances_b129
      rw [pm_next, byteM0 h, zB2_t rfl, dgM1, zB1_t rfl, i00]
      rfl
  | succ d ih =>
    intro n m e v he hn hm hv
    obtain ⟨n, rfl⟩ : ∃ k, n = k + 1 := ⟨n - 1, by omega⟩
    obtain ⟨m, rfl⟩ : ∃ k, m = k + 1 := ⟨m - 1, by omega⟩
    have heT : e < T := by omega
    have hb := (h.2.2.2 e heT).1
    cases hl : isDg (B e)
    · refine ⟨e, v, Nat.le_refl e, by omega, fun _ q => (by cases q), hv, ?_, ?_⟩
      · show fX1_readNumber_b0 (fX1_readNumber_b0L n) _ = _
        unfold fX1_readNumber_b0
        rw [px_len, px_place, h.2.1, if_neg (nI_ge heT (by omega)), byteX h heT, zB2_t rfl, dgX _ hb, hl, zB1_t rfl, if_pos (by decide)]
      · show fX3_advances_b129 (fX3_advances_b129L m) _ _ = _
        unfold fX3_advances_b129
        rw [pm_next, byteM h heT, zB2_t rfl, dgM _ hb, hl, zB1_t rfl, if_pos (by decide)]
        rfl
    · have hd2 : 48 ≤ B e ∧ B e ≤ 57 := by simpa [isDg] using hl
      obtain ⟨c0, hc0, ec⟩ : ∃ c0, c0 < 10 ∧ B e = 48 + c0 := ⟨B e - 48, by omega, by omega⟩
      have hX : ∀ v2, min (10 * min v 100 + c0) 100 = min v2 100 → fX1_readNumber_b0L (n + 1) (pX t (nI e) st tk (nI (min v 100))) = fX1_readNumber_b0L n (pX t (nI (e + 1)) st tk (nI (min v2 100))) := fun v2 e2 => by
        show fX1_readNumber_b0 (fX1_readNumber_b0L n) _ = _
        unfold fX1_readNumber_b0
        rw [px_len, px_place, h.2.1, if_neg (nI_ge heT (by omega)), byteX h heT, zB2_t rfl, dgX _ hb, hl, zB1_t rfl, if_neg (by decide), px_place, byteX h heT, zB2_t rfl, px_mean, ec, digX (min v 100) (by omega) c0 hc0, e2, zL_t, px_um, zL_t, px_uq, px_place, nI_1]
      rcases Nat.lt_or_ge 99 v with hv9 | hv9
      · obtain ⟨e', v', a1, a2, -, a3, a4, a5⟩ := ih n m (e + 1) v (by omega) (by omega) (by omega) hv
        refine ⟨e', v', by omega, a2, fun _ _ => by omega, a3, ?_, ?_⟩
        · rw [← a4]
          exact hX v (by omega)
        · rw [← a5]
          show fX3_advances_b129 (fX3_advances_b129L m) _ _ = _
          unfold fX3_advances_b129 fX3_advances_b183
          rw [pm_next, byteM h heT, zB2_t rfl, dgM _ hb, hl, zB1_t rfl, if_neg (by decide), pm_value, if_neg (show ¬ nI v ≤ (99 : Int32) from nI_ge (b := v) (a := 99) hv9 (by omega)), zL_t, pm_uv, zL_t, pm_un, pm_next, nI_1]
      · obtain ⟨e', v', a1, a2, -, a3, a4, a5⟩ := ih n m (e + 1) (10 * v + c0) (by omega) (by omega) (by omega) (by omega)
        refine ⟨e', v', by omega, a2, fun _ _ => by omega, a3, ?_, ?_⟩
        · rw [← a4]
          exact hX _ (by rw [Nat.min_eq_left (show v ≤ 100 by omega)])
        · rw [← a5]
          show fX3_advances_b129 (fX3_advances_b129L m) _ _ = _
          unfold fX3_advances_b129 fX3_advances_b183
          rw [pm_next, byteM h heT, zB2_t rfl, dgM _ hb, hl, zB1_t rfl, if_neg (by decide), pm_value, if_pos (show nI v ≤ (99 : Int32) from nI_le (b := 99) hv9 (by decide)), pm_next, byteM h heT, zB2_t rfl, ec, digM v (by omega) c0 hc0, zL_t, pm_uv, zL_t, pm_un, pm_next, nI_1]
