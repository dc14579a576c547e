/-! ===== words: the four, and runs of letters ===== -/
def wch (w k : Nat) : Nat := (([[97, 100, 100], [98, 121], [116, 105, 109, 101, 115], [99, 108, 97, 105, 109]] : List (List Nat)).getD w []).getD k 0
def wln (w : Nat) : Nat := ([3, 2, 5, 5] : List Nat).getD w 0
def mat (B : Nat → Nat) (s w : Nat) : Nat → Nat → Bool
  | 0, _ => true
  | d + 1, k => decide (B (s + k) = wch w k) && mat B s w d (k + 1)
def eqW (B : Nat → Nat) (s z w : Nat) : Bool := decide (z = wln w) && mat B s w (wln w) 0
theorem lenW : ∀ w, w < 4 → fJ0_length_8abf5 w = some (nI (wln w)) := by decide +kernel
theorem chrW : ∀ w, w < 4 → ∀ k, k < wln w → fJ0_charAt_5068e w (nI k) = some (nI (wch w k)) := by decide +kernel
theorem wch_lt : ∀ w, w < 4 → ∀ k, k < wln w → wch w k < 256 := by decide +kernel
theorem wln_le : ∀ w, w < 4 → wln w ≤ 5 := by decide +kernel
theorem isW0_l {t : TS} {M : MS} {T : Nat} {B : Nat → Nat} (h : TB t M T B) (s e : Nat) (heT : e ≤ T) (hz : s + wln 0 = e) (tk mn : Int32) : ∀ (d n k : Nat), k + d = wln 0 → d < n → fX1_isWord_0_b37L n (nI k) (pX t (nI e) (nI s) tk mn) = some (b2i (mat B s 0 d k), pX t (nI e) (nI s) tk mn) := by
  have h4 := h.1
  have h5 := wln_le 0 (by decide)
  intro d
  induction d with
  | zero =>
    intro n k hk hn
    obtain ⟨n, rfl⟩ : ∃ q, n = q + 1 := ⟨n - 1, by omega⟩
    show fX1_isWord_0_b37 (fX1_isWord_0_b37L n) _ _ = _
    unfold fX1_isWord_0_b37
    rw [lenW 0 (by decide), zB1_t rfl, if_pos (nI_le (by omega) (by omega))]
    rfl
  | succ d ih =>
    intro n k hk hn
    obtain ⟨n, rfl⟩ : ∃ q, n = q + 1 := ⟨n - 1, by omega⟩
    have hkw : k < wln 0 := by omega
    have hsk : s + k < T := by omega
    have hb := h.2.2.2 (s + k) hsk
    show fX1_isWord_0_b37 (fX1_isWord_0_b37L n) _ _ = _
    unfold fX1_isWord_0_b37
    rw [lenW 0 (by decide), zB1_t rfl, if_neg (nI_ge hkw (by omega)), px_start, nI_add, zGI_t (vp_in_nI (show s + k < 400 by omega) (by decide)), chrW 0 (by decide) k hkw, zB1_t rfl, px_bytes, nI_clamp (by omega), hb.2.1, nI_1, ih n (k + 1) (by omega) (by omega), mat]
    by_cases hq : B (s + k) = wch 0 k
    · rw [if_pos ((isc hb.1 (wch_lt 0 (by decide) k hkw)).mpr hq)]
      simp [hq]
    · rw [if_neg (fun q => hq ((isc hb.1 (wch_lt 0 (by decide) k hkw)).mp q))]
      simp [hq, b2i]
theorem isW0 {t : TS} {M : MS} {T : Nat} {B : Nat → Nat} (h : TB t M T B) (s z : Nat) (heT : s + z ≤ T) (tk mn : Int32) : fX1_isWord_0 (pX t (nI (s + z)) (nI s) tk mn) = some (b2i (eqW B s z 0), pX t (nI (s + z)) (nI s) tk mn) := by
  have h4 := h.1
  have h5 := wln_le 0 (by decide)
  unfold fX1_isWord_0 eqW
  rw [px_start, px_place, if_neg (nI_pos (by omega)), if_neg (show ¬ (400 : Int32) < nI (s + z) from nI_nlt (a := 400) (b := s + z) (by omega) (by decide)), lenW 0 (by decide), zB1_t rfl, pk_sub (by omega), show s + z - s = z by omega]
  by_cases hz : z = wln 0
  · subst hz
    rw [if_pos rfl, decide_eq_true rfl, Bool.true_and]
    exact isW0_l h s (s + wln 0) heT rfl tk mn (wln 0) zF 0 (by omega) (by decide)
  · rw [if_neg (fun q => hz ((nI_eq (by omega) (by omega)).mp q)), decide_eq_false hz, Bool.false_and]
    rfl
theorem isW1_l {t : TS} {M : MS} {T : Nat} {B : Nat → Nat} (h : TB t M T B) (s e : Nat) (heT : e ≤ T) (hz : s + wln 1 = e) (tk mn : Int32) : ∀ (d n k : Nat), k + d = wln 1 → d < n → fX1_isWord_1_b37L n (nI k) (pX t (nI e) (nI s) tk mn) = some (b2i (mat B s 1 d k), pX t (nI e) (nI s) tk mn) := by
  have h4 := h.1
  have h5 := wln_le 1 (by decide)
  intro d
  induction d with
  | zero =>
    intro n k hk hn
    obtain ⟨n, rfl⟩ : ∃ q, n = q + 1 := ⟨n - 1, by omega⟩
    show fX1_isWord_1_b37 (fX1_isWord_1_b37L n) _ _ = _
    unfold fX1_isWord_1_b37
    rw [lenW 1 (by decide), zB1_t rfl, if_pos (nI_le (by omega) (by omega))]
    rfl
  | succ d ih =>
    intro n k hk hn
    obtain ⟨n, rfl⟩ : ∃ q, n = q + 1 := ⟨n - 1, by omega⟩
    have hkw : k < wln 1 := by omega
    have hsk : s + k < T := by omega
    have hb := h.2.2.2 (s + k) hsk
    show fX1_isWord_1_b37 (fX1_isWord_1_b37L n) _ _ = _
    unfold fX1_isWord_1_b37
    rw [lenW 1 (by decide), zB1_t rfl, if_neg (nI_ge hkw (by omega)), px_start, nI_add, zGI_t (vp_in_nI (show s + k < 400 by omega) (by decide)), chrW 1 (by decide) k hkw, zB1_t rfl, px_bytes, nI_clamp (by omega), hb.2.1, nI_1, ih n (k + 1) (by omega) (by omega), mat]
    by_cases hq : B (s + k) = wch 1 k
    · rw [if_pos ((isc hb.1 (wch_lt 1 (by decide) k hkw)).mpr hq)]
      simp [hq]
    · rw [if_neg (fun q => hq ((isc hb.1 (wch_lt 1 (by decide) k hkw)).mp q))]
      simp [hq, b2i]
theorem isW1 {t : TS} {M : MS} {T : Nat} {B : Nat → Nat} (h : TB t M T B) (s z : Nat) (heT : s + z ≤ T) (tk mn : Int32) : fX1_isWord_1 (pX t (nI (s + z)) (nI s) tk mn) = some (b2i (eqW B s z 1), pX t (nI (s + z)) (nI s) tk mn) := by
  have h4 := h.1
  have h5 := wln_le 1 (by decide)
  unfold fX1_isWord_1 eqW
  rw [px_start, px_place, if_neg (nI_pos (by omega)), if_neg (show ¬ (400 : Int32) < nI (s + z) from nI_nlt (a := 400) (b := s + z) (by omega) (by decide)), lenW 1 (by decide), zB1_t rfl, pk_sub (by omega), show s + z - s = z by omega]
  by_cases hz : z = wln 1
  · subst hz
    rw [if_pos rfl, decide_eq_true rfl, Bool.true_and]
    exact isW1_l h s (s + wln 1) heT rfl tk mn (wln 1) zF 0 (by omega) (by decide)
  · rw [if_neg (fun q => hz ((nI_eq (by omega) (by omega)).mp q)), decide_eq_false hz, Bool.false_and]
    rfl
theorem isW2_l {t : TS} {M : MS} {T : Nat} {B : Nat → Nat} (h : TB t M T B) (s e : Nat) (heT : e ≤ T) (hz : s + wln 2 = e) (tk mn : Int32) : ∀ (d n k : Nat), k + d = wln 2 → d < n → fX1_isWord_2_b37L n (nI k) (pX t (nI e) (nI s) tk mn) = some (b2i (mat B s 2 d k), pX t (nI e) (nI s) tk mn) := by
  have h4 := h.1
  have h5 := wln_le 2 (by decide)
  intro d
  induction d with
  | zero =>
    intro n k hk hn
    obtain ⟨n, rfl⟩ : ∃ q, n = q + 1 := ⟨n - 1, by omega⟩
    show fX1_isWord_2_b37 (fX1_isWord_2_b37L n) _ _ = _
    unfold fX1_isWord_2_b37
    rw [lenW 2 (by decide), zB1_t rfl, if_pos (nI_le (by omega) (by omega))]
    rfl
  | succ d ih =>
    intro n k hk hn
    obtain ⟨n, rfl⟩ : ∃ q, n = q + 1 := ⟨n - 1, by omega⟩
    have hkw : k < wln 2 := by omega
    have hsk : s + k < T := by omega
    have hb := h.2.2.2 (s + k) hsk
    show fX1_isWord_2_b37 (fX1_isWord_2_b37L n) _ _ = _
    unfold fX1_isWord_2_b37
    rw [lenW 2 (by decide), zB1_t rfl, if_neg (nI_ge hkw (by omega)), px_start, nI_add, zGI_t (vp_in_nI (show s + k < 400 by omega) (by decide)), chrW 2 (by decide) k hkw, zB1_t rfl, px_bytes, nI_clamp (by omega), hb.2.1, nI_1, ih n (k + 1) (by omega) (by omega), mat]
    by_cases hq : B (s + k) = wch 2 k
    · rw [if_pos ((isc hb.1 (wch_lt 2 (by decide) k hkw)).mpr hq)]
      simp [hq]
    · rw [if_neg (fun q => hq ((isc hb.1 (wch_lt 2 (by decide) k hkw)).mp q))]
      simp [hq, b2i]
theorem isW2 {t : TS} {M : MS} {T : Nat} {B : Nat → Nat} (h : TB t M T B) (s z : Nat) (heT : s + z ≤ T) (tk mn : Int32) : fX1_isWord_2 (pX t (nI (s + z)) (nI s) tk mn) = some (b2i (eqW B s z 2), pX t (nI (s + z)) (nI s) tk mn) := by
  have h4 := h.1
  have h5 := wln_le 2 (by decide)
  unfold fX1_isWord_2 eqW
  rw [px_start, px_place, if_neg (nI_pos (by omega)), if_neg (show ¬ (400 : Int32) < nI (s + z) from nI_nlt (a := 400) (b := s + z) (by omega) (by decide)), lenW 2 (by decide), zB1_t rfl, pk_sub (by omega), show s + z - s = z by omega]
  by_cases hz : z = wln 2
  · subst hz
    rw [if_pos rfl, decide_eq_true rfl, Bool.true_and]
    exact isW2_l h s (s + wln 2) heT rfl tk mn (wln 2) zF 0 (by omega) (by decide)
  · rw [if_neg (fun q => hz ((nI_eq (by omega) (by omega)).mp q)), decide_eq_false hz, Bool.false_and]
    rfl
theorem isW3_l {t : TS} {M : MS} {T : Nat} {B : Nat → Nat} (h : TB t M T B) (s e : Nat) (heT : e ≤ T) (hz : s + wln 3 = e) (tk mn : Int32) : ∀ (d n k : Nat), k + d = wln 3 → d < n → fX1_isWord_3_b37L n (nI k) (pX t (nI e) (nI s) tk mn) = some (b2i (mat B s 3 d k), pX t (nI e) (nI s) tk mn) := by
  have h4 := h.1
  have h5 := wln_le 3 (by decide)
  intro d
  induction d with
  | zero =>
    intro n k hk hn
    obtain ⟨n, rfl⟩ : ∃ q, n = q + 1 := ⟨n - 1, by omega⟩
    show fX1_isWord_3_b37 (fX1_isWord_3_b37L n) _ _ = _
    unfold fX1_isWord_3_b37
    rw [lenW 3 (by decide), zB1_t rfl, if_pos (nI_le (by omega) (by omega))]
    rfl
  | succ d ih =>
    intro n k hk hn
    obtain ⟨n, rfl⟩ : ∃ q, n = q + 1 := ⟨n - 1, by omega⟩
    have hkw : k < wln 3 := by omega
    have hsk : s + k < T := by omega
    have hb := h.2.2.2 (s + k) hsk
    show fX1_isWord_3_b37 (fX1_isWord_3_b37L n) _ _ = _
    unfold fX1_isWord_3_b37
    rw [lenW 3 (by decide), zB1_t rfl, if_neg (nI_ge hkw (by omega)), px_start, nI_add, zGI_t (vp_in_nI (show s + k < 400 by omega) (by decide)), chrW 3 (by decide) k hkw, zB1_t rfl, px_bytes, nI_clamp (by omega), hb.2.1, nI_1, ih n (k + 1) (by omega) (by omega), mat]
    by_cases hq : B (s + k) = wch 3 k
    · rw [if_pos ((isc hb.1 (wch_lt 3 (by decide) k hkw)).mpr hq)]
      simp [hq]
    · rw [if_neg (fun q => hq ((isc hb.1 (wch_lt 3 (by decide) k hkw)).mp q))]
      simp [hq, b2i]
theorem isW3 {t : TS} {M : MS} {T : Nat} {B : Nat → Nat} (h : TB t M T B) (s z : Nat) (heT : s + z ≤ T) (tk mn : Int32) : fX1_isWord_3 (pX t (nI (s + z)) (nI s) tk mn) = some (b2i (eqW B s z 3), pX t (nI (s + z)) (nI s) tk mn) := by
  have h4 := h.1
  have h5 := wln_le 3 (by decide)
  unfold fX1_isWord_3 eqW
  rw [px_start, px_place, if_neg (nI_pos (by omega)), if_neg (show ¬ (400 : Int32) < nI (s + z) from nI_nlt (a := 400) (b := s + z) (by omega) (by decide)), lenW 3 (by decide), zB1_t rfl, pk_sub (by omega), show s + z - s = z by omega]
  by_cases hz : z = wln 3
  · subst hz
    rw [if_pos rfl, decide_eq_true rfl, Bool.true_and]
    exact isW3_l h s (s + wln 3) heT rfl tk mn (wln 3) zF 0 (by omega) (by decide)
  · rw [if_neg (fun q => hz ((nI_eq (by omega) (by omega)).mp q)), decide_eq_false hz, Bool.false_and]
    rfl
/-! runs of letters -/
def rf (B : Nat → Nat) (s : Nat) : Nat → Option Nat
  | 0 => some 0
  | k + 1 => match rf B s k with
    | none => none
    | some st => if B (s + k) ≤ 102 ∧ st / 2 ^ (B (s + k) - 97) % 2 = 0 then some (st + 2 ^ (B (s + k) - 97)) else none
def AllL (B : Nat → Nat) (s z : Nat) : Prop := ∀ k, k < z → 97 ≤ B (s + k) ∧ B (s + k) ≤ 122
theorem setb : ∀ st, st < 64 → ∀ l, l < 6 → st / 2 ^ l % 2 = 0 → nI st ||| ((1 : Int32) <<< (nI l &&& 31)) = nI (st + 2 ^ l) ∧ st + 2 ^ l < 64 := by decide +kernel
theorem rf_lt {B : Nat → Nat} {s z : Nat} (hA : AllL B s z) : ∀ k, k ≤ z → ∀ st, rf B s k = some st → st < 64
  | 0, _, st, h => by
    have : (0 : Nat) = st := Option.some.inj h
    omega
  | k + 1, hk, st, h => by
    rw [rf] at h
    cases hr : rf B s k with
    | none => rw [hr] at h; cases h
    | some u =>
      rw [hr] at h
      have hu := rf_lt hA k (by omega) u hr
      have hb := hA k (by omega)
      by_cases hc : B (s + k) ≤ 102 ∧ u / 2 ^ (B (s + k) - 97) % 2 = 0
      · have h : (if B (s + k) ≤ 102 ∧ u / 2 ^ (B (s + k) - 97) % 2 = 0 then some (u + 2 ^ (B (s + k) - 97)) else none) = some st := h
        rw [if_pos hc] at h
        have := (setb u hu (B (s + k) - 97) (by omega) hc.2).2
        have e := Option.some.inj h
        omega
      · have h : (if B (s + k) ≤ 102 ∧ u / 2 ^ (B (s + k) - 97) % 2 = 0 then some (u + 2 ^ (B (s + k) - 97)) else none) = some st := h
        rw [if_neg hc] at h
        cases h
theorem rf_s {B : Nat → Nat} {s k st : Nat} (h : rf B s k = some st) : rf B s (k + 1) = if B (s + k) ≤ 102 ∧ st / 2 ^ (B (s + k) - 97) % 2 = 0 then some (st + 2 ^ (B (s + k) - 97)) else none := by
  rw [rf, h]
theorem rf_n {B : Nat → Nat} {s k : Nat} (h : rf B s k = none) : ∀ d, rf B s (k + d) = none
  | 0 => h
  | d + 1 => by
    show rf B s (k + d + 1) = none
    rw [rf, rf_n h d]
theorem runX {t : TS} {M : MS} {T : Nat} {B : Nat → Nat} (h : TB t M T B) (s z : Nat) (heT : s + z ≤ T) (hA : AllL B s z) (tk : Int32) : ∀ (d n k st : Nat), k + d = z → d < n → rf B s k = some st →
    (∀ u, rf B s z = some u → fX1_takeRun_b5L n (nI (s + k)) (pX t (nI (s + z)) (nI s) tk (nI st)) = some (1, pX t (nI (s + z)) (nI s) tk (nI u))) ∧ (rf B s z = none → ∃ mn, fX1_takeRun_b5L n (nI (s + k)) (pX t (nI (s + z)) (nI s) tk (nI st)) = some (0, pX t (nI (s + z)) (nI s) tk mn)) := by
  have h4 := h.1
  intro d
  induction d with
  | zero =>
    intro n k st hk hn hr
    obtain ⟨n, rfl⟩ : ∃ q, n = q + 1 := ⟨n - 1, by omega⟩
    have : k = z := by omega
    subst this
    refine ⟨fun u hu => ?_, fun hno => by rw [hr] at hno; cases hno⟩
    have e : st = u := by rw [hr] at hu; exact Option.some.inj hu
    subst e
    show fX1_takeRun_b5 (fX1_takeRun_b5L n) _ _ = _
    unfold fX1_takeRun_b5
    rw [px_place, if_pos (nI_le (Nat.le_refl _) (by omega))]
  | succ d ih =>
    intro n k st hk hn hr
    obtain ⟨n, rfl⟩ : ∃ q, n = q + 1 := ⟨n - 1, by omega⟩
    have hkz : k < z := by omega
    have hsk : s + k < T := by omega
    have hb := hA k hkz
    have hst := rf_lt hA k (by omega) st hr
    have hs := rf_s hr
    have hgo : fX1_takeRun_b5L (n + 1) (nI (s + k)) (pX t (nI (s + z)) (nI s) tk (nI st)) = if (6 : Int32) ≤ nI (B (s + k) - 97) then some (0, pX t (nI (s + z)) (nI s) tk (nI st)) else if (zUshr (nI st) (nI (B (s + k) - 97)) &&& 1) = 0 then fX1_takeRun_b5L n (nI (s + (k + 1))) (pX t (nI (s + z)) (nI s) tk (nI st ||| ((1 : Int32) <<< (nI (B (s + k) - 97) &&& 31)))) else some (0, pX t (nI (s + z)) (nI s) tk (nI st)) := by
      show fX1_takeRun_b5 (fX1_takeRun_b5L n) _ _ = _
      unfold fX1_takeRun_b5
      rw [px_place, if_neg (nI_ge (show s + k < s + z by omega) (by omega)), byteX h hsk, zB2_t rfl, show nI (B (s + k)) - 97 = nI (B (s + k) - 97) from pk_sub (b := 97) hb.1, if_neg (nI_pos (by omega)), px_mean, zL_t, px_um, nI_1]
      rfl
    by_cases hc : B (s + k) ≤ 102 ∧ st / 2 ^ (B (s + k) - 97) % 2 = 0
    · rw [if_pos hc] at hs
      have hset := setb st hst (B (s + k) - 97) (by omega) hc.2
      have hub := (ubit st (by omega) (B (s + k) - 97) (by omega)).mpr (by omega)
      rw [hgo, if_neg (nle6 (by omega)), if_pos hub, hset.1]
      exact ih n (k + 1) _ (by omega) (by omega) hs
    · rw [if_neg hc] at hs
      have hno : rf B s z = none := by
        have := rf_n hs (z - (k + 1))
        rwa [show k + 1 + (z - (k + 1)) = z by omega] at this
      refine ⟨fun u hu => (by rw [hno] at hu; cases hu), fun _ => ⟨nI st, ?_⟩⟩
      rw [hgo]
      by_cases h6 : B (s + k) ≤ 102
      · rw [if_neg (nle6 (show B (s + k) - 97 < 6 by omega)), if_neg (fun q => hc ⟨h6, by have := (ubit st (by omega) (B (s + k) - 97) (by omega)).mp q; omega⟩)]
      · rw [if_pos (show (6 : Int32) ≤ nI (B (s + k) - 97) from nI_le (a := 6) (show 6 ≤ B (s + k) - 97 by omega) (by omega))]
/-! the model's words() -/
def wv (B : Nat → Nat) (s : Nat) : Nat → Nat
  | 0 => 0
  | n + 1 => 256 * wv B s n + B (s + n)
def wfin (v : Int64) (S : MS) : Option MS :=
(zB1 (fX3_word (97 : Int32) (100 : Int32) (100 : Int32) (0 : Int32) (0 : Int32)) (fun r_135 =>
(if (lg_cmp v r_135) = 0 then fX3_words_b211 (0 : Int32) S else
(zB1 (fX3_word (98 : Int32) (121 : Int32) (0 : Int32) (0 : Int32) (0 : Int32)) (fun r_154 =>
(if (lg_cmp v r_154) = 0 then fX3_words_b211 (1 : Int32) S else
(zB1 (fX3_word (116 : Int32) (105 : Int32) (109 : Int32) (101 : Int32) (115 : Int32)) (fun r_176 =>
(if (lg_cmp v r_176) = 0 then fX3_words_b211 (2 : Int32) S else
(zB1 (fX3_word (99 : Int32) (108 : Int32) (97 : Int32) (105 : Int32) (109 : Int32)) (fun r_198 =>
(if (lg_cmp v r_198) = 0 then fX3_words_b211 (3 : Int32) S else
fX3_words_b211 (-9 : Int32) S))))))))))))
def rfB (B : Nat → Nat) (s k : Nat) : Bool := (rf B s k).isSome
theorem wordsM_l {t : TS} {M : MS} {T : Nat} {B : Nat → Nat} (h : TB t M T B) (s z : Nat) (heT : s + z ≤ T) (hA : AllL B s z) (tm va : Int32) : ∀ (d n k : Nat) (v4 : Int32), k + d = z → d < n → (∀ st, rf B s k = some st → v4 = nI st) →
    (∀ u, rf B s z = some u → fX3_words_b11L n (nI z) (lN (wv B s (min k 6))) v4 (b2i (rfB B s k)) (nI k) (pM M (nI (s + z)) tm (nI s) va) = some (pM M (nI (s + z)) 1 (nI s) (nI u))) ∧ (rf B s z = none → fX3_words_b11L n (nI z) (lN (wv B s (min k 6))) v4 (b2i (rfB B s k)) (nI k) (pM M (nI (s + z)) tm (nI s) va) = wfin (lN (wv B s (min z 6))) (pM M (nI (s + z)) tm (nI s) va)) := by
  have h4 := h.1
  intro d
  induction d with
  | zero =>
    intro n k v4 hk hn hv
    obtain ⟨n, rfl⟩ : ∃ q, n = q + 1 := ⟨n - 1, by omega⟩
    have : k = z := by omega
    subst this
    refine ⟨fun u hu => ?_, fun hno => ?_⟩
    · show fX3_words_b11 (fX3_words_b11L n) _ _ _ _ _ _ = _
      unfold fX3_words_b11
      have hb : rfB B s k = true := by unfold rfB; rw [hu]; rfl
      rw [if_pos (nI_le (Nat.le_refl _) (by omega)), hb, if_neg (by decide), zL_t, pm_ut, zL_t, pm_uv, hv u hu]
    · show fX3_words_b11 (fX3_words_b11L n) _ _ _ _ _ _ = _
      unfold fX3_words_b11
      have hb : rfB B s k = false := by unfold rfB; rw [hno]; rfl
      rw [if_pos (nI_le (Nat.le_refl _) (by omega)), hb, if_pos (by decide)]
      rfl
  | succ d ih =>
    intro n k v4 hk hn hv
    obtain ⟨n, rfl⟩ : ∃ q, n = q + 1 := ⟨n - 1, by omega⟩
    have hkz : k < z := by omega
    have hsk : s + k < T := by omega
    have hb := hA k hkz
    have hB := h.2.2.2 (s + k) hsk
    have hstep : ∃ v4', (∀ st, rf B s (k + 1) = some st → v4' = nI st) ∧ fX3_words_b11L (n + 1) (nI z) (lN (wv B s (min k 6))) v4 (b2i (rfB B s k)) (nI k) (pM M (nI (s + z)) tm (nI s) va) = fX3_words_b11L n (nI z) (lN (wv B s (min (k + 1) 6))) v4' (b2i (rfB B s (k + 1))) (nI (k + 1)) (pM M (nI (s + z)) tm (nI s) va) := by
      have h48 : ∃ v4', (∀ st, rf B s (k + 1) = some st → v4' = nI st) ∧ ∀ u0, fX3_words_b48 (fX3_words_b11L n) (nI z) v4 (b2i (rfB B s k)) (nI k) (nI (B (s + k))) u0 (pM M (nI (s + z)) tm (nI s) va) = fX3_words_b11L n (nI z) u0 v4' (b2i (rfB B s (k + 1))) (nI (k + 1)) (pM M (nI (s + z)) tm (nI s) va) := by
        cases hr : rf B s k with
        | none =>
          have h1 : rf B s (k + 1) = none := rf_n hr 1
          have b0 : rfB B s k = false := by unfold rfB; rw [hr]; rfl
          have b1 : rfB B s (k + 1) = false := by unfold rfB; rw [h1]; rfl
          refine ⟨v4 ||| 0, fun st hst => (by rw [h1] at hst; cases hst), fun u0 => ?_⟩
          unfold fX3_words_b48 fX3_words_b78 fX3_words_b79 fX3_words_b99
          rw [b0, b1, if_pos (by decide), i00, nI_1]
          rfl
        | some st =>
          have hst := rf_lt hA k (by omega) st hr
          have hs := rf_s hr
          have b0 : rfB B s k = true := by unfold rfB; rw [hr]; rfl
          by_cases hc : B (s + k) ≤ 102 ∧ st / 2 ^ (B (s + k) - 97) % 2 = 0
          · rw [if_pos hc] at hs
            have b1 : rfB B s (k + 1) = true := by unfold rfB; rw [hs]; rfl
            have hset := setb st hst (B (s + k) - 97) (by omega) hc.2
            refine ⟨nI (st + 2 ^ (B (s + k) - 97)), fun u hu => (by rw [hs] at hu; rw [Option.some.inj hu]), fun u0 => ?_⟩
            unfold fX3_words_b48 fX3_words_b78 fX3_words_b79 fX3_words_b99
            rw [b0, b1, if_neg (by decide), if_neg (show ¬ (102 : Int32) < nI (B (s + k)) from nI_nlt (a := 102) (b := B (s + k)) hc.1 (by decide)), show nI (B (s + k)) - 97 = nI (B (s + k) - 97) from pk_sub (b := 97) hb.1, hv st hr, if_pos ((bitM st hst (B (s + k) - 97) (by omega)).mpr hc.2), i10, hset.1, nI_1]
            rfl
          · rw [if_neg hc] at hs
            have b1 : rfB B s (k + 1) = false := by unfold rfB; rw [hs]; rfl
            refine ⟨v4 ||| 0, fun u hu => (by rw [hs] at hu; cases hu), fun u0 => ?_⟩
            unfold fX3_words_b48 fX3_words_b78 fX3_words_b79 fX3_words_b99
            rw [b0, b1, if_neg (by decide)]
            by_cases h6 : B (s + k) ≤ 102
            · rw [if_neg (show ¬ (102 : Int32) < nI (B (s + k)) from nI_nlt (a := 102) (b := B (s + k)) h6 (by decide)), show nI (B (s + k)) - 97 = nI (B (s + k) - 97) from pk_sub (b := 97) hb.1]
              have hbit : ¬ ((v4 >>> (nI (B (s + k) - 97) &&& 31)) &&& 1) = 0 := by
                rw [hv st hr]
                exact fun q => hc ⟨h6, (bitM st hst (B (s + k) - 97) (by omega)).mp q⟩
              rw [if_neg hbit, i00, nI_1]
              rfl
            · rw [if_pos (show (102 : Int32) < nI (B (s + k)) from nI_lt (a := 102) (show 102 < B (s + k) by omega) (by omega)), i00, nI_1]
              rfl
      obtain ⟨v4', c1, c2⟩ := h48
      refine ⟨v4', c1, ?_⟩
      show fX3_words_b11 (fX3_words_b11L n) _ _ _ _ _ _ = _
      unfold fX3_words_b11
      rw [if_neg (nI_ge hkz (by omega)), pm_place, nI_add, zGI_t (vp_in_nI (show s + k < 400 by omega) (by decide)), zL_t, pm_text, nI_clamp (by omega), hB.2.2]
      rcases Nat.lt_or_ge k 6 with q | q
      · have hadd : fX3_add (lN (wv B s (min k 6))) (nI (B (s + k))) = some (lN (wv B s (min (k + 1) 6))) := by
          unfold fX3_add
          rw [if_neg (nI_ne0 (by omega) (by omega)), nI_l (by omega), show (256 : Int64) * lN (wv B s (min k 6)) = lN (256 * wv B s (min k 6)) from lN_mul 256 _, lN_add, Nat.min_eq_left (show k ≤ 6 by omega), Nat.min_eq_left (show k + 1 ≤ 6 by omega)]
          rfl
        rw [if_neg (nle6 q), hadd, zB1_t rfl]
        exact c2 _
      · rw [if_pos (show (6 : Int32) ≤ nI k from nI_le (a := 6) q (by omega)), Nat.min_eq_right q, Nat.min_eq_right (show 6 ≤ k + 1 by omega)]
        exact c2 _
    obtain ⟨v4', c1, c2⟩ := hstep
    rw [c2]
    exact ih n (k + 1) v4' (by omega) (by omega) c1
