/-! ===== NEEDED: sets of given sums, gone through upwards ===== -/
def bc (s : Nat) : Nat → Nat
  | 0 => 0
  | n + 1 => bc s n + (if s / 2 ^ n % 2 = 1 then 1 else 0)
def wst (g : Nat → Int64) (s : Nat) : Nat → Int64
  | 0 => -1
  | n + 1 => if s / 2 ^ n % 2 = 1 then wst g s n &&& (vals (g n) ^^^ (-1)) else wst g s n
theorem bc_lt8 : ∀ G, G < 9 → ∀ s, s < 256 → s < 2 ^ G → bc s G = lt8 s := by decide +kernel
theorem bc_le (s : Nat) : ∀ n, bc s n ≤ n
  | 0 => Nat.le_refl 0
  | n + 1 => by
    have := bc_le s n
    rw [bc]
    split <;> omega
theorem shG : ∀ G, G < 9 → (1 : Int32) <<< (nI G &&& 31) = nI (2 ^ G) := by decide +kernel
theorem pG : ∀ G, G < 9 → 2 ^ G ≤ 256 := by decide
theorem ubit : ∀ s, s < 256 → ∀ i, i < 8 → ((zUshr (nI s) (nI i) &&& 1 = 0) ↔ ¬ s / 2 ^ i % 2 = 1) := by decide +kernel
theorem sbit : ∀ s, s < 256 → ∀ i, i < 8 → (((nI s >>> (nI i &&& 31)) &&& 1 = 1) ↔ s / 2 ^ i % 2 = 1) := by decide +kernel
theorem worldsX (X : XS) (g : Nat → Int64) (G : Nat) (hG : G ≤ 8) (hg : x_givenLines X = nI G) (hv : ∀ i, i < G → x_lineValues X i = vals (g i)) (s : Nat) (hs : s < 256) : ∀ (d n i : Nat), i + d = G → d < n → fX2_worldsOf_b7L n (nI s) (wst g s i) (nI i) X = some (wst g s G, X) := by
  intro d
  induction d with
  | zero =>
    intro n i hi hn
    obtain ⟨n, rfl⟩ : ∃ k, n = k + 1 := ⟨n - 1, by omega⟩
    have : i = G := by omega
    subst this
    show fX2_worldsOf_b7 (fX2_worldsOf_b7L n) _ _ _ _ = _
    unfold fX2_worldsOf_b7
    rw [hg, if_pos (nI_le (Nat.le_refl i) (by omega))]
  | succ d ih =>
    intro n i hi hn
    obtain ⟨n, rfl⟩ : ∃ k, n = k + 1 := ⟨n - 1, by omega⟩
    have hs' := ih n (i + 1) (by omega) (by omega)
    rw [wst] at hs'
    show fX2_worldsOf_b7 (fX2_worldsOf_b7L n) _ _ _ _ = _
    unfold fX2_worldsOf_b7
    rw [hg, if_neg (nI_ge (by omega) (by omega)), if_neg (show ¬ (8 : Int32) ≤ nI i from nI_ge (show i < 8 by omega) (by decide))]
    by_cases hb : s / 2 ^ i % 2 = 1
    · rw [if_neg (fun q => (ubit s hs i (by omega)).mp q hb), zGI_t (vp_in_nI (show i < 32 by omega) (by decide)), zL_t, nI_clamp (by omega), hv i (by omega)]
      unfold fX2_worldsOf_b46
      rw [nI_1]
      rw [if_pos hb] at hs'
      exact hs'
    · rw [if_pos ((ubit s hs i (by omega)).mpr hb)]
      unfold fX2_worldsOf_b46
      rw [nI_1]
      rw [if_neg hb] at hs'
      exact hs'
theorem needM_in (M : MS) (G : Nat) (hG : G ≤ 8) (hg : m_given M = nI G) (K : Int32 → Int64 → Int32 → Int32 → Int32 → MS → Option (Int32 × MS)) (a2 : Int32) (v : Int64) (best few : Int32) (s : Nat) (hs : s < 256) : ∀ (d n i : Nat), i + d = G → d < n → fX3_needed_b67L K n a2 v best few (nI s) (wst (m_line M) s i) (nI (bc s i)) (nI i) M =
    if few ≤ nI (bc s G) then K a2 v best few (nI (s + 1)) M else if v &&& wst (m_line M) s G = 0 then K a2 v (nI s) (nI (bc s G)) (nI (s + 1)) M else K a2 v best few (nI (s + 1)) M := by
  intro d
  induction d with
  | zero =>
    intro n i hi hn
    obtain ⟨n, rfl⟩ : ∃ k, n = k + 1 := ⟨n - 1, by omega⟩
    have : i = G := by omega
    subst this
    show fX3_needed_b67 K (fX3_needed_b67L K n) _ _ _ _ _ _ _ _ _ = _
    unfold fX3_needed_b67
    rw [hg, if_pos (nI_le (Nat.le_refl i) (by omega)), ifl0]
    unfold fX3_needed_b139
    rw [nI_1]
  | succ d ih =>
    intro n i hi hn
    obtain ⟨n, rfl⟩ : ∃ k, n = k + 1 := ⟨n - 1, by omega⟩
    have hs' := ih n (i + 1) (by omega) (by omega)
    rw [wst, bc] at hs'
    show fX3_needed_b67 K (fX3_needed_b67L K n) _ _ _ _ _ _ _ _ _ = _
    unfold fX3_needed_b67
    rw [hg, if_neg (nI_ge (by omega) (by omega))]
    by_cases hb : s / 2 ^ i % 2 = 1
    · rw [if_pos ((sbit s hs i (by omega)).mpr hb), zGI_t (vp_in_nI (show i < 32 by omega) (by decide)), nI_clamp (by omega), valsM, zB1_t rfl]
      unfold fX3_needed_b109
      rw [nI_1, nI_1]
      rw [if_pos hb, if_pos hb] at hs'
      exact hs'
    · rw [if_neg (fun q => hb ((sbit s hs i (by omega)).mp q))]
      unfold fX3_needed_b109
      rw [nI_1]
      rw [if_neg hb, if_neg hb] at hs'
      exact hs'
def NdR (best few : Int32) : Prop := (best = -9 ∧ few = nI 9) ∨ ∃ b, b < 256 ∧ best = nI b ∧ few = nI (lt8 b)
theorem lt8_le : ∀ b, b < 256 → lt8 b ≤ 8 := by decide +kernel
theorem n9_nI8 : ∀ q, q < 256 → ¬ nI q = -9 := by decide +kernel
theorem wst_cong {g g' : Nat → Int64} (s : Nat) : ∀ G, (∀ i, i < G → g i = g' i) → wst g s G = wst g' s G
  | 0, _ => rfl
  | n + 1, h => by rw [wst, wst, wst_cong s n (fun i hi => h i (by omega)), h n (by omega)]
theorem need_l (X : XS) (M : MS) (G : Nat) (hG : G ≤ 8) (hx : x_givenLines X = nI G) (hg : m_given M = nI G) (hv : ∀ i, i < G → x_lineValues X i = vals (m_line M i)) (a2 : Int32) (v : Int64) : ∀ (d n m s : Nat) (best few : Int32), s + d = 2 ^ G → d < n → d < m → NdR best few →
    ∃ best' few', NdR best' few' ∧ fX2_fewestGiven_b6L n v best (nI s) X = some (best', X) ∧ fX3_needed_b45L m a2 v best few (nI s) M = (if best' = -9 then some (best', M) else if a2 = 1 then some (best', M) else some (few', M)) := by
  have hp := pG G (by omega)
  intro d
  induction d with
  | zero =>
    intro n m s best few hs hn hm hR
    obtain ⟨n, rfl⟩ : ∃ k, n = k + 1 := ⟨n - 1, by omega⟩
    obtain ⟨m, rfl⟩ : ∃ k, m = k + 1 := ⟨m - 1, by omega⟩
    have : s = 2 ^ G := by omega
    subst this
    refine ⟨best, few, hR, ?_, ?_⟩
    · show fX2_fewestGiven_b6 (fX2_fewestGiven_b6L n) _ _ _ _ = _
      unfold fX2_fewestGiven_b6
      rw [hx, shG G (by omega), if_pos (nI_le (Nat.le_refl _) (by omega))]
    · show fX3_needed_b45 (fX3_needed_b45L m) _ _ _ _ _ _ = _
      unfold fX3_needed_b45
      rw [hg, shG G (by omega), if_pos (nI_le (Nat.le_refl _) (by omega))]
  | succ d ih =>
    intro n m s best few hs hn hm hR
    obtain ⟨n, rfl⟩ : ∃ k, n = k + 1 := ⟨n - 1, by omega⟩
    obtain ⟨m, rfl⟩ : ∃ k, m = k + 1 := ⟨m - 1, by omega⟩
    have hs256 : s < 256 := by omega
    have hbc := bc_lt8 G (by omega) s hs256 (by omega)
    have hl8 := lt8_le s hs256
    have hw : fX2_worldsOf (nI s) X = some (wst (m_line M) s G, X) := worldsX X (m_line M) G hG hx hv s hs256 G zF 0 (by omega) (by unfold zF; omega)
    have hM : fX3_needed_b45L (m + 1) a2 v best few (nI s) M = if few ≤ nI (bc s G) then fX3_needed_b45L m a2 v best few (nI (s + 1)) M else if v &&& wst (m_line M) s G = 0 then fX3_needed_b45L m a2 v (nI s) (nI (bc s G)) (nI (s + 1)) M else fX3_needed_b45L m a2 v best few (nI (s + 1)) M := by
      show fX3_needed_b45 (fX3_needed_b45L m) _ _ _ _ _ _ = _
      unfold fX3_needed_b45
      rw [hg, shG G (by omega), if_neg (nI_ge (by omega) (by omega))]
      exact needM_in M G hG hg (fX3_needed_b45L m) a2 v best few s hs256 G zF 0 (by omega) (by unfold zF; omega)
    rw [hbc] at hM
    have hX40 : ∀ bst, fX2_fewestGiven_b40 (fX2_fewestGiven_b6L n) v bst (nI s) 1 X = if v &&& wst (m_line M) s G = 0 then fX2_fewestGiven_b6L n v (nI s) (nI (s + 1)) X else fX2_fewestGiven_b6L n v bst (nI (s + 1)) X := fun bst => by
      unfold fX2_fewestGiven_b40
      rw [if_neg (by decide), hw, zB2_t rfl, ifl0]
      unfold fX2_fewestGiven_b63
      rw [nI_1]
    have hNs : NdR (nI s) (nI (lt8 s)) := Or.inr ⟨s, hs256, rfl, rfl⟩
    rcases hR with ⟨rfl, rfl⟩ | ⟨b, hb, rfl, rfl⟩
    · have hX : fX2_fewestGiven_b6L (n + 1) v (-9) (nI s) X = if v &&& wst (m_line M) s G = 0 then fX2_fewestGiven_b6L n v (nI s) (nI (s + 1)) X else fX2_fewestGiven_b6L n v (-9) (nI (s + 1)) X := by
        show fX2_fewestGiven_b6 (fX2_fewestGiven_b6L n) _ _ _ _ = _
        unfold fX2_fewestGiven_b6
        rw [hx, shG G (by omega), if_neg (nI_ge (by omega) (by omega)), if_pos rfl]
        exact hX40 (-9)
      rw [hM, hX, if_neg (nI_ge (by omega) (by omega))]
      by_cases h0 : v &&& wst (m_line M) s G = 0
      · rw [if_pos h0, if_pos h0]
        exact ih n m (s + 1) (nI s) (nI (lt8 s)) (by omega) (by omega) (by omega) hNs
      · rw [if_neg h0, if_neg h0]
        exact ih n m (s + 1) (-9) (nI 9) (by omega) (by omega) (by omega) (Or.inl ⟨rfl, rfl⟩)
    · have hb8 := lt8_le b hb
      have hX : fX2_fewestGiven_b6L (n + 1) v (nI b) (nI s) X = if nI (lt8 b) ≤ nI (lt8 s) then fX2_fewestGiven_b6L n v (nI b) (nI (s + 1)) X else if v &&& wst (m_line M) s G = 0 then fX2_fewestGiven_b6L n v (nI s) (nI (s + 1)) X else fX2_fewestGiven_b6L n v (nI b) (nI (s + 1)) X := by
        show fX2_fewestGiven_b6 (fX2_fewestGiven_b6L n) _ _ _ _ = _
        unfold fX2_fewestGiven_b6
        rw [hx, shG G (by omega), if_neg (nI_ge (by omega) (by omega)), if_neg (n9_nI8 b hb), countI8 s hs256, zB1_t rfl, countI8 b hb, zB1_t rfl]
        unfold fX2_fewestGiven_b35
        rw [hX40]
        unfold fX2_fewestGiven_b40 fX2_fewestGiven_b63
        rw [if_pos rfl, nI_1]
      rw [hM, hX]
      by_cases hle : nI (lt8 b) ≤ nI (lt8 s)
      · rw [if_pos hle, if_pos hle]
        exact ih n m (s + 1) (nI b) (nI (lt8 b)) (by omega) (by omega) (by omega) (Or.inr ⟨b, hb, rfl, rfl⟩)
      · rw [if_neg hle, if_neg hle]
        by_cases h0 : v &&& wst (m_line M) s G = 0
        · rw [if_pos h0, if_pos h0]
          exact ih n m (s + 1) (nI s) (nI (lt8 s)) (by omega) (by omega) (by omega) hNs
        · rw [if_neg h0, if_neg h0]
          exact ih n m (s + 1) (nI b) (nI (lt8 b)) (by omega) (by omega) (by omega) (Or.inr ⟨b, hb, rfl, rfl⟩)
