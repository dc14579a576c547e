/-! ===== GROWN: what comes at a depth; the class's makeGrown() ===== -/
def Gr (g : Nat → Int64) (G d : Nat) (x : Int64) : Prop := ∀ P : Int64 → Prop, P 0 → (∀ a b, P a → P b → P (a ^^^ b)) → (∀ i, i < G → g i ≠ 0 → dgn (g i) ≤ d → P (g i)) → (∀ a, P a → a ≠ 0 → dgn a < d → ∀ l, l < 6 → P (mul a (e1 (2 ^ l)))) → P x
theorem Gr.z {g : Nat → Int64} {G d : Nat} : Gr g G d 0 := fun _ h _ _ _ => h
theorem Gr.x {g : Nat → Int64} {G d : Nat} {a b : Int64} (ha : Gr g G d a) (hb : Gr g G d b) : Gr g G d (a ^^^ b) := fun P h0 hx hg hm => hx a b (ha P h0 hx hg hm) (hb P h0 hx hg hm)
theorem Gr.g {g : Nat → Int64} {G d i : Nat} (hi : i < G) (h0 : g i ≠ 0) (hd : dgn (g i) ≤ d) : Gr g G d (g i) := fun _ _ _ hg _ => hg i hi h0 hd
theorem Gr.m {g : Nat → Int64} {G d : Nat} {a : Int64} (ha : Gr g G d a) (h0 : a ≠ 0) (hd : dgn a < d) {l : Nat} (hl : l < 6) : Gr g G d (mul a (e1 (2 ^ l))) := fun P p0 px pg pm => pm a (ha P p0 px pg pm) h0 hd l hl
theorem Gr.le {g : Nat → Int64} {G d D : Nat} (h : d ≤ D) {x : Int64} (hx : Gr g G d x) : Gr g G D x :=
  hx (Gr g G D) Gr.z (fun _ _ => Gr.x) (fun i hi h0 hd => Gr.g hi h0 (by omega)) (fun a ha h0 hd l hl => ha.m h0 (by omega) hl)
/-- rows of low degree multiplied stay: so does each sum of low degree -/
theorem closed {ld : Nat → Bool} {rw : Nat → Int64} (hE : Ech ld rw) (e : Int64) : ∀ (n d : Nat), n ≤ 64 → (∀ i, i < n → lt6 (ord i) < d) → (∀ j, j < 64 → ld (ord j) = true → lt6 (ord j) < d → Sp ld rw (mul (rw (ord j)) e)) → ∀ x, (∀ i, n ≤ i → i < 64 → tb x (ord i) = false) → Sp ld rw x → Sp ld rw (mul x e) := by
  intro n
  induction n with
  | zero =>
    intro d _ _ _ x hz _
    have : x = 0 := ord_ext (fun j hj => by rw [hz j (by omega) hj, tb_0])
    subst this
    rw [mul_0]
    exact Gn.z
  | succ n ih =>
    intro d hn hd hm x hz hx
    by_cases ht : tb x (ord n) = true
    · have hlt : ltop x 64 = some n := ltop_of (by omega) ht (fun i a b => hz i (by omega) b)
      have hl := sp_lead hE hx hlt
      have hrow := hE n (by omega) hl
      have hrS : Sp ld rw (rw (ord n)) := Gn.g ⟨ord n, ord_lt n (by omega), hl, rfl⟩
      have h1 := ih d (by omega) (fun i hi => hd i (by omega)) hm (x ^^^ rw (ord n)) (fun i h1 h2 => by
        rw [tb_xor]
        rcases Nat.lt_or_ge n i with q | q
        · rw [hz i (by omega) h2, hrow.2 i q h2]; rfl
        · have : i = n := by omega
          subst this
          rw [ht, hrow.1]; rfl) (Gn.x hx hrS)
      have h2 := hm n (by omega) hl (hd n (by omega))
      have h3 := Gn.x h1 h2
      rw [mul_xor, xor_a, xor_self, xor_0] at h3
      exact h3
    · refine ih d (by omega) (fun i hi => hd i (by omega)) hm x (fun i h1 h2 => ?_) hx
      rcases Nat.lt_or_ge n i with q | q
      · exact hz i (by omega) h2
      · have : i = n := by omega
        subst this
        exact Bool.eq_false_iff.mpr ht
theorem closed' {ld : Nat → Bool} {rw : Nat → Int64} (hE : Ech ld rw) {d : Nat} (hm : ∀ p, p < 64 → ld p = true → lt6 p < d → ∀ l, l < 6 → Sp ld rw (mul (rw p) (e1 (2 ^ l)))) : ∀ a, Sp ld rw a → a ≠ 0 → dgn a < d → ∀ l, l < 6 → Sp ld rw (mul a (e1 (2 ^ l))) := by
  intro a ha h0 hd l hl
  cases hlt : ltop a 64 with
  | none => exact absurd (ltop_zero hlt) h0
  | some j =>
    obtain ⟨h1, h2, h3⟩ := ltop_some hlt
    have hdj : dgn a = lt6 (ord j) := by unfold dgn; rw [hlt]
    refine closed hE _ (j + 1) d (by omega) (fun i hi => ?_) (fun i hi hli hdi => hm (ord i) (ord_lt i hi) hli hdi l hl) a (fun i a b => h3 i (by omega) b) ha
    have := ord_mono i (by omega) j h1 (by omega)
    omega
theorem row_dgn {ld : Nat → Bool} {rw : Nat → Int64} (hE : Ech ld rw) {p : Nat} (hp : p < 64) (hl : ld p = true) : rw p ≠ 0 ∧ dgn (rw p) = lt6 p := by
  have h1 := ech_ltop hE (pos_lt p hp) (by rw [ord_pos p hp]; exact hl)
  rw [ord_pos p hp] at h1
  refine ⟨fun h => ?_, ?_⟩
  · rw [h, ltop_0] at h1
    cases h1
  · unfold dgn
    rw [h1]
    show lt6 (ord (pos p)) = lt6 p
    rw [ord_pos p hp]
/-- the spans of all depths ahead are told -/
def LwI (g : Nat → Int64) (G : Nat) (S : SS) (n : Nat) (L c : Nat → Nat) (D : Nat) : Prop :=
  SpOk S n L c ∧ (∀ p, p < 64 → ldX S p = true → L p ≤ D) ∧ ∀ d, d < D → ∀ x, Sp (ldd (ldX S) L d) (s_rows S) x ↔ Gr g G d x
theorem gr_gn {g : Nat → Int64} {G d : Nat} (x : Int64) : Gn (Gr g G d) x ↔ Gr g G d x := ⟨fun h => h (Gr g G d) Gr.z (fun _ _ => Gr.x) (fun _ h => h), fun h => Gn.g h⟩
theorem gn_sp {ld : Nat → Bool} {rw : Nat → Int64} (x : Int64) : Gn (Sp ld rw) x ↔ Sp ld rw x := ⟨fun h => h (Sp ld rw) Gn.z (fun _ _ => Gn.x) (fun _ h => h), fun h => Gn.g h⟩
theorem LwI.add {g : Nat → Int64} {G : Nat} {S : SS} {n : Nat} {L c : Nat → Nat} {D : Nat} (h : LwI g G S n L c D) (hD : D ≤ 12) (x : Int64) :
    ∃ S' n' L' c', fX0_add x (nI D) S = some S' ∧ LwI g G S' n' L' c' D ∧ SpLe S n L c S' n' L' c' D ∧ ∀ z, Sp (ldX S') (s_rows S') z ↔ Gn (fun y => Sp (ldX S) (s_rows S) y ∨ y = x) z := by
  obtain ⟨hS, hL, hF⟩ := h
  have hV : LvI S n L c D (fun d y => if d < D then Gr g G d y else Sp (ldX S) (s_rows S) y) := by
    refine ⟨hS, hL, fun d hd z => ?_⟩
    rcases Nat.lt_or_ge d D with q | q
    · simp only [q, if_true]
      rw [hF d q z]
      exact (gr_gn z).symm
    · have : ¬ d < D := by omega
      simp only [this, if_false]
      rw [sp_top hL q z]
      exact (gn_sp z).symm
  obtain ⟨S', n', L', c', a1, a2, a3⟩ := hV.add hD x
  have hall := a2.all
  obtain ⟨b1, b2, b3⟩ := a2
  refine ⟨S', n', L', c', a1, ⟨b1, b2, fun d hd z => ?_⟩, a3, fun z => ?_⟩
  · rw [b3 d (by omega) z]
    simp only [hd, if_true]
    rw [← gr_gn z]
    constructor
    · intro q
      refine q.sub ?_
      rintro y (hy | ⟨e, -⟩)
      · exact hy
      · omega
    · exact fun q => q.sub (fun y hy => Or.inl hy)
  · rw [hall z]
    have : ¬ D < D := by omega
    simp only [this, if_false]
    constructor
    · exact fun q => q.sub (fun y hy => hy.imp id (fun e => e.2))
    · exact fun q => q.sub (fun y hy => hy.imp id (fun e => ⟨trivial, e⟩))
def DoneI (S : SS) (L c : Nat → Nat) (D k : Nat) : Prop := ∀ p, p < 64 → ldX S p = true → (max (L p) (lt6 p + 1) < D ∨ (max (L p) (lt6 p + 1) = D ∧ ∃ q, q < k ∧ c q = p)) → ∀ l, l < 6 → Sp (ldX S) (s_rows S) (mul (s_rows S p) (e1 (2 ^ l)))
def GwI (g : Nat → Int64) (G : Nat) (S : SS) (n : Nat) (L c : Nat → Nat) (D k : Nat) : Prop :=
  LwI g G S n L c D ∧ (∀ x, Sp (ldX S) (s_rows S) x → Gr g G D x) ∧ DoneI S L c D k ∧ k ≤ n
theorem GwI.add {g : Nat → Int64} {G : Nat} {S : SS} {n : Nat} {L c : Nat → Nat} {D k : Nat} (h : GwI g G S n L c D k) (hD : D ≤ 12) {x : Int64} (hx : Gr g G D x) :
    ∃ S' n' L' c', fX0_add x (nI D) S = some S' ∧ GwI g G S' n' L' c' D k ∧ SpLe S n L c S' n' L' c' D ∧ (∀ z, Sp (ldX S) (s_rows S) z → Sp (ldX S') (s_rows S') z) ∧ Sp (ldX S') (s_rows S') x := by
  obtain ⟨h1, h2, h3, h4⟩ := h
  obtain ⟨S', n', L', c', a1, a2, a3, a4⟩ := h1.add hD x
  have hup : ∀ z, Sp (ldX S) (s_rows S) z → Sp (ldX S') (s_rows S') z := fun z hz => (a4 z).mpr (Gn.g (Or.inl hz))
  refine ⟨S', n', L', c', a1, ⟨a2, fun z hz => ?_, fun p hp hl hc l hl6 => ?_, ?_⟩, a3, hup, (a4 x).mpr (Gn.g (Or.inr rfl))⟩
  · refine (a4 z).mp hz (Gr g G D) Gr.z (fun _ _ => Gr.x) ?_
    rintro y (hy | rfl)
    · exact h2 y hy
    · exact hx
  · obtain ⟨s1, s2, s3, s4⟩ := a3
    cases hp0 : ldX S p
    · exfalso
      have e := s4 p hp hl hp0
      rw [e] at hc
      rcases hc with hc | ⟨-, q, hq, e2⟩
      · have := Nat.le_max_left D (lt6 p + 1)
        omega
      · rw [s2 q (by omega)] at e2
        have := (h1.1.2.2.2.2.1 q (by omega)).2.2
        rw [e2, hp0] at this
        cases this
    · obtain ⟨t1, t2, t3⟩ := s3 p hp hp0
      rw [t2]
      apply hup
      refine h3 p hp hp0 ?_ l hl6
      rw [t3] at hc
      rcases hc with hc | ⟨hc, q, hq, e2⟩
      · exact Or.inl hc
      · exact Or.inr ⟨hc, q, hq, by rw [← s2 q (by omega)]; exact e2⟩
  · have := a3.1
    omega
theorem SpOk.n64 {S : SS} {n : Nat} {L c : Nat → Nat} (h : SpOk S n L c) : n ≤ 64 := by
  rw [← h.2.2.1]
  exact popc_le _
theorem lvRowX {S : SS} {n : Nat} {L c : Nat → Nat} (h : SpOk S n L c) {k : Nat} (hk : k < n) : fX0_levelOfRow (nI k) S = some (nI (L (c k)), S) := by
  have h64 := h.n64
  obtain ⟨b1, b2, b3⟩ := h.2.2.2.2.1 k hk
  unfold fX0_levelOfRow
  rw [if_neg (nI_pos (by omega)), h.2.1, if_neg (nI_ge hk (by omega)), zGI_t (vp_in_nI (by omega) (by decide)), nI_clamp (by omega), b2, zGI_t (vp_in_nI b1 (by decide)), nI_clamp (by omega), (h.2.2.2.1 _ b1 b3).1]
theorem smRowX {S : SS} {n : Nat} {L c : Nat → Nat} (h : SpOk S n L c) {k : Nat} (hk : k < n) : fX0_sumOfRow (nI k) S = some (s_rows S (c k), S) := by
  have h64 := h.n64
  obtain ⟨b1, b2, b3⟩ := h.2.2.2.2.1 k hk
  unfold fX0_sumOfRow
  rw [if_neg (nI_pos (by omega)), h.2.1, if_neg (nI_ge hk (by omega)), zGI_t (vp_in_nI (by omega) (by decide)), nI_clamp (by omega), b2, zGI_t (vp_in_nI b1 (by decide)), nI_clamp (by omega)]
theorem xg_g (X : XS) (S : SS) : x_grown (x_grown_u X S) = S := rfl
theorem xg_u (X : XS) (S S' : SS) : x_grown_u (x_grown_u X S) S' = x_grown_u X S' := rfl
theorem xg_sums (X : XS) (S : SS) : x_lineSums (x_grown_u X S) = x_lineSums X := rfl
theorem xg_given (X : XS) (S : SS) : x_givenLines (x_grown_u X S) = x_givenLines X := rfl
theorem mulRowX (X : XS) (g : Nat → Int64) (G D k : Nat) (hD : D ≤ 6) (K : Int32 → Int32 → XS → Option XS) : ∀ (d m l : Nat) (S : SS) (n : Nat) (L c : Nat → Nat), l + d = 6 → d < m → GwI g G S n L c D k → k < n → max (L (c k)) (lt6 (c k) + 1) = D → (∀ l', l' < l → Sp (ldX S) (s_rows S) (mul (s_rows S (c k)) (e1 (2 ^ l')))) →
    ∃ S' n' L' c', fX2_multiplyRows_b52L K m (nI D) (nI k) (nI l) (x_grown_u X S) = K (nI D) (nI (k + 1)) (x_grown_u X S') ∧ GwI g G S' n' L' c' D (k + 1) ∧ ∀ z, Sp (ldX S) (s_rows S) z → Sp (ldX S') (s_rows S') z := by
  intro d
  induction d with
  | zero =>
    intro m l S n L c hl hm hI hk hf hdone
    obtain ⟨m, rfl⟩ : ∃ q, m = q + 1 := ⟨m - 1, by omega⟩
    have : l = 6 := by omega
    subst this
    refine ⟨S, n, L, c, ?_, ⟨hI.1, hI.2.1, fun p hp hlp hc l hl6 => ?_, by omega⟩, fun z hz => hz⟩
    · show fX2_multiplyRows_b52 K (fX2_multiplyRows_b52L K m) _ _ _ _ = _
      unfold fX2_multiplyRows_b52
      rw [if_pos (by decide)]
      unfold fX2_multiplyRows_b90
      rw [nI_1]
    · by_cases e : c k = p
      · subst e
        exact hdone l hl6
      · refine hI.2.2.1 p hp hlp ?_ l hl6
        rcases hc with hc | ⟨hc, q, hq, e2⟩
        · exact Or.inl hc
        · have : q ≠ k := fun e3 => e (by rw [← e3]; exact e2)
          exact Or.inr ⟨hc, q, by omega, e2⟩
  | succ d ih =>
    intro m l S n L c hl hm hI hk hf hdone
    obtain ⟨m, rfl⟩ : ∃ q, m = q + 1 := ⟨m - 1, by omega⟩
    have hl6 : l < 6 := by omega
    have hS := hI.1.1
    obtain ⟨b1, b2, b3⟩ := hS.2.2.2.2.1 k hk
    obtain ⟨r0, rd⟩ := row_dgn hS.1 b1 b3
    have hrS : Sp (ldX S) (s_rows S) (s_rows S (c k)) := Gn.g ⟨c k, b1, b3, rfl⟩
    have hlt : dgn (s_rows S (c k)) < D := by
      rw [rd]
      have := Nat.le_max_right (L (c k)) (lt6 (c k) + 1)
      omega
    obtain ⟨S', n', L', c', a1, a2, a3, a4, a5⟩ := hI.add (by omega) ((hI.2.1 _ hrS).m r0 hlt hl6)
    obtain ⟨s1, s2, s3, s4⟩ := a3
    have hck : c' k = c k := s2 k hk
    obtain ⟨t1, t2, t3⟩ := s3 (c k) b1 b3
    obtain ⟨S2, n2, L2, c2, i1, i2, i3⟩ := ih m (l + 1) S' n' L' c' (by omega) (by omega) a2 (by omega) (by rw [hck, t3]; exact hf) (fun l' hl' => by
      rw [hck, t2]
      rcases Nat.lt_or_ge l' l with q | q
      · exact a4 _ (hdone l' q)
      · have : l' = l := by omega
        subst this
        exact a5)
    refine ⟨S2, n2, L2, c2, ?_, i2, fun z hz => i3 z (a4 z hz)⟩
    show fX2_multiplyRows_b52 K (fX2_multiplyRows_b52L K m) _ _ _ _ = _
    unfold fX2_multiplyRows_b52
    rw [if_neg (nle6 hl6), xg_g, smRowX hS hk, zB2_t rfl, zL_t, xg_u, sh6 l hl6, e1_shl _ (p2_lt l hl6), mulX, zB1_t rfl, xg_g, a1, zB1_t rfl, zL_t, xg_u, nI_1]
    exact i1
theorem mx_max {a b : Nat} (ha : a < 2 ^ 31) (hb : b < 2 ^ 31) : (if nI a < nI b then nI b else nI a) = nI (max a b) := mx_nI ha hb
theorem mulRowsX (X : XS) (g : Nat → Int64) (G D : Nat) (hD : D ≤ 6) : ∀ (d m k : Nat) (S : SS) (n : Nat) (L c : Nat → Nat), k + d = 64 → d < m → GwI g G S n L c D k →
    ∃ S' n' L' c', fX2_multiplyRows_b2L m (nI D) (nI k) (x_grown_u X S) = some (x_grown_u X S') ∧ GwI g G S' n' L' c' D n' ∧ ∀ z, Sp (ldX S) (s_rows S) z → Sp (ldX S') (s_rows S') z := by
  intro d
  induction d with
  | zero =>
    intro m k S n L c hk hm hI
    obtain ⟨m, rfl⟩ : ∃ q, m = q + 1 := ⟨m - 1, by omega⟩
    have : k = 64 := by omega
    subst this
    have h64 := hI.1.1.n64
    have : n = 64 := by have := hI.2.2.2; omega
    subst this
    refine ⟨S, 64, L, c, ?_, hI, fun z hz => hz⟩
    show fX2_multiplyRows_b2 (fX2_multiplyRows_b2L m) _ _ _ = _
    unfold fX2_multiplyRows_b2
    rw [if_pos (by decide)]
  | succ d ih =>
    intro m k S n L c hk hm hI
    obtain ⟨m, rfl⟩ : ∃ q, m = q + 1 := ⟨m - 1, by omega⟩
    have hk' : k < 64 := by omega
    have hS := hI.1.1
    have h64 := hS.n64
    show ∃ S' n' L' c', fX2_multiplyRows_b2 (fX2_multiplyRows_b2L m) _ _ _ = _ ∧ _
    unfold fX2_multiplyRows_b2
    rw [if_neg (nle64 hk'), xg_g, hS.2.1]
    by_cases hkn : n ≤ k
    · have : k = n := by have := hI.2.2.2; omega
      subst this
      rw [if_pos (nI_le (Nat.le_refl k) (by omega))]
      exact ⟨S, k, L, c, rfl, hI, fun z hz => hz⟩
    · have hkn' : k < n := by omega
      obtain ⟨b1, b2, b3⟩ := hS.2.2.2.2.1 k hkn'
      obtain ⟨r0, rd⟩ := row_dgn hS.1 b1 b3
      have hlt := lt6_le (c k) b1
      have hLk := (hS.2.2.2.1 _ b1 b3).2
      rw [if_neg (nI_ge hkn' (by omega)), lvRowX hS hkn', zB2_t rfl, zL_t, xg_u, xg_g, smRowX hS hkn', zB2_t rfl, zL_t, xg_u, degX, zB1_t rfl, dgv_dgn r0, rd, nI_1, zL_t, mx_max (by omega) (by omega)]
      by_cases hf : max (L (c k)) (lt6 (c k) + 1) = D
      · rw [hf, if_pos rfl]
        obtain ⟨S1, n1, L1, c1, a1, a2, a3⟩ := mulRowX X g G D k hD (fX2_multiplyRows_b2L m) 6 zF 0 S n L c (by omega) (by decide) hI hkn' hf (fun l' hl' => absurd hl' (by omega))
        have a1 : fX2_multiplyRows_b52L (fX2_multiplyRows_b2L m) zF (nI D) (nI k) (0 : Int32) (x_grown_u X S) = _ := a1
        rw [a1]
        obtain ⟨S2, n2, L2, c2, i1, i2, i3⟩ := ih m (k + 1) S1 n1 L1 c1 (by omega) (by omega) a2
        exact ⟨S2, n2, L2, c2, i1, i2, fun z hz => i3 z (a3 z hz)⟩
      · rw [if_neg (fun q => hf ((nI_eq (by omega) (by omega)).mp q))]
        unfold fX2_multiplyRows_b90
        rw [nI_1]
        refine ih m (k + 1) S n L c (by omega) (by omega) ⟨hI.1, hI.2.1, fun p hp hlp hc l hl6 => ?_, by omega⟩
        refine hI.2.2.1 p hp hlp ?_ l hl6
        rcases hc with hc | ⟨hc, q, hq, e2⟩
        · exact Or.inl hc
        · have : q ≠ k := fun e3 => hf (by rw [← e3, e2]; exact hc)
          exact Or.inr ⟨hc, q, by omega, e2⟩
def GvI (g : Nat → Int64) (G : Nat) (S : SS) (D i : Nat) : Prop := ∀ i', i' < G → g i' ≠ 0 → (dgn (g i') < D ∨ (dgn (g i') = D ∧ i' < i)) → Sp (ldX S) (s_rows S) (g i')
/-- a depth done: the span is what comes there -/
theorem GwI.all {g : Nat → Int64} {G : Nat} {S : SS} {n : Nat} {L c : Nat → Nat} {D : Nat} (h : GwI g G S n L c D n) (hv : GvI g G S D G) (x : Int64) : Sp (ldX S) (s_rows S) x ↔ Gr g G D x := by
  refine ⟨h.2.1 x, fun hx => ?_⟩
  have hS := h.1.1
  refine hx (Sp (ldX S) (s_rows S)) Gn.z (fun _ _ => Gn.x) (fun i hi h0 hd => hv i hi h0 (by omega)) (closed' hS.1 (fun p hp hl hd l hl6 => h.2.2.1 p hp hl ?_ l hl6))
  obtain ⟨q, hq, e⟩ := hS.2.2.2.2.2 p hp hl
  have hLp := h.1.2.1 p hp hl
  have : max (L p) (lt6 p + 1) ≤ D := Nat.max_le.mpr ⟨hLp, hd⟩
  rcases Nat.lt_or_ge (max (L p) (lt6 p + 1)) D with a | a
  · exact Or.inl a
  · exact Or.inr ⟨by omega, q, hq, e⟩
theorem GwI.up {g : Nat → Int64} {G : Nat} {S : SS} {n : Nat} {L c : Nat → Nat} {D : Nat} (h : GwI g G S n L c D n) (hv : GvI g G S D G) : GwI g G S n L c (D + 1) 0 ∧ GvI g G S (D + 1) 0 := by
  have hall := h.all hv
  obtain ⟨⟨h1, h2, h3⟩, h4, h5, h6⟩ := h
  refine ⟨⟨⟨h1, fun p hp hl => Nat.le_succ_of_le (h2 p hp hl), fun d hd x => ?_⟩, fun x hx => ((hall x).mp hx).le (by omega), fun p hp hl hc l hl6 => h5 p hp hl ?_ l hl6, Nat.zero_le n⟩, fun i hi h0 hd => hv i hi h0 (by omega)⟩
  · rcases Nat.lt_or_ge d D with q | q
    · exact h3 d q x
    · have : d = D := by omega
      subst this
      rw [sp_top h2 (Nat.le_refl d) x]
      exact hall x
  · obtain ⟨q, hq, e⟩ := h1.2.2.2.2.2 p hp hl
    rcases hc with hc | ⟨-, q2, hq2, -⟩
    · rcases Nat.lt_or_ge (max (L p) (lt6 p + 1)) D with a | a
      · exact Or.inl a
      · exact Or.inr ⟨by omega, q, hq, e⟩
    · omega
theorem growX_in (X : XS) (G D : Nat) (hG : G ≤ 8) (hg : x_givenLines X = nI G) (hD : D ≤ 6) (K : Int32 → XS → Option XS) : ∀ (d m i : Nat) (S : SS) (n : Nat) (L c : Nat → Nat), i + d = G → d < m → GwI (x_lineSums X) G S n L c D 0 → GvI (x_lineSums X) G S D i →
    ∃ S' n' L' c', fX2_makeGrown_b25L K m (nI D) (nI i) (x_grown_u X S) = K (nI (D + 1)) (x_grown_u X S') ∧ GwI (x_lineSums X) G S' n' L' c' D n' ∧ GvI (x_lineSums X) G S' D G := by
  intro d
  induction d with
  | zero =>
    intro m i S n L c hi hm hI hv
    obtain ⟨m, rfl⟩ : ∃ q, m = q + 1 := ⟨m - 1, by omega⟩
    have : i = G := by omega
    subst this
    obtain ⟨S1, n1, L1, c1, a1, a2, a3⟩ := mulRowsX X (x_lineSums X) i D hD 64 zF 0 S n L c (by omega) (by decide) hI
    have a1 : fX2_multiplyRows (nI D) (x_grown_u X S) = some (x_grown_u X S1) := a1
    refine ⟨S1, n1, L1, c1, ?_, a2, fun i' hi' h0 hd => a3 _ (hv i' hi' h0 hd)⟩
    show fX2_makeGrown_b25 K (fX2_makeGrown_b25L K m) _ _ _ = _
    unfold fX2_makeGrown_b25
    rw [xg_given, hg, if_pos (nI_le (Nat.le_refl i) (by omega))]
    unfold fX2_makeGrown_b72
    rw [a1, zB1_t rfl, nI_1]
  | succ d ih =>
    intro m i S n L c hi hm hI hv
    obtain ⟨m, rfl⟩ : ∃ q, m = q + 1 := ⟨m - 1, by omega⟩
    have hi8 : i < 8 := by omega
    have hi32 : i < 32 := by omega
    show ∃ S' n' L' c', fX2_makeGrown_b25 K (fX2_makeGrown_b25L K m) _ _ _ = _ ∧ _
    unfold fX2_makeGrown_b25
    rw [xg_given, hg, if_neg (nI_ge (by omega) (by omega)), if_neg (show ¬ (8 : Int32) ≤ nI i from nI_ge hi8 (by decide)), zGI_t (vp_in_nI hi32 (by decide)), xg_sums, nI_clamp (by omega), degX, zB1_t rfl]
    by_cases hq : x_lineSums X i ≠ 0 ∧ dgn (x_lineSums X i) = D
    · obtain ⟨S1, n1, L1, c1, a1, a2, -, a4, a5⟩ := hI.add (by omega) (Gr.g (show i < G by omega) hq.1 (by omega))
      rw [dgv_dgn hq.1, hq.2, if_pos rfl, zGI_t (vp_in_nI hi32 (by decide)), xg_g, a1, zB1_t rfl, zL_t, xg_u]
      unfold fX2_makeGrown_b66
      rw [nI_1]
      refine ih m (i + 1) S1 n1 L1 c1 (by omega) (by omega) a2 (fun i' hi' h0 hd => ?_)
      by_cases e : i' = i
      · subst e
        exact a5
      · exact a4 _ (hv i' hi' h0 (by omega))
    · have hne : ¬ dgv (x_lineSums X i) = nI D := fun e => by
        by_cases h0 : x_lineSums X i = 0
        · rw [h0, dgv_0] at e
          exact n9_nI D (by omega) e.symm
        · rw [dgv_dgn h0] at e
          have hd6 := dgn_le (x_lineSums X i)
          exact hq ⟨h0, (nI_eq (by omega) (by omega)).mp e⟩
      rw [if_neg hne]
      unfold fX2_makeGrown_b66
      rw [nI_1]
      refine ih m (i + 1) S n L c (by omega) (by omega) hI (fun i' hi' h0 hd => hv i' hi' h0 ?_)
      by_cases e : i' = i
      · subst e
        rcases hd with hd | hd
        · exact Or.inl hd
        · exact absurd ⟨h0, hd.1⟩ hq
      · omega
def GrOk (S : SS) (g : Nat → Int64) (G : Nat) : Prop := ∃ n L c, SpOk S n L c ∧ ∀ d x, Sp (ldd (ldX S) L d) (s_rows S) x ↔ Gr g G (min d 6) x
theorem growX_l (X : XS) (G : Nat) (hG : G ≤ 8) (hg : x_givenLines X = nI G) : ∀ (d m D : Nat) (S : SS) (n : Nat) (L c : Nat → Nat), D + d = 7 → d < m → GwI (x_lineSums X) G S n L c D 0 → GvI (x_lineSums X) G S D 0 → (0 < D → (∀ p, p < 64 → ldX S p = true → L p < D)) →
    ∃ S', fX2_makeGrown_b17L m (nI D) (x_grown_u X S) = some (x_grownStands_u (x_grown_u X S') 1) ∧ GrOk S' (x_lineSums X) G := by
  intro d
  induction d with
  | zero =>
    intro m D S n L c hD hm hI hv hlev
    obtain ⟨m, rfl⟩ : ∃ q, m = q + 1 := ⟨m - 1, by omega⟩
    have : D = 7 := by omega
    subst this
    refine ⟨S, ?_, n, L, c, hI.1.1, fun d x => ?_⟩
    · show fX2_makeGrown_b17 (fX2_makeGrown_b17L m) _ _ = _
      unfold fX2_makeGrown_b17
      rw [if_pos (by decide), zL_t]
    · rcases Nat.lt_or_ge d 7 with q | q
      · rw [Nat.min_eq_left (by omega)]
        exact hI.1.2.2 d q x
      · rw [Nat.min_eq_right (by omega), ← hI.1.2.2 6 (by omega) x]
        have h6 : ∀ p, p < 64 → ldX S p = true → L p ≤ 6 := fun p hp hl => by have := hlev (by omega) p hp hl; omega
        rw [sp_top h6 (by omega) x, sp_top h6 (Nat.le_refl 6) x]
  | succ d ih =>
    intro m D S n L c hD hm hI hv hlev
    obtain ⟨m, rfl⟩ : ∃ q, m = q + 1 := ⟨m - 1, by omega⟩
    obtain ⟨S1, n1, L1, c1, a1, a2, a3⟩ := growX_in X G D hG hg (by omega) (fX2_makeGrown_b17L m) G zF 0 S n L c (by omega) (by unfold zF; omega) hI hv
    have key : fX2_makeGrown_b17L (m + 1) (nI D) (x_grown_u X S) = fX2_makeGrown_b25L (fX2_makeGrown_b17L m) zF (nI D) (nI 0) (x_grown_u X S) := by
      show fX2_makeGrown_b17 (fX2_makeGrown_b17L m) _ _ = _
      unfold fX2_makeGrown_b17
      rw [if_neg (show ¬ (6 : Int32) < nI D from nI_nlt (a := 6) (b := D) (by omega) (by decide))]
      rfl
    rw [key, a1]
    obtain ⟨u1, u2⟩ := a2.up a3
    exact ih m (D + 1) S1 n1 L1 c1 (by omega) (by omega) u1 u2 (fun _ p hp hl => by have := a2.1.2.1 p hp hl; omega)
theorem growX (X : XS) (G : Nat) (hG : G ≤ 8) (hg : x_givenLines X = nI G) (h0 : x_grownStands X = 0) : ∃ S', fX2_makeGrown X = some (x_grownStands_u (x_grown_u X S') 1) ∧ GrOk S' (x_lineSums X) G := by
  unfold fX2_makeGrown
  obtain ⟨S1, a1, a2⟩ := emptyX (x_grown X)
  rw [if_pos h0, a1, zB1_t rfl, zL_t]
  have hV := a2 (fun _ _ => False) (fun _ _ h => h) 0
  have hno : ∀ p, p < 64 → ldX S1 p = true → False := fun p hp hl => by
    obtain ⟨k, hk, -⟩ := hV.1.2.2.2.2.2 p hp hl
    omega
  refine growX_l X G hG hg 7 zF 0 S1 0 _ _ (by omega) (by decide) ⟨⟨hV.1, hV.2.1, fun d hd => absurd hd (by omega)⟩, fun x hx => ?_, fun p hp hl => (hno p hp hl).elim, Nat.le_refl 0⟩ (fun i' _ _ hd => by omega) (fun h => absurd h (by omega))
  refine hx (Gr (x_lineSums X) G 0) Gr.z (fun _ _ => Gr.x) ?_
  rintro y ⟨p, hp, hl, -⟩
  exact (hno p hp hl).elim
theorem GrOk.level {S : SS} {g : Nat → Int64} {G : Nat} (h : GrOk S g G) (x : Int64) : LeD (fun d => Gr g G (min d 6) x) (lvl (ldX S) (s_rows S) (s_levels S) 64 x 0) := by
  obtain ⟨n, L, c, hS, hF⟩ := h
  exact (lvl_LeD hS x).cong (fun d => hF d x)
