/-! ===== the model's rows, its atOnce() ===== -/
def ledU (S : MS) (ld : Nat → Int64) (il dn : Nat → Int32) : MS := (m_thrown S, m_trace S, m_order S, m_text S, m_typed S, m_next S, m_token S, m_place S, m_value S, m_fault S, m_given S, m_made S, m_steps S, m_wrongStep S, m_line S, m_draft S, m_step S, m_claimed S, m_common S, m_standing S, m_vector S, m_made0 S, m_vectors S, m_rests S, ld, il, dn)
theorem lu_id (S : MS) : ledU S (m_led S) (m_isLed S) (m_isDone S) = S := rfl
theorem lu_led (S : MS) (ld : Nat → Int64) (il dn : Nat → Int32) : m_led (ledU S ld il dn) = ld := rfl
theorem lu_isLed (S : MS) (ld : Nat → Int64) (il dn : Nat → Int32) : m_isLed (ledU S ld il dn) = il := rfl
theorem lu_isDone (S : MS) (ld : Nat → Int64) (il dn : Nat → Int32) : m_isDone (ledU S ld il dn) = dn := rfl
theorem lu_line (S : MS) (ld : Nat → Int64) (il dn : Nat → Int32) : m_line (ledU S ld il dn) = m_line S := rfl
theorem lu_given (S : MS) (ld : Nat → Int64) (il dn : Nat → Int32) : m_given (ledU S ld il dn) = m_given S := rfl
theorem lu_order (S : MS) (ld : Nat → Int64) (il dn : Nat → Int32) : m_order (ledU S ld il dn) = m_order S := rfl
theorem lu_ord {S : MS} (h : OrdOk S) (ld : Nat → Int64) (il dn : Nat → Int32) : OrdOk (ledU S ld il dn) := h
theorem lu_uL (S : MS) (ld ld2 : Nat → Int64) (il dn : Nat → Int32) : m_led_u (ledU S ld il dn) ld2 = ledU S ld2 il dn := rfl
theorem lu_uI (S : MS) (ld : Nat → Int64) (il dn il2 : Nat → Int32) : m_isLed_u (ledU S ld il dn) il2 = ledU S ld il2 dn := rfl
theorem lu_uD (S : MS) (ld : Nat → Int64) (il dn dn2 : Nat → Int32) : m_isDone_u (ledU S ld il dn) dn2 = ledU S ld il dn2 := rfl
def lb (il : Nat → Int32) (p : Nat) : Bool := !decide (il p = 0)
theorem lu_ldM (S : MS) (ld : Nat → Int64) (il dn : Nat → Int32) : ldM (ledU S ld il dn) = lb il := rfl
theorem joinsU (S : MS) (hO : OrdOk S) (ld : Nat → Int64) (il dn : Nat → Int32) (hE : Ech (lb il) ld) (v : Int64) : ∃ r ld' il', fX3_joins v (ledU S ld il dn) = some (r, ledU S ld' il' dn) ∧ Ech (lb il') ld' ∧ (∀ z, Sp (lb il') ld' z ↔ Gn (fun g => Sp (lb il) ld g ∨ g = v) z) ∧ ∀ p, p < 64 → lb il p = true → lb il' p = true ∧ ld' p = ld p := by
  obtain ⟨r, hr⟩ := joinsM (ledU S ld il dn) (lu_ord hO ld il dn) v
  unfold joM at hr
  rw [lu_ldM, lu_led, lu_isLed] at hr
  cases hl : ltop (rdn (lb il) ld 64 v) 64 with
  | none =>
    rw [hl] at hr
    have h0 := (sp_iff hE v).mpr (ltop_zero hl)
    refine ⟨r, ld, il, hr, hE, fun z => ⟨fun hz => Gn.g (Or.inl hz), fun hz => ?_⟩, fun p _ h => ⟨h, rfl⟩⟩
    refine hz.le ?_
    rintro g (hg | rfl)
    · exact hg
    · exact h0
  | some j =>
    rw [hl] at hr
    have hr : fX3_joins v (ledU S ld il dn) = some (r, ledU S (vp_updL ld (ord j) (rdn (lb il) ld 64 v)) (upd il (ord j) 1) dn) := hr
    obtain ⟨h1, h2, h3⟩ := ltop_some hl
    have hn : lb il (ord j) = false := by
      cases hb : lb il (ord j)
      · rfl
      · have := rdn_lo hE 64 v (Nat.le_refl 64) j h1 hb
        rw [h2] at this
        cases this
    have hd : ∀ p, p < 64 → lb (upd il (ord j) 1) p = (decide (p = ord j) || lb il p) := fun p hp => by
      unfold lb
      by_cases e : p = ord j
      · subst e
        rw [pk_us]
        simp
      · rw [pk_un e]
        simp [e]
    have hrw : ∀ p, p < 64 → lb (upd il (ord j) 1) p = true → vp_updL ld (ord j) (rdn (lb il) ld 64 v) p = if p = ord j then rdn (lb il) ld 64 v else ld p := fun p _ _ => rfl
    have hadd := add_ok hE (rdn_in (lb il) ld 64 (Nat.le_refl 64) v) hl hn hd hrw
    refine ⟨r, _, _, hr, hadd.1, hadd.2, fun p hp h => ?_⟩
    have hne : p ≠ ord j := fun e => by rw [e, hn] at h; cases h
    exact ⟨by rw [hd p hp, h]; simp, pk_uLn hne⟩
/-- the rows span what F makes -/
def EI (ld : Nat → Int64) (il : Nat → Int32) (F : Int64 → Prop) : Prop := Ech (lb il) ld ∧ ∀ x, Sp (lb il) ld x ↔ Gn F x
theorem EI.cong {ld : Nat → Int64} {il : Nat → Int32} {F F' : Int64 → Prop} (h : EI ld il F) (hF : ∀ g, F g ↔ F' g) : EI ld il F' :=
  ⟨h.1, fun x => (h.2 x).trans ⟨fun q => q.sub (fun g hg => (hF g).mp hg), fun q => q.sub (fun g hg => (hF g).mpr hg)⟩⟩
theorem EI.join {S : MS} (hO : OrdOk S) {ld : Nat → Int64} {il : Nat → Int32} (dn : Nat → Int32) {F : Int64 → Prop} (h : EI ld il F) (v : Int64) : ∃ r ld' il', fX3_joins v (ledU S ld il dn) = some (r, ledU S ld' il' dn) ∧ EI ld' il' (fun g => F g ∨ g = v) ∧ ∀ p, p < 64 → lb il p = true → lb il' p = true ∧ ld' p = ld p := by
  obtain ⟨r, ld', il', a1, a2, a3, a4⟩ := joinsU S hO ld il dn h.1 v
  refine ⟨r, ld', il', a1, ⟨a2, fun x => (a3 x).trans ⟨fun q => q.le ?_, fun q => q.le ?_⟩⟩, a4⟩
  · rintro g (hg | rfl)
    · exact ((h.2 g).mp hg).sub (fun g hg => Or.inl hg)
    · exact Gn.g (Or.inr rfl)
  · rintro g (hg | rfl)
    · exact Gn.g (Or.inl ((h.2 g).mpr (Gn.g hg)))
    · exact Gn.g (Or.inr rfl)
theorem forgetsM_l (S : MS) : ∀ (d n p : Nat) (il dn : Nat → Int32), p + d = 64 → d < n → (∀ q, q < p → il q = 0 ∧ dn q = 0) → ∃ il' dn', fX3_forgets_b2L n (nI p) (ledU S (m_led S) il dn) = some (ledU S (m_led S) il' dn') ∧ ∀ q, q < 64 → il' q = 0 ∧ dn' q = 0 := by
  intro d
  induction d with
  | zero =>
    intro n p il dn hp hn h
    obtain ⟨n, rfl⟩ : ∃ k, n = k + 1 := ⟨n - 1, by omega⟩
    have : p = 64 := by omega
    subst this
    refine ⟨il, dn, ?_, h⟩
    show fX3_forgets_b2 (fX3_forgets_b2L n) _ _ = _
    unfold fX3_forgets_b2
    rw [if_pos (by decide)]
  | succ d ih =>
    intro n p il dn hp hn h
    obtain ⟨n, rfl⟩ : ∃ k, n = k + 1 := ⟨n - 1, by omega⟩
    have hp' : p < 64 := by omega
    have e0 : vp_nar .boolean (0 : Int32) = 0 := by decide
    show ∃ il' dn', fX3_forgets_b2 (fX3_forgets_b2L n) _ _ = _ ∧ _
    unfold fX3_forgets_b2
    rw [if_neg (nle64 hp'), zGI_t (vp_in_nI hp' (by decide)), zL_t, lu_isLed, lu_uI, zGI_t (vp_in_nI hp' (by decide)), zL_t, lu_isDone, lu_uD, nI_clamp (by omega), nI_1, e0]
    refine ih n (p + 1) _ _ (by omega) (by omega) (fun q hq => ?_)
    by_cases e : q = p
    · subst e
      exact ⟨pk_us, pk_us⟩
    · rw [pk_un e, pk_un e]
      exact h q (by omega)
theorem forgetsM (S : MS) : ∃ il dn, fX3_forgets S = some (ledU S (m_led S) il dn) ∧ ∀ q, q < 64 → il q = 0 ∧ dn q = 0 :=
  forgetsM_l S 64 zF 0 (m_isLed S) (m_isDone S) (by omega) (by decide) (fun q hq => absurd hq (by omega))
theorem EI.start {ld : Nat → Int64} {il : Nat → Int32} (h : ∀ q, q < 64 → il q = 0) {F : Int64 → Prop} (hF : ∀ g, ¬ F g) : EI ld il F := by
  have hb : ∀ p, p < 64 → lb il p = false := fun p hp => by unfold lb; rw [h p hp]; rfl
  refine ⟨fun j hj hl => ?_, fun x => ⟨fun q => ?_, fun q => q.sub (fun g hg => absurd hg (hF g))⟩⟩
  · rw [hb _ (ord_lt j hj)] at hl
    cases hl
  · refine Gn.sub ?_ q
    rintro g ⟨p, hp, hl, -⟩
    rw [hb p hp] at hl
    cases hl
theorem lt_okM : ∀ a, a < 7 → ∀ D, D < 13 → ∀ q, q < 7 → (nI a + nI q = nI D ↔ a + q = D) := by decide +kernel
theorem n9_nI : ∀ q, q < 64 → ¬ nI q = -9 := by decide +kernel
theorem atM_in (S : MS) (hO : OrdOk S) (G D i : Nat) (hi : i < G) (hG : G ≤ 8) (hD : D ≤ 12) (h0 : m_line S i ≠ 0) (K6 : Int64 → Int32 → MS → Option (Int32 × MS)) (K15 : Int64 → Int32 → Int32 → MS → Option (Int32 × MS)) (v : Int64) (dn : Nat → Int32) : ∀ (d n p : Nat) (ld : Nat → Int64) (il : Nat → Int32), p + d = 64 → d < n → EI ld il (MV (m_line S) G D D i p) →
    ∃ ld' il', fX3_atOnce_b40L K6 K15 n v (nI D) (nI i) (nI (dgn (m_line S i))) (nI p) (ledU S ld il dn) = K15 v (nI D) (nI (i + 1)) (ledU S ld' il' dn) ∧ EI ld' il' (MV (m_line S) G D D i 64) := by
  intro d
  induction d with
  | zero =>
    intro n p ld il hp hn hI
    obtain ⟨n, rfl⟩ : ∃ k, n = k + 1 := ⟨n - 1, by omega⟩
    have : p = 64 := by omega
    subst this
    refine ⟨ld, il, ?_, hI⟩
    show fX3_atOnce_b40 K6 K15 (fX3_atOnce_b40L K6 K15 n) _ _ _ _ _ _ = _
    unfold fX3_atOnce_b40
    rw [if_pos (by decide)]
    unfold fX3_atOnce_b89
    rw [nI_1]
  | succ d ih =>
    intro n p ld il hp hn hI
    obtain ⟨n, rfl⟩ : ∃ k, n = k + 1 := ⟨n - 1, by omega⟩
    have hp' : p < 64 := by omega
    have hlt := lt6_le p hp'
    have hdg := dgn_le (m_line S i)
    have hok := lt_okM (lt6 p) (by omega) D (by omega) (dgn (m_line S i)) (by omega)
    show ∃ ld' il', fX3_atOnce_b40 K6 K15 (fX3_atOnce_b40L K6 K15 n) _ _ _ _ _ _ = _ ∧ _
    unfold fX3_atOnce_b40
    rw [if_neg (nle64 hp'), if_neg (n9_nI _ (by omega)), lettersM p hp', zB1_t rfl]
    by_cases hq : lt6 p + dgn (m_line S i) = D
    · rw [if_pos (hok.mpr hq), zGI_t (vp_in_nI (show i < 32 by omega) (by decide)), lu_line, nI_clamp (by omega), raisedM _ hp', zB1_t rfl]
      obtain ⟨r, ld1, il1, a1, a2, -⟩ := hI.join hO dn (mul (m_line S i) (e1 p))
      rw [a1, zB2_t rfl]
      unfold fX3_atOnce_b83
      rw [nI_1]
      refine ih n (p + 1) ld1 il1 (by omega) (by omega) (a2.cong (fun y => ?_))
      rw [← MV.hit hi hp' h0 hq D (Nat.le_refl D) y]
      exact ⟨fun q => q.imp id (fun e => ⟨rfl, e⟩), fun q => q.imp id (fun e => e.2)⟩
    · rw [if_neg (fun q => hq (hok.mp q))]
      unfold fX3_atOnce_b83
      rw [nI_1]
      exact ih n (p + 1) ld il (by omega) (by omega) (hI.cong (fun y => MV.miss hq D y))
theorem atM_row (S : MS) (hO : OrdOk S) (G D : Nat) (hG : G ≤ 8) (hg : m_given S = nI G) (hD : D ≤ 12) (K6 : Int64 → Int32 → MS → Option (Int32 × MS)) (v : Int64) (dn : Nat → Int32) : ∀ (d n i : Nat) (ld : Nat → Int64) (il : Nat → Int32), i + d = G → d < n → EI ld il (MV (m_line S) G D D i 0) →
    ∃ ld' il', EI ld' il' (MV (m_line S) G D D G 0) ∧ (Gn (MV (m_line S) G D D G 0) v → fX3_atOnce_b15L K6 n v (nI D) (nI i) (ledU S ld il dn) = some (nI D, ledU S ld' il' dn)) ∧ (¬ Gn (MV (m_line S) G D D G 0) v → fX3_atOnce_b15L K6 n v (nI D) (nI i) (ledU S ld il dn) = K6 v (nI (D + 1)) (ledU S ld' il' dn)) := by
  intro d
  induction d with
  | zero =>
    intro n i ld il hi hn hI
    obtain ⟨n, rfl⟩ : ∃ k, n = k + 1 := ⟨n - 1, by omega⟩
    have : i = G := by omega
    subst this
    have key : fX3_atOnce_b15L K6 (n + 1) v (nI D) (nI i) (ledU S ld il dn) = if rdn (lb il) ld 64 v = 0 then some (nI D, ledU S ld il dn) else K6 v (nI (D + 1)) (ledU S ld il dn) := by
      show fX3_atOnce_b15 K6 (fX3_atOnce_b15L K6 n) _ _ _ _ = _
      unfold fX3_atOnce_b15
      rw [lu_given, hg, if_pos (nI_le (Nat.le_refl i) (by omega)), redM _ (lu_ord hO ld il dn), zB2_t rfl, ifl0, lu_ldM, lu_led, nI_1]
    refine ⟨ld, il, hI, fun h => ?_, fun h => ?_⟩
    · rw [key, if_pos ((sp_iff hI.1 v).mp ((hI.2 v).mpr h))]
    · rw [key, if_neg (fun q => h ((hI.2 v).mp ((sp_iff hI.1 v).mpr q)))]
  | succ d ih =>
    intro n i ld il hi hn hI
    obtain ⟨n, rfl⟩ : ∃ k, n = k + 1 := ⟨n - 1, by omega⟩
    have hi32 : i < 32 := by omega
    by_cases h0 : m_line S i = 0
    · have key : fX3_atOnce_b15L K6 (n + 1) v (nI D) (nI i) (ledU S ld il dn) = fX3_atOnce_b15L K6 n v (nI D) (nI (i + 1)) (ledU S ld il dn) := by
        show fX3_atOnce_b15 K6 (fX3_atOnce_b15L K6 n) _ _ _ _ = _
        unfold fX3_atOnce_b15
        rw [lu_given, hg, if_neg (nI_ge (by omega) (by omega)), zGI_t (vp_in_nI hi32 (by decide)), lu_line, nI_clamp (by omega), h0, degM _ _ (lu_ord hO ld il dn), zB2_t rfl, dgv_0]
        show fX3_atOnce_b40 K6 (fX3_atOnce_b15L K6 n) (fX3_atOnce_b40L K6 (fX3_atOnce_b15L K6 n) 999) _ _ _ _ _ _ = _
        unfold fX3_atOnce_b40
        rw [if_neg (by decide), if_pos rfl]
        unfold fX3_atOnce_b89
        rw [nI_1]
      rw [key]
      exact ih n (i + 1) ld il (by omega) (by omega) (hI.cong (fun y => MV.row0 h0 D y))
    · obtain ⟨ld1, il1, a1, a2⟩ := atM_in S hO G D i (by omega) hG hD h0 K6 (fX3_atOnce_b15L K6 n) v dn 64 zF 0 ld il (by omega) (by decide) hI
      have key : fX3_atOnce_b15L K6 (n + 1) v (nI D) (nI i) (ledU S ld il dn) = fX3_atOnce_b15L K6 n v (nI D) (nI (i + 1)) (ledU S ld1 il1 dn) := by
        show fX3_atOnce_b15 K6 (fX3_atOnce_b15L K6 n) _ _ _ _ = _
        unfold fX3_atOnce_b15
        rw [lu_given, hg, if_neg (nI_ge (by omega) (by omega)), zGI_t (vp_in_nI hi32 (by decide)), lu_line, nI_clamp (by omega), degM _ _ (lu_ord hO ld il dn), zB2_t rfl, dgv_dgn h0]
        exact a1
      rw [key]
      exact ih n (i + 1) ld1 il1 (by omega) (by omega) (a2.cong (fun y => MV.row D y))
theorem MV_full {g : Nat → Int64} {G D : Nat} (x : Int64) : Gn (MV g G D D G 0) x ↔ Gn (MultD g G D) x := by
  constructor
  · intro q
    refine q.sub ?_
    rintro y ⟨i, p, a1, a2, a3, a4, a5, -⟩
    exact ⟨i, p, a1, a2, a3, a4, a5⟩
  · intro q
    refine q.sub ?_
    rintro y ⟨i, p, a1, a2, a3, a4, a5⟩
    exact ⟨i, p, a1, a2, a3, a4, a5, by omega⟩
theorem MultD_le {g : Nat → Int64} {G d D : Nat} (h : d ≤ D) {x : Int64} (hx : Gn (MultD g G d) x) : Gn (MultD g G D) x := by
  refine hx.sub ?_
  rintro y ⟨i, p, a1, a2, a3, a4, a5⟩
  exact ⟨i, p, a1, a2, a3, a4, by omega⟩
theorem MultD_12 {g : Nat → Int64} {G d : Nat} {x : Int64} (hx : Gn (MultD g G d) x) : Gn (MultD g G 12) x := by
  refine hx.sub ?_
  rintro y ⟨i, p, a1, a2, a3, a4, a5⟩
  have := lt6_le p a2
  have := dgn_le (g i)
  exact ⟨i, p, a1, a2, a3, a4, by omega⟩
theorem atM_l (S : MS) (hO : OrdOk S) (G : Nat) (hG : G ≤ 8) (hg : m_given S = nI G) (v : Int64) (dn : Nat → Int32) : ∀ (d n D : Nat) (ld : Nat → Int64) (il : Nat → Int32), D + d = 13 → d < n → EI ld il (MV (m_line S) G D D 0 0) → (∀ e, e < D → ¬ Gn (MultD (m_line S) G e) v) →
    ∃ r ld' il', fX3_atOnce_b6L n v (nI D) (ledU S ld il dn) = some (r, ledU S ld' il' dn) ∧ LeD (fun e => Gn (MultD (m_line S) G e) v) r := by
  intro d
  induction d with
  | zero =>
    intro n D ld il hD hn hI hno
    obtain ⟨n, rfl⟩ : ∃ k, n = k + 1 := ⟨n - 1, by omega⟩
    have : D = 13 := by omega
    subst this
    refine ⟨-9, ld, il, ?_, Or.inr ⟨fun e he => hno 12 (by omega) (MultD_12 he), rfl⟩⟩
    show fX3_atOnce_b6 (fX3_atOnce_b6L n) _ _ _ = _
    unfold fX3_atOnce_b6
    rw [if_pos (by decide)]
  | succ d ih =>
    intro n D ld il hD hn hI hno
    obtain ⟨n, rfl⟩ : ∃ k, n = k + 1 := ⟨n - 1, by omega⟩
    obtain ⟨ld1, il1, a1, a2, a3⟩ := atM_row S hO G D hG hg (by omega) (fX3_atOnce_b6L n) v dn G zF 0 ld il (by omega) (by unfold zF; omega) hI
    have key : fX3_atOnce_b6L (n + 1) v (nI D) (ledU S ld il dn) = fX3_atOnce_b15L (fX3_atOnce_b6L n) zF v (nI D) (nI 0) (ledU S ld il dn) := by
      show fX3_atOnce_b6 (fX3_atOnce_b6L n) _ _ _ = _
      unfold fX3_atOnce_b6
      rw [if_neg (show ¬ (13 : Int32) ≤ nI D from nI_ge (a := D) (b := 13) (by omega) (by decide))]
      rfl
    rw [key]
    by_cases hv : Gn (MV (m_line S) G D D G 0) v
    · refine ⟨nI D, ld1, il1, a2 hv, Or.inl ⟨D, rfl, by omega, (MV_full v).mp hv, fun e he => ?_⟩⟩
      rcases Nat.lt_or_ge e D with q | q
      · exact absurd he (hno e q)
      · exact q
    · rw [a3 hv]
      refine ih n (D + 1) ld1 il1 (by omega) (by omega) (a1.cong (fun y => ?_)) (fun e he => ?_)
      · constructor
        · rintro ⟨i, p, b1, b2, b3, b4, b5, b6⟩
          exact ⟨i, p, b1, b2, b3, b4, by omega, by omega⟩
        · rintro ⟨i, p, b1, b2, b3, b4, b5, b6⟩
          exact ⟨i, p, b1, b2, b3, b4, by omega, by omega⟩
      · rcases Nat.lt_or_ge e D with q | q
        · exact hno e q
        · have : e = D := by omega
          subst this
          exact fun h => hv ((MV_full v).mpr h)
theorem atOnceM (S : MS) (hO : OrdOk S) (G : Nat) (hG : G ≤ 8) (hg : m_given S = nI G) (v : Int64) : ∃ r ld' il' dn', fX3_atOnce v S = some (r, ledU S ld' il' dn') ∧ LeD (fun e => Gn (MultD (m_line S) G e) v) r := by
  obtain ⟨il, dn, a1, a2⟩ := forgetsM S
  unfold fX3_atOnce
  rw [a1, zB1_t rfl]
  obtain ⟨r, ld', il', b1, b2⟩ := atM_l S hO G hG hg v dn 13 zF 0 (m_led S) il (by omega) (by decide) (EI.start (fun q hq => (a2 q hq).1) (fun y ⟨i', p', _, _, _, _, _, q⟩ => by omega)) (fun e he => absurd he (by omega))
  exact ⟨r, ld', il', dn, b1, b2⟩
