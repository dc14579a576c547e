/-! ===== products that stand: the model's elimination ===== -/
def rv (cm x : Int64) : Int64 := vals x &&& cm
theorem rv_xor (cm a b : Int64) : rv cm (a ^^^ b) = rv cm a ^^^ rv cm b := by unfold rv; rw [vals_xor, and_xor]
def LI (cm : Int64) (j : Nat) : Prop := ∃ x, rv cm x = 0 ∧ ltop x 64 = some j
theorem ord_inj {i j : Nat} (hi : i < 64) (hj : j < 64) (h : ord i = ord j) : i = j := by rw [← pos_ord i hi, h, pos_ord j hj]
theorem tb_eo {i j : Nat} (hi : i < 64) (hj : j < 64) : tb (e1 (ord j)) (ord i) = decide (i = j) := by
  rw [tb_e1 _ (ord_lt j hj) _ (ord_lt i hi)]
  by_cases e : i = j
  · subst e; simp
  · have : ord i ≠ ord j := fun h => e (ord_inj hi hj h)
    simp [e, this]
def pto (x : Int64) : Nat → Int64
  | 0 => 0
  | n + 1 => pto x n ^^^ (if tb x (ord n) then e1 (ord n) else 0)
theorem tb_pto (x : Int64) : ∀ n, n ≤ 64 → ∀ i, i < 64 → tb (pto x n) (ord i) = (decide (i < n) && tb x (ord i))
  | 0, _, i, _ => by simp [pto, tb_0]
  | n + 1, h, i, hi => by
    rw [pto, tb_xor, tb_pto x n (by omega) i hi]
    by_cases hn : tb x (ord n) = true
    · rw [if_pos hn, tb_eo hi (by omega)]
      by_cases e : i = n
      · subst e; simp [hn]
      · have : (i < n + 1) ↔ (i < n) := by omega
        simp [e, this]
    · rw [if_neg hn, tb_0]
      by_cases e : i = n
      · subst e; simp [hn]
      · have : (i < n + 1) ↔ (i < n) := by omega
        simp [this]
theorem pto_eq {x : Int64} {j : Nat} (hj : j ≤ 64) (h : ∀ i, j ≤ i → i < 64 → tb x (ord i) = false) : pto x j = x := ord_ext (fun i hi => by
  rw [tb_pto x j hj i hi]
  rcases Nat.lt_or_ge i j with q | q
  · simp [q]
  · rw [h i q hi]; simp)
theorem brs_supp {vec mk : Nat → Int64} {st v : Int64} : ∀ n, (∀ k, k < n → ∀ p, p < 64 → tb (mk k) p = true → tb st p = true) → ∀ p, p < 64 → tb (brs vec mk n v).2 p = true → tb st p = true
  | 0, _, p, _, ht => by
    have : tb (0 : Int64) p = true := ht
    rw [tb_0] at this
    cases this
  | n + 1, h, p, hp, ht => by
    have ih := brs_supp (vec := vec) (v := v) n (fun k hk => h k (by omega)) p hp
    rw [brs] at ht
    unfold bst at ht
    split at ht
    · exact ih ht
    · have ht : tb ((brs vec mk n v).2 ^^^ mk n) p = true := ht
      rw [tb_xor] at ht
      cases h1 : tb (brs vec mk n v).2 p
      · rw [h1] at ht
        exact h n (by omega) p hp (by simpa using ht)
      · exact ih h1
theorem brs_cong {vec vec' mk mk' : Nat → Int64} {v : Int64} : ∀ n, (∀ k, k < n → vec k = vec' k ∧ mk k = mk' k) → brs vec mk n v = brs vec' mk' n v
  | 0, _ => rfl
  | n + 1, h => by
    rw [brs, brs, brs_cong n (fun k hk => h k (by omega))]
    unfold bst
    rw [(h n (by omega)).1, (h n (by omega)).2]
def StI (cm st : Int64) (vec mk : Nat → Int64) (n j : Nat) (pv : Nat → Nat) (P : Int64) : Prop :=
  n ≤ j ∧ Piv vec pv n ∧ (∀ k, k < n → rv cm (mk k) = vec k) ∧ (∀ k, k < n → ∀ p, p < 64 → tb (mk k) p = true → tb st p = true) ∧ (∀ i, j ≤ i → i < 64 → tb st (ord i) = false) ∧ (∀ i, i < j → (brs vec mk n (rv cm (e1 (ord i)))).1 = 0) ∧ (∀ i, i < j → (tb st (ord i) = true ↔ ¬ LI cm i)) ∧ popc st = n ∧ popc P = n ∧ (∀ w, w < 64 → (tb P w = true ↔ ∃ k, k < n ∧ pv k = w))
theorem StI.zero {cm st : Int64} {vec mk : Nat → Int64} {n j : Nat} {pv : Nat → Nat} {P : Int64} (hj : j < 64) (h : StI cm st vec mk n j pv P) (h0 : (brs vec mk n (rv cm (e1 (ord j)))).1 = 0) : StI cm st vec mk n (j + 1) pv P := by
  obtain ⟨a1, a2, a3, a4, a5, a6, a7, a8, a9, a10⟩ := h
  have hr := brs_supp (vec := vec) (st := st) (v := rv cm (e1 (ord j))) n a4
  have hsum := brs_sum (vec := vec) (mk := mk) (rv cm) (rv_xor cm) (rv cm (e1 (ord j))) n a3
  rw [h0, xor_0'] at hsum
  have hro : ∀ i, j ≤ i → i < 64 → tb (brs vec mk n (rv cm (e1 (ord j)))).2 (ord i) = false := fun i h1 h2 => by
    cases ht : tb (brs vec mk n (rv cm (e1 (ord j)))).2 (ord i)
    · rfl
    · have := hr (ord i) (ord_lt i h2) ht
      rw [a5 i h1 h2] at this
      cases this
  have hLI : LI cm j := by
    refine ⟨e1 (ord j) ^^^ (brs vec mk n (rv cm (e1 (ord j)))).2, by rw [rv_xor, hsum, xor_self], ltop_of hj ?_ (fun i h1 h2 => ?_)⟩
    · rw [tb_xor, tb_eo hj hj, hro j (Nat.le_refl j) hj]; simp
    · rw [tb_xor, tb_eo h2 hj, hro i (by omega) h2]
      have : i ≠ j := by omega
      simp [this]
  refine ⟨by omega, a2, a3, a4, fun i h1 h2 => a5 i (by omega) h2, fun i hi => ?_, fun i hi => ?_, a8, a9, a10⟩
  · rcases Nat.lt_or_ge i j with q | q
    · exact a6 i q
    · have : i = j := by omega
      subst this
      exact h0
  · rcases Nat.lt_or_ge i j with q | q
    · exact a7 i q
    · have : i = j := by omega
      subst this
      rw [a5 i (Nat.le_refl i) hj]
      exact ⟨fun h => absurd h (by decide), fun h => absurd hLI h⟩
theorem StI.step {cm st : Int64} {vec mk : Nat → Int64} {n j : Nat} {pv : Nat → Nat} {P : Int64} (hj : j < 64) (h : StI cm st vec mk n j pv P) (h0 : (brs vec mk n (rv cm (e1 (ord j)))).1 ≠ 0) : ∃ pv' P', StI cm (st ||| e1 (ord j)) (vp_updL vec n (brs vec mk n (rv cm (e1 (ord j)))).1) (vp_updL mk n ((brs vec mk n (rv cm (e1 (ord j)))).2 ^^^ e1 (ord j))) (n + 1) (j + 1) pv' P' := by
  obtain ⟨a1, a2, a3, a4, a5, a6, a7, a8, a9, a10⟩ := h
  have hr := brs_supp (vec := vec) (st := st) (v := rv cm (e1 (ord j))) n a4
  have hsum := brs_sum (vec := vec) (mk := mk) (rv cm) (rv_xor cm) (rv cm (e1 (ord j))) n a3
  have hlow := brs_low (mk := mk) a2 (rv cm (e1 (ord j))) n (Nat.le_refl n)
  have hnLI : ¬ LI cm j := by
    rintro ⟨x, hx, hl⟩
    obtain ⟨l1, l2, l3⟩ := ltop_some hl
    have hy : ∀ i, j ≤ i → i < 64 → tb (x ^^^ e1 (ord j)) (ord i) = false := fun i h1 h2 => by
      rw [tb_xor, tb_eo h2 hj]
      rcases Nat.lt_or_ge j i with q | q
      · have : i ≠ j := by omega
        rw [l3 i q h2]; simp [this]
      · have : i = j := by omega
        subst this
        rw [l2]; simp
    have key : ∀ m, m ≤ j → (brs vec mk n (rv cm (pto (x ^^^ e1 (ord j)) m))).1 = 0 := by
      intro m
      induction m with
      | zero =>
        intro _
        have hz : rv cm (pto (x ^^^ e1 (ord j)) 0) = 0 := by
          have := rv_xor cm 0 0
          rw [xor_self, xor_self] at this
          exact this
        rw [hz]
        have := brs_xor (mk := mk) a2 0 0 n (Nat.le_refl n)
        rw [xor_self] at this
        rw [this, xor_self]
      | succ m ih =>
        intro hm
        rw [pto, rv_xor, brs_xor a2 _ _ n (Nat.le_refl n)]
        show _ ^^^ _ = _
        rw [ih (by omega), xor_0']
        split
        · exact a6 m (by omega)
        · have hz : rv cm 0 = 0 := by
            have := rv_xor cm 0 0
            rw [xor_self, xor_self] at this
            exact this
          rw [hz]
          have := brs_xor (mk := mk) a2 0 0 n (Nat.le_refl n)
          rw [xor_self] at this
          rw [this, xor_self]
    have hk := key j (Nat.le_refl j)
    rw [pto_eq (by omega) hy, rv_xor, hx, xor_0'] at hk
    exact h0 hk
  obtain ⟨q, q1, q2, q3⟩ := low_ex h0
  generalize hv : (brs vec mk n (rv cm (e1 (ord j)))).1 = v at *
  generalize hw : (brs vec mk n (rv cm (e1 (ord j)))).2 = r at *
  have hPq : tb P q = false := by
    cases ht : tb P q
    · rfl
    · obtain ⟨k, hk, e⟩ := (a10 q q1).mp ht
      have := hlow k hk
      rw [e, q2] at this
      cases this
  have hstj : tb st (ord j) = false := a5 j (Nat.le_refl j) hj
  have hvo : ∀ k, k < n → vp_updL vec n v k = vec k ∧ vp_updL mk n (r ^^^ e1 (ord j)) k = mk k := fun k hk => ⟨pk_uLn (by omega), pk_uLn (by omega)⟩
  have hvn : vp_updL vec n v n = v := pk_uLs
  have hmn : vp_updL mk n (r ^^^ e1 (ord j)) n = r ^^^ e1 (ord j) := pk_uLs
  refine ⟨fun k => if k = n then q else pv k, P ||| e1 q, by omega, ?_, ?_, ?_, ?_, ?_, ?_, ?_, ?_, ?_⟩
  · intro k hk
    rcases Nat.lt_or_ge k n with p | p
    · have hne : k ≠ n := by omega
      obtain ⟨b1, b2, b3, b4⟩ := a2 k p
      rw [(hvo k p).1]
      refine ⟨by simp [hne]; exact b1, by simp [hne]; exact b2, by simp [hne]; exact b3, fun i hi => ?_⟩
      have : i ≠ n := by omega
      simp [this]
      exact b4 i hi
    · have : k = n := by omega
      subst this
      rw [hvn]
      refine ⟨by simp; exact q1, by simp; exact q3, by simp; exact q2, fun i hi => ?_⟩
      have : i ≠ k := by omega
      simp [this]
      exact hlow i hi
  · intro k hk
    rcases Nat.lt_or_ge k n with p | p
    · rw [(hvo k p).1, (hvo k p).2]; exact a3 k p
    · have : k = n := by omega
      subst this
      rw [hvn, hmn, rv_xor, ← hsum, xor_c, xor_a, xor_self, xor_0]
  · intro k hk p hp ht
    rw [tb_or_e1 st (ord_lt j hj) hp]
    rcases Nat.lt_or_ge k n with z | z
    · rw [(hvo k z).2] at ht
      rw [a4 k z p hp ht]; rfl
    · have : k = n := by omega
      subst this
      rw [hmn, tb_xor, tb_e1 _ (ord_lt j hj) p hp] at ht
      cases h1 : tb r p
      · rw [h1] at ht
        simp at ht
        simp [ht]
      · rw [hr p hp h1]; rfl
  · intro i h1 h2
    rw [tb_or_e1 st (ord_lt j hj) (ord_lt i h2), a5 i (by omega) h2]
    have : ord i ≠ ord j := fun e => by have := ord_inj h2 hj e; omega
    simp [this]
  · intro i hi
    rw [brs, brs_cong n hvo]
    unfold bst
    rcases Nat.lt_or_ge i j with p | p
    · have e := a6 i p
      have : (brs vec mk n (rv cm (e1 (ord i)))).1 &&& (vp_updL vec n v n &&& -vp_updL vec n v n) = 0 := by
        rw [e]
        exact tb_ext (fun k _ => by rw [tb_and, tb_0]; rfl)
      rw [if_pos this]
      exact e
    · have : i = j := by omega
      subst this
      rw [hv, hvn, q3, if_neg (fun hh => by rw [(and_e1 v q1).mp hh] at q2; cases q2)]
      exact xor_self v
  · intro i hi
    rcases Nat.lt_or_ge i j with p | p
    · rw [tb_or_e1 st (ord_lt j hj) (ord_lt i (by omega))]
      have : ord i ≠ ord j := fun e => by have := ord_inj (by omega) hj e; omega
      simp [this]
      exact (a7 i p).trans Iff.rfl
    · have : i = j := by omega
      subst this
      rw [tb_or_e1 st (ord_lt i hj) (ord_lt i hj)]
      simp [hnLI]
  · rw [popc_add (ord_lt j hj) hstj, a8]
  · rw [popc_add q1 hPq, a9]
  · intro w hw'
    rw [tb_or_e1 P q1 hw']
    constructor
    · intro ht
      cases h1 : tb P w
      · rw [h1] at ht
        simp at ht
        exact ⟨n, by omega, by simp [ht]⟩
      · obtain ⟨k, hk, e⟩ := (a10 w hw').mp h1
        have : k ≠ n := by omega
        exact ⟨k, by omega, by simp [this, e]⟩
    · rintro ⟨k, hk, e⟩
      rcases Nat.lt_or_ge k n with p | p
      · have : k ≠ n := by omega
        simp [this] at e
        rw [(a10 w hw').mpr ⟨k, p, e⟩]; rfl
      · have : k = n := by omega
        subst this
        simp at e
        simp [e]
