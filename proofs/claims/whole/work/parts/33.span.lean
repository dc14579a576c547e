/-! ===== rows with leads of their own: what they span ===== -/
def Gn (G : Int64 → Prop) (x : Int64) : Prop := ∀ P : Int64 → Prop, P 0 → (∀ a b, P a → P b → P (a ^^^ b)) → (∀ g, G g → P g) → P x
theorem Gn.z {G : Int64 → Prop} : Gn G 0 := fun _ h _ _ => h
theorem Gn.x {G : Int64 → Prop} {a b : Int64} (ha : Gn G a) (hb : Gn G b) : Gn G (a ^^^ b) := fun P h0 hx hg => hx a b (ha P h0 hx hg) (hb P h0 hx hg)
theorem Gn.g {G : Int64 → Prop} {a : Int64} (h : G a) : Gn G a := fun _ _ _ hg => hg a h
theorem Gn.le {G K : Int64 → Prop} (h : ∀ g, G g → Gn K g) {x : Int64} (hx : Gn G x) : Gn K x := hx (Gn K) Gn.z (fun _ _ => Gn.x) h
theorem Gn.sub {G K : Int64 → Prop} (h : ∀ g, G g → K g) {x : Int64} (hx : Gn G x) : Gn K x := hx.le (fun g hg => Gn.g (h g hg))
theorem Gn.x' {G : Int64 → Prop} {a b : Int64} (ha : Gn G a) (hb : Gn G (a ^^^ b)) : Gn G b := by
  have := ha.x hb
  rwa [← xor_a, xor_self, xor_0'] at this
def Ech (ld : Nat → Bool) (rw : Nat → Int64) : Prop := ∀ j, j < 64 → ld (ord j) = true → tb (rw (ord j)) (ord j) = true ∧ ∀ i, j < i → i < 64 → tb (rw (ord j)) (ord i) = false
def stp (ld : Nat → Bool) (rw : Nat → Int64) (n : Nat) (x : Int64) : Int64 := if tb x (ord n) && ld (ord n) then x ^^^ rw (ord n) else x
def rdn (ld : Nat → Bool) (rw : Nat → Int64) : Nat → Int64 → Int64
  | 0, x => x
  | n + 1, x => rdn ld rw n (stp ld rw n x)
theorem stp_xor (ld : Nat → Bool) (rw : Nat → Int64) (n : Nat) (x y : Int64) : stp ld rw n (x ^^^ y) = stp ld rw n x ^^^ stp ld rw n y := by
  unfold stp
  rw [tb_xor]
  cases tb x (ord n) <;> cases tb y (ord n) <;> cases ld (ord n) <;> simp <;> (apply tb_ext; intro k _; simp only [tb_xor]; cases tb x k <;> cases tb y k <;> cases tb (rw (ord n)) k <;> rfl)
theorem rdn_xor (ld : Nat → Bool) (rw : Nat → Int64) : ∀ (n : Nat) (x y : Int64), rdn ld rw n (x ^^^ y) = rdn ld rw n x ^^^ rdn ld rw n y
  | 0, _, _ => rfl
  | n + 1, x, y => by rw [rdn, stp_xor, rdn_xor ld rw n]; rfl
theorem rdn_0 (ld : Nat → Bool) (rw : Nat → Int64) (n : Nat) : rdn ld rw n 0 = 0 := by
  have := rdn_xor ld rw n 0 0
  rw [xor_self] at this
  rw [this, xor_self]
theorem tb_stp (ld : Nat → Bool) (rw : Nat → Int64) (n : Nat) (x : Int64) (k : Nat) : tb (stp ld rw n x) k = (tb x k ^^ (tb x (ord n) && ld (ord n) && tb (rw (ord n)) k)) := by
  unfold stp
  cases h : (tb x (ord n) && ld (ord n)) <;> simp [tb_xor]
theorem rdn_hi {ld : Nat → Bool} {rw : Nat → Int64} (hE : Ech ld rw) : ∀ (n : Nat) (x : Int64), n ≤ 64 → ∀ i, n ≤ i → i < 64 → tb (rdn ld rw n x) (ord i) = tb x (ord i)
  | 0, _, _, _, _, _ => rfl
  | n + 1, x, hn, i, h1, h2 => by
    rw [rdn, rdn_hi hE n _ (by omega) i (by omega) h2, tb_stp]
    cases hl : ld (ord n)
    · simp
    · rw [(hE n (by omega) hl).2 i (by omega) h2]; simp
theorem rdn_lo {ld : Nat → Bool} {rw : Nat → Int64} (hE : Ech ld rw) : ∀ (n : Nat) (x : Int64), n ≤ 64 → ∀ i, i < n → ld (ord i) = true → tb (rdn ld rw n x) (ord i) = false
  | 0, _, _, _, h, _ => absurd h (by omega)
  | n + 1, x, hn, i, h1, hl => by
    rw [rdn]
    rcases Nat.lt_or_ge i n with q | q
    · exact rdn_lo hE n _ (by omega) i q hl
    · have : i = n := by omega
      subst this
      rw [rdn_hi hE i _ (by omega) i (Nat.le_refl i) (by omega), tb_stp, hl, (hE i (by omega) hl).1]
      cases tb x (ord i) <;> rfl
theorem rdn_row {ld : Nat → Bool} {rw : Nat → Int64} (hE : Ech ld rw) : ∀ n, n ≤ 64 → ∀ j, j < n → ld (ord j) = true → rdn ld rw n (rw (ord j)) = 0
  | 0, _, _, h, _ => absurd h (by omega)
  | n + 1, hn, j, h1, hl => by
    rw [rdn]
    rcases Nat.lt_or_ge j n with q | q
    · have : stp ld rw n (rw (ord j)) = rw (ord j) := by
        unfold stp
        rw [(hE j (by omega) hl).2 n q (by omega)]
        rfl
      rw [this]
      exact rdn_row hE n (by omega) j q hl
    · have : j = n := by omega
      subst this
      have : stp ld rw j (rw (ord j)) = 0 := by
        unfold stp
        rw [(hE j (by omega) hl).1, hl]
        exact xor_self _
      rw [this, rdn_0]
def Rw (ld : Nat → Bool) (rw : Nat → Int64) (x : Int64) : Prop := ∃ p, p < 64 ∧ ld p = true ∧ x = rw p
def Sp (ld : Nat → Bool) (rw : Nat → Int64) (x : Int64) : Prop := Gn (Rw ld rw) x
theorem stp_in (ld : Nat → Bool) (rw : Nat → Int64) (n : Nat) (hn : n < 64) (x : Int64) : Sp ld rw (x ^^^ stp ld rw n x) := by
  unfold stp
  cases h : (tb x (ord n) && ld (ord n))
  · rw [if_neg (by decide), xor_self]; exact Gn.z
  · rw [if_pos rfl, ← xor_a, xor_self, xor_0']
    simp only [Bool.and_eq_true] at h
    exact Gn.g ⟨ord n, ord_lt n hn, h.2, rfl⟩
theorem rdn_in (ld : Nat → Bool) (rw : Nat → Int64) : ∀ n, n ≤ 64 → ∀ x, Sp ld rw (x ^^^ rdn ld rw n x)
  | 0, _, x => by rw [rdn, xor_self]; exact Gn.z
  | n + 1, h, x => by
    have h1 := stp_in ld rw n (by omega) x
    have h2 := rdn_in ld rw n (by omega) (stp ld rw n x)
    have h3 := h1.x h2
    rw [xor_a, ← xor_a (stp ld rw n x), xor_self, xor_0'] at h3
    exact h3
theorem sp_iff {ld : Nat → Bool} {rw : Nat → Int64} (hE : Ech ld rw) (x : Int64) : Sp ld rw x ↔ rdn ld rw 64 x = 0 := by
  constructor
  · intro h
    refine h (fun x => rdn ld rw 64 x = 0) (rdn_0 ld rw 64) (fun a b ha hb => by rw [rdn_xor, ha, hb, xor_self]) ?_
    rintro g ⟨p, hp, hl, rfl⟩
    have := rdn_row hE 64 (by omega) (pos p) (pos_lt p hp)
    rw [ord_pos p hp] at this
    exact this hl
  · intro h
    have := rdn_in ld rw 64 (by omega) x
    rwa [h, xor_0] at this
theorem rdn_skip (ld : Nat → Bool) (rw : Nat → Int64) (x : Int64) (m : Nat) : ∀ d, (∀ i, m ≤ i → i < m + d → tb x (ord i) = false) → rdn ld rw (m + d) x = rdn ld rw m x
  | 0, _ => rfl
  | d + 1, h => by
    show rdn ld rw (m + d) (stp ld rw (m + d) x) = _
    have : stp ld rw (m + d) x = x := by
      unfold stp
      rw [h (m + d) (by omega) (by omega)]
      rfl
    rw [this]
    exact rdn_skip ld rw x m d (fun i h1 h2 => h i h1 (by omega))
theorem sp_lead {ld : Nat → Bool} {rw : Nat → Int64} (hE : Ech ld rw) {x : Int64} (h : Sp ld rw x) {j : Nat} (hl : ltop x 64 = some j) : ld (ord j) = true := by
  obtain ⟨h1, h2, h3⟩ := ltop_some hl
  cases hd : ld (ord j) with
  | true => rfl
  | false =>
    exfalso
    have h0 := (sp_iff hE x).mp h
    have e1 : rdn ld rw 64 x = rdn ld rw (j + 1) x := by
      have := rdn_skip ld rw x (j + 1) (63 - j) (fun i a b => h3 i (by omega) (by omega))
      rwa [show j + 1 + (63 - j) = 64 by omega] at this
    have e2 : stp ld rw j x = x := by
      unfold stp
      rw [hd, Bool.and_false]
      rfl
    have e3 := rdn_hi hE j x (by omega) j (Nat.le_refl j) h1
    rw [e1, rdn, e2] at h0
    rw [h0, tb_0, h2] at e3
    cases e3
theorem ltop_of {x : Int64} {j : Nat} (hj : j < 64) (h1 : tb x (ord j) = true) (h2 : ∀ i, j < i → i < 64 → tb x (ord i) = false) : ltop x 64 = some j := by
  cases h : ltop x 64 with
  | none =>
    have := ltop_none h j hj
    rw [h1] at this
    cases this
  | some i =>
    obtain ⟨a, b, c⟩ := ltop_some h
    congr 1
    rcases Nat.lt_trichotomy i j with q | q | q
    · have := c j q hj
      rw [h1] at this
      cases this
    · exact q
    · have := h2 i q a
      rw [b] at this
      cases this
/-- a row more: its lead is new -/
theorem add_ok {ld ld' : Nat → Bool} {rw rw' : Nat → Int64} {x y : Int64} {j : Nat} (hE : Ech ld rw) (hs : Sp ld rw (x ^^^ y)) (hl : ltop y 64 = some j) (hn : ld (ord j) = false) (hd : ∀ p, p < 64 → ld' p = (decide (p = ord j) || ld p)) (hr : ∀ p, p < 64 → ld' p = true → rw' p = if p = ord j then y else rw p) :
    Ech ld' rw' ∧ ∀ z, Sp ld' rw' z ↔ Gn (fun g => Sp ld rw g ∨ g = x) z := by
  obtain ⟨h1, h2, h3⟩ := ltop_some hl
  constructor
  · intro i hi hli
    have hp := ord_lt i hi
    rw [hr (ord i) hp hli]
    by_cases e : ord i = ord j
    · have : i = j := by rw [← pos_ord i hi, e, pos_ord j h1]
      subst this
      rw [if_pos e]
      exact ⟨h2, h3⟩
    · rw [if_neg e]
      rw [hd (ord i) hp] at hli
      simp [e] at hli
      exact hE i hi hli
  · have hy : ld' (ord j) = true := by rw [hd (ord j) (ord_lt j h1)]; simp
    have hsub : ∀ g, Sp ld rw g → Sp ld' rw' g := fun g hg => hg.le (by
      rintro g ⟨p, hp, hlp, rfl⟩
      have hlp' : ld' p = true := by rw [hd p hp, hlp]; simp
      have hne : p ≠ ord j := fun e => by rw [e, hn] at hlp; cases hlp
      have := hr p hp hlp'
      rw [if_neg hne] at this
      exact Gn.g ⟨p, hp, hlp', this.symm⟩)
    have hyS : Sp ld' rw' y := Gn.g ⟨ord j, ord_lt j h1, hy, by rw [hr (ord j) (ord_lt j h1) hy, if_pos rfl]⟩
    intro z
    constructor
    · intro hz
      refine hz.le ?_
      rintro g ⟨p, hp, hlp, rfl⟩
      rw [hr p hp hlp]
      by_cases e : p = ord j
      · rw [if_pos e]
        exact (Gn.g (Or.inr rfl)).x' (Gn.g (Or.inl hs))
      · rw [if_neg e]
        rw [hd p hp] at hlp
        simp [e] at hlp
        exact Gn.g (Or.inl (Gn.g ⟨p, hp, hlp, rfl⟩))
    · intro hz
      refine hz.le ?_
      rintro g (hg | rfl)
      · exact hsub g hg
      · have := hyS.x (hsub _ hs)
        rw [xor_c, xor_a, xor_self, xor_0] at this
        exact this
/-- going down from the highest: the first lead that is new, and what is left there -/
def trn (ld : Nat → Bool) (rw : Nat → Int64) : Nat → Int64 → Option (Nat × Int64)
  | 0, _ => none
  | n + 1, x => if tb x (ord n) then (if ld (ord n) then trn ld rw n (x ^^^ rw (ord n)) else some (n, x)) else trn ld rw n x
theorem trn_0 (ld : Nat → Bool) (rw : Nat → Int64) : ∀ n, trn ld rw n 0 = none
  | 0 => rfl
  | n + 1 => by rw [trn, tb_0, if_neg (by decide), trn_0 ld rw n]
theorem trn_ok {ld : Nat → Bool} {rw : Nat → Int64} (hE : Ech ld rw) : ∀ (n : Nat) (x : Int64), n ≤ 64 → (∀ i, n ≤ i → i < 64 → tb x (ord i) = false) →
    (trn ld rw n x = none → Sp ld rw x) ∧ ∀ j y, trn ld rw n x = some (j, y) → j < n ∧ Sp ld rw (x ^^^ y) ∧ ltop y 64 = some j ∧ ld (ord j) = false
  | 0, x, _, hz => by
    have : x = 0 := ord_ext (fun j hj => by rw [hz j (by omega) hj, tb_0])
    subst this
    exact ⟨fun _ => Gn.z, fun _ _ h => by cases h⟩
  | n + 1, x, hn, hz => by
    rw [trn]
    by_cases ht : tb x (ord n) = true
    · rw [if_pos ht]
      by_cases hl : ld (ord n) = true
      · rw [if_pos hl]
        have hrow := hE n (by omega) hl
        have hz' : ∀ i, n ≤ i → i < 64 → tb (x ^^^ rw (ord n)) (ord i) = false := by
          intro i h1 h2
          rw [tb_xor]
          rcases Nat.lt_or_ge n i with q | q
          · rw [hz i (by omega) h2, hrow.2 i q h2]; rfl
          · have : i = n := by omega
            subst this
            rw [ht, hrow.1]; rfl
        have ih := trn_ok hE n (x ^^^ rw (ord n)) (by omega) hz'
        have hrS : Sp ld rw (rw (ord n)) := Gn.g ⟨ord n, ord_lt n (by omega), hl, rfl⟩
        constructor
        · intro h
          have := (ih.1 h).x hrS
          rwa [xor_a, xor_self, xor_0] at this
        · intro j y h
          obtain ⟨a, b, c, d⟩ := ih.2 j y h
          refine ⟨by omega, ?_, c, d⟩
          have := b.x hrS
          rwa [xor_a, xor_c y, ← xor_a, xor_a x, xor_self, xor_0] at this
      · rw [if_neg hl]
        refine ⟨fun h => absurd h (by simp), fun j y h => ?_⟩
        cases h
        refine ⟨by omega, by rw [xor_self]; exact Gn.z, ltop_of (by omega) ht (fun i a b => hz i (by omega) b), Bool.eq_false_iff.mpr hl⟩
    · rw [if_neg ht]
      have hz' : ∀ i, n ≤ i → i < 64 → tb x (ord i) = false := by
        intro i h1 h2
        rcases Nat.lt_or_ge n i with q | q
        · exact hz i (by omega) h2
        · have : i = n := by omega
          subst this
          exact Bool.eq_false_iff.mpr ht
      have ih := trn_ok hE n x (by omega) hz'
      exact ⟨ih.1, fun j y h => by obtain ⟨a, b⟩ := ih.2 j y h; exact ⟨by omega, b⟩⟩
