/-! ===== the level of a sum: the least depth whose rows span it ===== -/
def ldd (ld : Nat → Bool) (L : Nat → Nat) (d p : Nat) : Bool := ld p && decide (L p ≤ d)
theorem ldd_ech {ld : Nat → Bool} {rw : Nat → Int64} (hE : Ech ld rw) (L : Nat → Nat) (d : Nat) : Ech (ldd ld L d) rw := fun j hj hl => by
  unfold ldd at hl
  simp only [Bool.and_eq_true] at hl
  exact hE j hj hl.1
theorem mx_nI {a b : Nat} (ha : a < 2 ^ 31) (hb : b < 2 ^ 31) : mx (nI a) (nI b) = nI (max a b) := by
  unfold mx
  by_cases h : a < b
  · rw [if_pos (nI_lt h hb), Nat.max_eq_right (by omega)]
  · rw [if_neg (fun q => h ((nI_ltI ha hb).mp q)), Nat.max_eq_left (by omega)]
theorem lvl_ok {ld : Nat → Bool} {rw : Nat → Int64} {lev : Nat → Int32} {L : Nat → Nat} (hE : Ech ld rw) (hL : ∀ p, p < 64 → ld p = true → lev p = nI (L p) ∧ L p ≤ 12) : ∀ (n : Nat) (x : Int64) (l : Nat), n ≤ 64 → l ≤ 12 → (∀ i, n ≤ i → i < 64 → tb x (ord i) = false) →
    (Sp ld rw x → ∃ m, lvl ld rw lev n x (nI l) = nI m ∧ l ≤ m ∧ m ≤ 12 ∧ Sp (ldd ld L m) rw x ∧ ∀ d, Sp (ldd ld L d) rw x → m ≤ max l d) ∧ (¬ Sp ld rw x → lvl ld rw lev n x (nI l) = -9) := by
  intro n
  induction n with
  | zero =>
    intro x l _ hl hz
    have : x = 0 := ord_ext (fun j hj => by rw [hz j (by omega) hj, tb_0])
    subst this
    exact ⟨fun _ => ⟨l, rfl, Nat.le_refl l, hl, Gn.z, fun d _ => Nat.le_max_left l d⟩, fun h => absurd Gn.z h⟩
  | succ n ih =>
    intro x l hn hl hz
    rw [lvl]
    by_cases h0 : x = 0
    · subst h0
      rw [if_pos rfl]
      exact ⟨fun _ => ⟨l, rfl, Nat.le_refl l, hl, Gn.z, fun d _ => Nat.le_max_left l d⟩, fun h => absurd Gn.z h⟩
    · rw [if_neg h0]
      by_cases ht : tb x (ord n) = true
      · rw [if_pos ht]
        have hlt : ltop x 64 = some n := ltop_of (by omega) ht (fun i a b => hz i (by omega) b)
        by_cases hd : ld (ord n) = true
        · rw [if_pos hd]
          obtain ⟨e1, e2⟩ := hL (ord n) (ord_lt n (by omega)) hd
          have hrow := hE n (by omega) hd
          have hz' : ∀ i, n ≤ i → i < 64 → tb (x ^^^ rw (ord n)) (ord i) = false := by
            intro i h1 h2
            rw [tb_xor]
            rcases Nat.lt_or_ge n i with q | q
            · rw [hz i (by omega) h2, hrow.2 i q h2]; rfl
            · have : i = n := by omega
              subst this
              rw [ht, hrow.1]; rfl
          rw [e1, mx_nI (by omega) (by omega)]
          have hih := ih (x ^^^ rw (ord n)) (max l (L (ord n))) (by omega) (by omega) hz'
          have hrS : ∀ d, L (ord n) ≤ d → Sp (ldd ld L d) rw (rw (ord n)) := fun d hd' => Gn.g ⟨ord n, ord_lt n (by omega), by unfold ldd; rw [hd]; simpa using hd', rfl⟩
          have hrS0 : Sp ld rw (rw (ord n)) := Gn.g ⟨ord n, ord_lt n (by omega), hd, rfl⟩
          have back : ∀ {P : Int64 → Prop}, Gn P (x ^^^ rw (ord n)) → Gn P (rw (ord n)) → Gn P x := fun h1 h2 => by
            have := h1.x h2
            rwa [xor_a, xor_self, xor_0] at this
          constructor
          · intro hx
            obtain ⟨m, m1, m2, m3, m4, m5⟩ := hih.1 (hx.x hrS0)
            refine ⟨m, m1, by omega, m3, back m4 (hrS m (by omega)), fun d hdx => ?_⟩
            have hlead := sp_lead (ldd_ech hE L d) hdx hlt
            unfold ldd at hlead
            simp only [Bool.and_eq_true, decide_eq_true_eq] at hlead
            have := m5 d (hdx.x (hrS d hlead.2))
            omega
          · intro hx
            exact hih.2 (fun h => hx (back h hrS0))
        · rw [if_neg hd]
          exact ⟨fun hx => absurd (sp_lead hE hx hlt) hd, fun _ => rfl⟩
      · rw [if_neg ht]
        refine ih x l (by omega) hl (fun i h1 h2 => ?_)
        rcases Nat.lt_or_ge n i with q | q
        · exact hz i (by omega) h2
        · have : i = n := by omega
          subst this
          exact Bool.eq_false_iff.mpr ht
/-- the level, told by the spans -/
theorem lvl_at {ld : Nat → Bool} {rw : Nat → Int64} {lev : Nat → Int32} {L : Nat → Nat} (hE : Ech ld rw) (hL : ∀ p, p < 64 → ld p = true → lev p = nI (L p) ∧ L p ≤ 12) (x : Int64) :
    (Sp ld rw x → ∃ m, lvl ld rw lev 64 x 0 = nI m ∧ m ≤ 12 ∧ Sp (ldd ld L m) rw x ∧ ∀ d, Sp (ldd ld L d) rw x → m ≤ d) ∧ (¬ Sp ld rw x → lvl ld rw lev 64 x 0 = -9) := by
  have h := lvl_ok hE hL 64 x 0 (Nat.le_refl 64) (by omega) (fun i h1 h2 => absurd h2 (by omega))
  refine ⟨fun hx => ?_, h.2⟩
  obtain ⟨m, m1, m2, m3, m4, m5⟩ := h.1 hx
  exact ⟨m, m1, m3, m4, fun d hd => by have := m5 d hd; omega⟩
