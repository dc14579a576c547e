/-! ===== the class's Span: a sum more at the newest level ===== -/
theorem sp_cong {ld ld' : Nat → Bool} {rw rw' : Nat → Int64} (h : ∀ p, p < 64 → ld p = ld' p) (hr : ∀ p, p < 64 → ld p = true → rw p = rw' p) (x : Int64) : Sp ld rw x ↔ Sp ld' rw' x := by
  constructor
  · intro hx
    refine Gn.sub ?_ hx
    rintro g ⟨p, hp, hl, rfl⟩
    exact ⟨p, hp, (h p hp) ▸ hl, hr p hp hl⟩
  · intro hx
    refine Gn.sub ?_ hx
    rintro g ⟨p, hp, hl, rfl⟩
    have hl' : ld p = true := (h p hp).trans hl
    exact ⟨p, hp, hl', (hr p hp hl').symm⟩
theorem sp_top {ld : Nat → Bool} {rw : Nat → Int64} {L : Nat → Nat} {D d : Nat} (h : ∀ p, p < 64 → ld p = true → L p ≤ D) (hd : D ≤ d) (x : Int64) : Sp (ldd ld L d) rw x ↔ Sp ld rw x := by
  refine sp_cong (fun p hp => ?_) (fun _ _ _ => rfl) x
  unfold ldd
  cases hl : ld p
  · rfl
  · have := h p hp hl
    simp only [Bool.true_and, decide_eq_true_eq]
    omega
def LvI (S : SS) (n : Nat) (L c : Nat → Nat) (D : Nat) (F : Nat → Int64 → Prop) : Prop :=
  SpOk S n L c ∧ (∀ p, p < 64 → ldX S p = true → L p ≤ D) ∧ ∀ d, d ≤ D → ∀ x, Sp (ldd (ldX S) L d) (s_rows S) x ↔ Gn (F d) x
theorem LvI.cong {S : SS} {n : Nat} {L c : Nat → Nat} {D : Nat} {F F' : Nat → Int64 → Prop} (h : LvI S n L c D F) (hF : ∀ d, d ≤ D → ∀ g, F d g ↔ F' d g) : LvI S n L c D F' := by
  refine ⟨h.1, h.2.1, fun d hd x => (h.2.2 d hd x).trans ⟨fun q => Gn.sub (fun g hg => (hF d hd g).mp hg) q, fun q => Gn.sub (fun g hg => (hF d hd g).mpr hg) q⟩⟩
theorem LvI.all {S : SS} {n : Nat} {L c : Nat → Nat} {D : Nat} {F : Nat → Int64 → Prop} (h : LvI S n L c D F) (x : Int64) : Sp (ldX S) (s_rows S) x ↔ Gn (F D) x :=
  (sp_top h.2.1 (Nat.le_refl D) x).symm.trans (h.2.2 D (Nat.le_refl D) x)
/-- what of a Span stays when a sum is added -/
def SpLe (S : SS) (n : Nat) (L c : Nat → Nat) (S' : SS) (n' : Nat) (L' c' : Nat → Nat) (D : Nat) : Prop :=
  n ≤ n' ∧ (∀ k, k < n → c' k = c k) ∧ (∀ p, p < 64 → ldX S p = true → ldX S' p = true ∧ s_rows S' p = s_rows S p ∧ L' p = L p) ∧ ∀ p, p < 64 → ldX S' p = true → ldX S p = false → L' p = D
theorem SpLe.rf (S : SS) (n : Nat) (L c : Nat → Nat) (D : Nat) : SpLe S n L c S n L c D :=
  ⟨Nat.le_refl n, fun _ _ => rfl, fun _ _ h => ⟨h, rfl, rfl⟩, fun _ _ h1 h2 => by rw [h1] at h2; cases h2⟩
theorem SpLe.tr {S S' S'' : SS} {n n' n'' : Nat} {L c L' c' L'' c'' : Nat → Nat} {D : Nat} (h : SpLe S n L c S' n' L' c' D) (k : SpLe S' n' L' c' S'' n'' L'' c'' D) : SpLe S n L c S'' n'' L'' c'' D := by
  obtain ⟨a1, a2, a3, a4⟩ := h
  obtain ⟨b1, b2, b3, b4⟩ := k
  refine ⟨by omega, fun i hi => (b2 i (by omega)).trans (a2 i hi), fun p hp hl => ?_, fun p hp h1 h2 => ?_⟩
  · obtain ⟨c1, c2, c3⟩ := a3 p hp hl
    obtain ⟨d1, d2, d3⟩ := b3 p hp c1
    exact ⟨d1, d2.trans c2, d3.trans c3⟩
  · cases hm : ldX S' p
    · exact b4 p hp h1 hm
    · rw [(b3 p hp hm).2.2]
      exact a4 p hp hm h2
theorem LvI.add {S : SS} {n : Nat} {L c : Nat → Nat} {D : Nat} {F : Nat → Int64 → Prop} (h : LvI S n L c D F) (hD : D ≤ 12) (x : Int64) :
    ∃ S' n' L' c', fX0_add x (nI D) S = some S' ∧ LvI S' n' L' c' D (fun d g => F d g ∨ (d = D ∧ g = x)) ∧ SpLe S n L c S' n' L' c' D := by
  have hall := h.all
  obtain ⟨hS, hL, hF⟩ := h
  have ht := trn_ok hS.1 64 x (Nat.le_refl 64) (fun i h1 h2 => absurd h2 (by omega))
  rw [addX]
  cases hc : trn (ldX S) (s_rows S) 64 x with
  | none =>
    have hx := ht.1 hc
    refine ⟨S, n, L, c, rfl, ⟨hS, hL, fun d hd y => ?_⟩, SpLe.rf S n L c D⟩
    rw [hF d hd y]
    constructor
    · exact fun hy => hy.sub (fun g hg => Or.inl hg)
    · intro hy
      refine hy.le ?_
      rintro g (hg | ⟨e, rfl⟩)
      · exact Gn.g hg
      · subst e
        exact (hall g).mp hx
  | some q =>
    obtain ⟨j, y⟩ := q
    obtain ⟨hj, hs, hl, hn⟩ := ht.2 j y hc
    obtain ⟨k1, k2, k3, k4, k5⟩ := hS.keep hs hl hn hD
    have hp := ord_lt j (ltop_some hl).1
    have hL' : ∀ p, p < 64 → ldX (kpS S n (ord j) y D) p = true → (fun p => if p = ord j then D else L p) p ≤ D := fun p hp' ht => by
      show (if p = ord j then D else L p) ≤ D
      by_cases e : p = ord j
      · rw [if_pos e]; exact Nat.le_refl D
      · rw [if_neg e]
        rw [k3 p hp'] at ht
        simp [e] at ht
        exact hL p hp' ht
    refine ⟨kpS S n (ord j) y D, n + 1, _, _, k1, ⟨k2, hL', fun d hd z => ?_⟩, by omega, fun k hk => ?_, fun p hp' ht => ?_, fun p hp' h1 h2 => ?_⟩
    · rcases Nat.lt_or_ge d D with hlt | hge
      · have e1 : Sp (ldd (ldX (kpS S n (ord j) y D)) (fun p => if p = ord j then D else L p) d) (s_rows (kpS S n (ord j) y D)) z ↔ Sp (ldd (ldX S) L d) (s_rows S) z := by
          refine sp_cong (fun p hp' => ?_) (fun p hp' ht => ?_) z
          · unfold ldd
            rw [k3 p hp']
            by_cases e : p = ord j
            · subst e
              have : ¬ D ≤ d := by omega
              simp [hn, this]
            · simp [e]
          · refine k4 p (fun e => ?_)
            subst e
            unfold ldd at ht
            have : ¬ D ≤ d := by omega
            simp [this] at ht
        rw [e1, hF d hd z]
        constructor
        · exact fun hy => hy.sub (fun g hg => Or.inl hg)
        · intro hy
          refine hy.sub ?_
          rintro g (hg | ⟨e, -⟩)
          · exact hg
          · omega
      · have : d = D := by omega
        subst this
        rw [sp_top hL' (Nat.le_refl d) z, k5 z]
        constructor
        · intro hz
          refine hz.le ?_
          rintro g (hg | rfl)
          · exact ((hall g).mp hg).sub (fun g hg => Or.inl hg)
          · exact Gn.g (Or.inr ⟨rfl, rfl⟩)
        · intro hz
          refine hz.le ?_
          rintro g (hg | ⟨-, rfl⟩)
          · exact Gn.g (Or.inl ((hall g).mpr (Gn.g hg)))
          · exact Gn.g (Or.inr rfl)
    · have : k ≠ n := by omega
      simp [this]
    · have hne : p ≠ ord j := fun e => by rw [e, hn] at ht; cases ht
      refine ⟨by rw [k3 p hp', ht]; simp, k4 p hne, by simp [hne]⟩
    · rw [k3 p hp', h2] at h1
      simp at h1
      simp [h1]
theorem emptyX (S : SS) : ∃ S', fX0_empty S = some S' ∧ ∀ F : Nat → Int64 → Prop, (∀ d g, ¬ F d g) → ∀ D, LvI S' 0 (fun _ => 0) (fun _ => 0) D F := by
  obtain ⟨rows, levels, came, leads, size⟩ := S
  refine ⟨(rows, levels, came, 0, 0), rfl, fun F hF D => ?_⟩
  have hld : ∀ p, ldX (rows, levels, came, 0, 0) p = false := fun p => tb_0 p
  refine ⟨⟨fun j _ h => ?_, rfl, popc_0, fun p _ h => ?_, fun k hk => absurd hk (by omega), fun p _ h => ?_⟩, fun p _ h => ?_, fun d _ x => ?_⟩
  · rw [hld] at h; cases h
  · rw [hld] at h; cases h
  · rw [hld] at h; cases h
  · rw [hld] at h; cases h
  · constructor
    · intro hx
      refine Gn.sub ?_ hx
      rintro g ⟨p, -, hl, -⟩
      unfold ldd at hl
      rw [hld] at hl
      cases hl
    · intro hx
      exact hx.sub (fun g hg => absurd hg (hF d g))
