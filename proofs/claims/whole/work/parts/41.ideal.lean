/-! ===== what is nought in all common worlds is a sum of multiples of the given ones ===== -/
theorem tb_cmn (g : Nat → Int64) {w : Nat} (hw : w < 64) : ∀ G, tb (cmn g G) w = true ↔ ∀ i, i < G → tb (vals (g i)) w = false
  | 0 => by
    rw [cmn, tb_m1 w hw]
    exact ⟨fun _ i hi => absurd hi (by omega), fun _ => rfl⟩
  | G + 1 => by
    rw [cmn, tb_and, tb_not hw]
    have ih := tb_cmn g hw G
    constructor
    · intro h i hi
      simp only [Bool.and_eq_true, Bool.not_eq_true'] at h
      rcases Nat.lt_or_ge i G with q | q
      · exact ih.mp h.1 i q
      · have : i = G := by omega
        subst this
        exact h.2
    · intro h
      rw [ih.mpr (fun i hi => h i (by omega)), h G (by omega)]
      rfl
def Mult (g : Nat → Int64) (G : Nat) (x : Int64) : Prop := ∃ i, i < G ∧ g i ≠ 0 ∧ ∃ p, p < 64 ∧ x = mul (g i) (e1 p)
theorem mul_gn {g : Nat → Int64} {G i : Nat} (hi : i < G) (h0 : g i ≠ 0) (z : Int64) : Gn (Mult g G) (mul (g i) z) := by
  have key : ∀ n, n ≤ 64 → Gn (Mult g G) (mul (g i) (pt n z)) := by
    intro n
    induction n with
    | zero => intro _; rw [pt, mul_0']; exact Gn.z
    | succ n ih =>
      intro hn
      rw [pt, mul_xor']
      refine (ih (by omega)).x ?_
      split
      · exact Gn.g ⟨i, hi, h0, n, by omega, rfl⟩
      · rw [mul_0']; exact Gn.z
  have := key 64 (Nat.le_refl 64)
  rwa [pt_64] at this
theorem ideal {g : Nat → Int64} {G : Nat} {x : Int64} (h : rv (cmn g G) x = 0) : Gn (Mult g G) x := by
  have hw : ∀ w, w < 64 → tb (vals x) w = true → Gn (Mult g G) (vals (e1 w)) := by
    intro w hw ht
    have hc : ¬ tb (cmn g G) w = true := fun hc => by
      have : tb (rv (cmn g G) x) w = true := by unfold rv; rw [tb_and, ht, hc]; rfl
      rw [h, tb_0] at this
      cases this
    have hex : ∃ i, i < G ∧ tb (vals (g i)) w = true := by
      apply Classical.byContradiction
      intro hn
      apply hc
      rw [tb_cmn g hw G]
      intro i hi
      cases hv : tb (vals (g i)) w
      · rfl
      · exact absurd ⟨i, hi, hv⟩ hn
    obtain ⟨i, hi, hv⟩ := hex
    have h0 : g i ≠ 0 := fun e => by rw [e, vals_0, tb_0] at hv; cases hv
    have e : mul (g i) (vals (e1 w)) = vals (e1 w) := by
      unfold mul
      rw [vals_vals]
      congr 1
      apply tb_ext
      intro k hk
      rw [tb_and, tb_e1 w hw k hk]
      by_cases e : k = w
      · subst e; rw [hv]; simp
      · simp [e]
    have := mul_gn hi h0 (vals (e1 w))
    rwa [e] at this
  have key : ∀ n, n ≤ 64 → Gn (Mult g G) (vals (pt n (vals x))) := by
    intro n
    induction n with
    | zero => intro _; rw [pt, vals_0]; exact Gn.z
    | succ n ih =>
      intro hn
      rw [pt, vals_xor]
      refine (ih (by omega)).x ?_
      by_cases ht : tb (vals x) n = true
      · rw [if_pos ht]; exact hw n (by omega) ht
      · rw [if_neg ht, vals_0]; exact Gn.z
  have := key 64 (Nat.le_refl 64)
  rwa [pt_64, vals_vals] at this
theorem ideal' {g : Nat → Int64} {G : Nat} {x : Int64} (h : Gn (Mult g G) x) : rv (cmn g G) x = 0 := by
  refine h (fun x => rv (cmn g G) x = 0) (rv_0 _) (fun a b ha hb => by rw [rv_xor, ha, hb, xor_self]) ?_
  rintro y ⟨i, hi, -, p, -, rfl⟩
  unfold rv
  rw [vals_mul]
  apply tb_ext
  intro w hw
  rw [tb_and, tb_and, tb_0]
  cases hc : tb (cmn g G) w
  · simp
  · rw [(tb_cmn g hw G).mp hc i hi]; simp
