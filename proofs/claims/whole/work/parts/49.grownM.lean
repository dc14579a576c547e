/-! ===== GROWN: the model's grown() ===== -/
def cz (dn : Nat → Int32) : Nat → Nat
  | 0 => 0
  | n + 1 => cz dn n + (if dn n = 0 then 1 else 0)
theorem cz_le (dn : Nat → Int32) : ∀ n, cz dn n ≤ n
  | 0 => Nat.le_refl 0
  | n + 1 => by
    have := cz_le dn n
    rw [cz]
    split <;> omega
theorem cz_upd {dn : Nat → Int32} {p : Nat} (h : dn p = 0) : ∀ n, cz (upd dn p 1) n + (if p < n then 1 else 0) = cz dn n
  | 0 => by simp [cz]
  | n + 1 => by
    have ih := cz_upd h n
    rw [cz, cz]
    by_cases e : n = p
    · subst e
      rw [pk_us, if_neg (by decide : ¬ (1 : Int32) = 0), if_pos h]
      rw [if_neg (by omega : ¬ n < n)] at ih
      rw [if_pos (by omega : n < n + 1)]
      omega
    · rw [pk_un e]
      by_cases q : p < n
      · rw [if_pos q] at ih
        rw [if_pos (by omega : p < n + 1)]
        omega
      · rw [if_neg q] at ih
        rw [if_neg (by omega : ¬ p < n + 1)]
        omega
def GM (g : Nat → Int64) (G D : Nat) (ld : Nat → Int64) (il dn : Nat → Int32) : Prop :=
  Ech (lb il) ld ∧ (∀ x, Sp (lb il) ld x → Gr g G D x) ∧ (∀ p, p < 64 → dn p = 0 ∨ dn p = 1) ∧ (∀ p, p < 64 → dn p = 1 → lb il p = true ∧ ∀ l, l < 6 → Sp (lb il) ld (mul (ld p) (e1 (2 ^ l))))
theorem GM.join {S : MS} (hO : OrdOk S) {g : Nat → Int64} {G D : Nat} {ld : Nat → Int64} {il dn : Nat → Int32} (dS : Nat → Int32) (h : GM g G D ld il dn) {v : Int64} (hv : Gr g G D v) : ∃ r ld' il', fX3_joins v (ledU S ld il dS) = some (r, ledU S ld' il' dS) ∧ GM g G D ld' il' dn ∧ (∀ z, Sp (lb il) ld z → Sp (lb il') ld' z) ∧ Sp (lb il') ld' v ∧ ∀ p, p < 64 → lb il p = true → lb il' p = true ∧ ld' p = ld p := by
  obtain ⟨h1, h2, h3, h4⟩ := h
  obtain ⟨r, ld', il', a1, a2, a3, a4⟩ := joinsU S hO ld il dS h1 v
  have hup : ∀ z, Sp (lb il) ld z → Sp (lb il') ld' z := fun z hz => (a3 z).mpr (Gn.g (Or.inl hz))
  refine ⟨r, ld', il', a1, ⟨a2, fun x hx => ?_, h3, fun p hp hd => ?_⟩, hup, (a3 v).mpr (Gn.g (Or.inr rfl)), a4⟩
  · refine (a3 x).mp hx (Gr g G D) Gr.z (fun _ _ => Gr.x) ?_
    rintro y (hy | rfl)
    · exact h2 y hy
    · exact hv
  · obtain ⟨b1, b2⟩ := h4 p hp hd
    obtain ⟨c1, c2⟩ := a4 p hp b1
    exact ⟨c1, fun l hl => by rw [c2]; exact hup _ (b2 l hl)⟩
theorem grM_let (S : MS) (hO : OrdOk S) (g : Nat → Int64) (G D p : Nat) (hp : p < 64) (hd : lt6 p < D) (k2 : Int64 → Int32 → MS → Option (Int32 × MS)) (k64 : Int64 → Int32 → Int32 → MS → Option (Int32 × MS)) (k75 : Int64 → Int32 → Int32 → Int32 → MS → Option (Int32 × MS)) (v : Int64) (v4 : Int32) (dn dS : Nat → Int32) : ∀ (d m l : Nat) (ld : Nat → Int64) (il : Nat → Int32), l + d = 6 → d < m → GM g G D ld il dn → lb il p = true → (∀ l', l' < l → Sp (lb il) ld (mul (ld p) (e1 (2 ^ l')))) →
    ∃ ld' il', fX3_grown_b140L k2 k64 k75 m v (nI D) v4 (nI p) 1 (nI l) (ledU S ld il dS) = k75 v (nI D) v4 (nI (p + 1)) (ledU S ld' il' dS) ∧ GM g G D ld' il' dn ∧ lb il' p = true ∧ (∀ l', l' < 6 → Sp (lb il') ld' (mul (ld' p) (e1 (2 ^ l')))) ∧ ∀ z, Sp (lb il) ld z → Sp (lb il') ld' z := by
  intro d
  induction d with
  | zero =>
    intro m l ld il hl hm hI hb hdone
    obtain ⟨m, rfl⟩ : ∃ q, m = q + 1 := ⟨m - 1, by omega⟩
    have : l = 6 := by omega
    subst this
    refine ⟨ld, il, ?_, hI, hb, hdone, fun z hz => hz⟩
    show fX3_grown_b140 k2 k64 k75 (fX3_grown_b140L k2 k64 k75 m) _ _ _ _ _ _ _ = _
    unfold fX3_grown_b140
    rw [if_pos (by decide)]
    unfold fX3_grown_b177
    rw [nI_1]
  | succ d ih =>
    intro m l ld il hl hm hI hb hdone
    obtain ⟨m, rfl⟩ : ∃ q, m = q + 1 := ⟨m - 1, by omega⟩
    have hl6 : l < 6 := by omega
    obtain ⟨r0, rd⟩ := row_dgn hI.1 hp hb
    have hrS : Sp (lb il) ld (ld p) := Gn.g ⟨p, hp, hb, rfl⟩
    obtain ⟨r, ld1, il1, a1, a2, a3, a4, a5⟩ := hI.join hO dS ((hI.2.1 _ hrS).m r0 (by rw [rd]; exact hd) hl6)
    obtain ⟨c1, c2⟩ := a5 p hp hb
    show ∃ ld' il', fX3_grown_b140 k2 k64 k75 (fX3_grown_b140L k2 k64 k75 m) _ _ _ _ _ _ _ = _ ∧ _
    unfold fX3_grown_b140
    rw [if_neg (nle6 hl6), if_neg (by decide), zGI_t (vp_in_nI hp (by decide)), lu_led, nI_clamp (by omega), sh6 l hl6, raisedM _ (p2_lt l hl6), zB1_t rfl, a1, zB2_t rfl, nI_1]
    obtain ⟨ld2, il2, i1, i2, i3, i4, i5⟩ := ih m (l + 1) ld1 il1 (by omega) (by omega) a2 c1 (fun l' hl' => by
      rw [c2]
      rcases Nat.lt_or_ge l' l with q | q
      · exact a3 _ (hdone l' q)
      · have : l' = l := by omega
        subst this
        exact a4)
    exact ⟨ld2, il2, i1, i2, i3, i4, fun z hz => i5 z (a3 z hz)⟩
theorem nar_id {x : Int32} (h : x = 0 ∨ x = 1) : vp_nar .boolean (x ||| 0) = x ∧ vp_nar .boolean (x ||| 1) = 1 := by
  rcases h with rfl | rfl <;> decide
theorem upd_id (f : Nat → Int32) (p : Nat) : upd f p (f p) = f := by
  funext j
  by_cases e : j = p
  · subst e; exact pk_us
  · exact pk_un e
theorem b2i_or0 (b : Bool) : b2i b ||| 0 = b2i b := by cases b <;> decide
theorem b2i_or1 (b : Bool) : b2i b ||| 1 = b2i true := by cases b <;> decide
theorem grM_rnd (S : MS) (hO : OrdOk S) (g : Nat → Int64) (G D : Nat) (hD : D ≤ 6) (k2 : Int64 → Int32 → MS → Option (Int32 × MS)) (k64 : Int64 → Int32 → Int32 → MS → Option (Int32 × MS)) (v : Int64) : ∀ (d m p : Nat) (ld : Nat → Int64) (il dn : Nat → Int32) (mo : Bool), p + d = 64 → d < m → GM g G D ld il dn → (mo = false → ∀ p', p' < p → lb il p' = true → lt6 p' < D → dn p' = 1) →
    ∃ ld' il' dn' mo', fX3_grown_b75L k2 k64 m v (nI D) (b2i mo) (nI p) (ledU S ld il dn) = k64 v (nI D) (b2i mo') (ledU S ld' il' dn') ∧ GM g G D ld' il' dn' ∧ (∀ z, Sp (lb il) ld z → Sp (lb il') ld' z) ∧ cz dn' 64 + (if mo' then 1 else 0) ≤ cz dn 64 + (if mo then 1 else 0) ∧ (mo' = false → ∀ p', p' < 64 → lb il' p' = true → lt6 p' < D → dn' p' = 1) := by
  intro d
  induction d with
  | zero =>
    intro m p ld il dn mo hp hm hI hno
    obtain ⟨m, rfl⟩ : ∃ q, m = q + 1 := ⟨m - 1, by omega⟩
    have : p = 64 := by omega
    subst this
    refine ⟨ld, il, dn, mo, ?_, hI, fun z hz => hz, Nat.le_refl _, hno⟩
    show fX3_grown_b75 k2 k64 (fX3_grown_b75L k2 k64 m) _ _ _ _ _ = _
    unfold fX3_grown_b75
    rw [if_pos (by decide)]
  | succ d ih =>
    intro m p ld il dn mo hp hm hI hno
    obtain ⟨m, rfl⟩ : ∃ q, m = q + 1 := ⟨m - 1, by omega⟩
    have hp' : p < 64 := by omega
    have hlt := lt6_le p hp'
    have hdp := hI.2.2.1 p hp'
    have hmiss : fX3_grown_b115 k2 k64 (fX3_grown_b75L k2 k64 m) v (nI D) (b2i mo) (nI p) (ledU S ld il dn) = fX3_grown_b75L k2 k64 m v (nI D) (b2i mo) (nI (p + 1)) (ledU S ld il dn) := by
      unfold fX3_grown_b115 fX3_grown_b116
      rw [zGI_t (vp_in_nI hp' (by decide)), zGI_t (vp_in_nI hp' (by decide)), zL_t, lu_isDone, nI_clamp (by omega), (nar_id hdp).1, upd_id, lu_uD, b2i_or0]
      show fX3_grown_b140 k2 k64 (fX3_grown_b75L k2 k64 m) (fX3_grown_b140L k2 k64 (fX3_grown_b75L k2 k64 m) 999) _ _ _ _ _ _ _ = _
      unfold fX3_grown_b140
      rw [if_neg (by decide), if_pos rfl]
      unfold fX3_grown_b177
      rw [nI_1]
    have hgo : (lb il p = true → lt6 p < D → dn p = 1) → fX3_grown_b75L k2 k64 (m + 1) v (nI D) (b2i mo) (nI p) (ledU S ld il dn) = fX3_grown_b75L k2 k64 m v (nI D) (b2i mo) (nI (p + 1)) (ledU S ld il dn) := by
      intro hx
      show fX3_grown_b75 k2 k64 (fX3_grown_b75L k2 k64 m) _ _ _ _ _ = _
      unfold fX3_grown_b75
      rw [if_neg (nle64 hp'), zGI_t (vp_in_nI hp' (by decide)), lu_isLed, lu_isDone, nI_clamp (by omega), hmiss]
      by_cases hb : il p = 0
      · rw [if_pos hb]
      · rw [if_neg hb, zGI_t (vp_in_nI hp' (by decide))]
        by_cases h0 : dn p = 0
        · rw [if_pos h0, lettersM p hp', zB1_t rfl]
          have hD' : D ≤ lt6 p := by
            rcases Nat.lt_or_ge (lt6 p) D with q | q
            · have := hx (by unfold lb; simp [hb]) q
              rw [h0] at this
              exact absurd this (by decide)
            · exact q
          rw [if_pos (nI_le hD' (by omega))]
        · rw [if_neg h0]
    by_cases hit : lb il p = true ∧ dn p = 0 ∧ lt6 p < D
    · obtain ⟨hb, h0, hd⟩ := hit
      have hb' : ¬ il p = 0 := by
        unfold lb at hb
        simpa using hb
      obtain ⟨ld1, il1, a1, a2, a3, a4, hup1⟩ := grM_let S hO g G D p hp' hd k2 k64 (fX3_grown_b75L k2 k64 m) v (b2i true) dn (upd dn p 1) 6 zF 0 ld il (by omega) (by decide) hI hb (fun l' hl' => absurd hl' (by omega))
      have a1 : fX3_grown_b140L k2 k64 (fX3_grown_b75L k2 k64 m) zF v (nI D) (b2i true) (nI p) 1 (0 : Int32) (ledU S ld il (upd dn p 1)) = _ := a1
      have key : fX3_grown_b75L k2 k64 (m + 1) v (nI D) (b2i mo) (nI p) (ledU S ld il dn) = fX3_grown_b75L k2 k64 m v (nI D) (b2i true) (nI (p + 1)) (ledU S ld1 il1 (upd dn p 1)) := by
        show fX3_grown_b75 k2 k64 (fX3_grown_b75L k2 k64 m) _ _ _ _ _ = _
        unfold fX3_grown_b75
        rw [if_neg (nle64 hp'), zGI_t (vp_in_nI hp' (by decide)), lu_isLed, lu_isDone, nI_clamp (by omega), if_neg hb', zGI_t (vp_in_nI hp' (by decide)), if_pos h0, lettersM p hp', zB1_t rfl, if_neg (nI_ge hd (by omega))]
        unfold fX3_grown_b116
        rw [zGI_t (vp_in_nI hp' (by decide)), zGI_t (vp_in_nI hp' (by decide)), zL_t, lu_isDone, nI_clamp (by omega), (nar_id hdp).2, lu_uD, b2i_or1]
        exact a1
      have hI1 : GM g G D ld1 il1 (upd dn p 1) := by
        refine ⟨a2.1, a2.2.1, fun q hq => ?_, fun q hq hdq => ?_⟩
        · by_cases e : q = p
          · subst e; exact Or.inr pk_us
          · rw [pk_un e]; exact a2.2.2.1 q hq
        · by_cases e : q = p
          · subst e; exact ⟨a3, a4⟩
          · rw [pk_un e] at hdq
            exact a2.2.2.2 q hq hdq
      obtain ⟨ld2, il2, dn2, mo2, i1, i2, i3, i4, i5⟩ := ih m (p + 1) ld1 il1 (upd dn p 1) true (by omega) (by omega) hI1 (fun h => by cases h)
      refine ⟨ld2, il2, dn2, mo2, by rw [key]; exact i1, i2, fun z hz => i3 z (hup1 z hz), ?_, i5⟩
      have hz := cz_upd (dn := dn) h0 64
      rw [if_pos hp'] at hz
      rw [if_pos rfl] at i4
      omega
    · have hx : lb il p = true → lt6 p < D → dn p = 1 := fun hb hd => by
        rcases hdp with h0 | h1
        · exact absurd ⟨hb, h0, hd⟩ hit
        · exact h1
      rw [hgo hx]
      refine ih m (p + 1) ld il dn mo (by omega) (by omega) hI (fun hm p' hp2 hb hd => ?_)
      by_cases e : p' = p
      · subst e; exact hx hb hd
      · exact hno hm p' (by omega) hb hd
/-- given ones of the depth are spanned -/
def GvM (g : Nat → Int64) (D : Nat) (ld : Nat → Int64) (il : Nat → Int32) (i : Nat) : Prop := ∀ i', i' < i → g i' ≠ 0 → dgn (g i') ≤ D → Sp (lb il) ld (g i')
theorem GM.all {g : Nat → Int64} {G D : Nat} {ld : Nat → Int64} {il dn : Nat → Int32} (h : GM g G D ld il dn) (hv : GvM g D ld il G) (hd : ∀ p, p < 64 → lb il p = true → lt6 p < D → dn p = 1) (x : Int64) : Sp (lb il) ld x ↔ Gr g G D x := by
  refine ⟨h.2.1 x, fun hx => hx (Sp (lb il) ld) Gn.z (fun _ _ => Gn.x) (fun i hi h0 hd => hv i hi h0 hd) (closed' h.1 (fun p hp hl hlt => (h.2.2.2 p hp (hd p hp hl hlt)).2))⟩
theorem grM_while (S : MS) (hO : OrdOk S) (g : Nat → Int64) (G D : Nat) (hD : D ≤ 6) (k2 : Int64 → Int32 → MS → Option (Int32 × MS)) (v : Int64) : ∀ (m : Nat) (ld : Nat → Int64) (il dn : Nat → Int32), cz dn 64 + 2 ≤ m → GM g G D ld il dn → GvM g D ld il G →
    ∃ ld' il' dn', (Gr g G D v → fX3_grown_b64L k2 m v (nI D) 1 (ledU S ld il dn) = some (nI D, ledU S ld' il' dn')) ∧ (¬ Gr g G D v → fX3_grown_b64L k2 m v (nI D) 1 (ledU S ld il dn) = k2 v (nI (D + 1)) (ledU S ld' il' dn')) := by
  intro m
  induction m with
  | zero => intro ld il dn h; omega
  | succ m ih =>
    intro ld il dn hm hI hv
    obtain ⟨ld1, il1, dn1, mo, a1, a2, a3, a4, a5⟩ := grM_rnd S hO g G D hD k2 (fX3_grown_b64L k2 m) v 64 zF 0 ld il dn false (by omega) (by decide) hI (fun _ p' hp' => absurd hp' (by omega))
    have hv1 : GvM g D ld1 il1 G := fun i hi h0 hd => a3 _ (hv i hi h0 hd)
    have a1 : fX3_grown_b75L k2 (fX3_grown_b64L k2 m) zF v (nI D) (0 : Int32) (0 : Int32) (ledU S ld il dn) = fX3_grown_b64L k2 m v (nI D) (b2i mo) (ledU S ld1 il1 dn1) := a1
    have key : fX3_grown_b64L k2 (m + 1) v (nI D) 1 (ledU S ld il dn) = fX3_grown_b64L k2 m v (nI D) (b2i mo) (ledU S ld1 il1 dn1) := by
      show fX3_grown_b64 k2 (fX3_grown_b64L k2 m) _ _ _ _ = _
      unfold fX3_grown_b64
      rw [if_neg (by decide)]
      exact a1
    cases mo with
    | true =>
      rw [if_pos rfl, if_neg (by decide)] at a4
      obtain ⟨ld2, il2, dn2, i1, i2⟩ := ih ld1 il1 dn1 (by omega) a2 hv1
      refine ⟨ld2, il2, dn2, fun h => ?_, fun h => ?_⟩
      · rw [key]; exact i1 h
      · rw [key]; exact i2 h
    | false =>
      obtain ⟨m, rfl⟩ : ∃ q, m = q + 1 := ⟨m - 1, by omega⟩
      have hall := a2.all hv1 (a5 rfl)
      have key2 : fX3_grown_b64L k2 (m + 1 + 1) v (nI D) 1 (ledU S ld il dn) = if rdn (lb il1) ld1 64 v = 0 then some (nI D, ledU S ld1 il1 dn1) else k2 v (nI (D + 1)) (ledU S ld1 il1 dn1) := by
        rw [key]
        show fX3_grown_b64 k2 (fX3_grown_b64L k2 m) _ _ _ _ = _
        unfold fX3_grown_b64
        rw [if_pos (by decide), redM _ (lu_ord hO ld1 il1 dn1), zB2_t rfl, ifl0, lu_ldM, lu_led, nI_1]
      refine ⟨ld1, il1, dn1, fun h => ?_, fun h => ?_⟩
      · rw [key2, if_pos ((sp_iff a2.1 v).mp ((hall v).mpr h))]
      · rw [key2, if_neg (fun q => h ((hall v).mp ((sp_iff a2.1 v).mpr q)))]
theorem inM {x D : Nat} (hx : x < 2 ^ 31) (hD : D < 2 ^ 31) : fX3_in (nI x) 0 (nI D) = some (if x ≤ D then 1 else 0) := by
  unfold fX3_in
  rw [if_neg (nI_pos hx)]
  by_cases h : x ≤ D
  · rw [if_neg (fun q => by have := (nI_ltI hD hx).mp q; omega), if_pos h]
  · rw [if_pos (nI_lt (by omega) hx), if_neg h]
theorem grM_giv (S : MS) (hO : OrdOk S) (G D : Nat) (hG : G ≤ 8) (hg : m_given S = nI G) (hD : D ≤ 6) (k2 : Int64 → Int32 → MS → Option (Int32 × MS)) (v : Int64) (dn : Nat → Int32) : ∀ (d m i : Nat) (ld : Nat → Int64) (il : Nat → Int32), i + d = G → d < m → GM (m_line S) G D ld il dn → GvM (m_line S) D ld il i →
    ∃ ld' il', fX3_grown_b15L k2 m v (nI D) (nI i) (ledU S ld il dn) = fX3_grown_b64L k2 zF v (nI D) 1 (ledU S ld' il' dn) ∧ GM (m_line S) G D ld' il' dn ∧ GvM (m_line S) D ld' il' G := by
  intro d
  induction d with
  | zero =>
    intro m i ld il hi hm hI hv
    obtain ⟨m, rfl⟩ : ∃ q, m = q + 1 := ⟨m - 1, by omega⟩
    have : i = G := by omega
    subst this
    refine ⟨ld, il, ?_, hI, hv⟩
    show fX3_grown_b15 k2 (fX3_grown_b15L k2 m) _ _ _ _ = _
    unfold fX3_grown_b15
    rw [lu_given, hg, if_pos (nI_le (Nat.le_refl i) (by omega))]
  | succ d ih =>
    intro m i ld il hi hm hI hv
    obtain ⟨m, rfl⟩ : ∃ q, m = q + 1 := ⟨m - 1, by omega⟩
    have hi32 : i < 32 := by omega
    have hd6 := dgn_le (m_line S i)
    show ∃ ld' il', fX3_grown_b15 k2 (fX3_grown_b15L k2 m) _ _ _ _ = _ ∧ _
    unfold fX3_grown_b15
    rw [lu_given, hg, if_neg (nI_ge (by omega) (by omega)), zGI_t (vp_in_nI hi32 (by decide)), lu_line, nI_clamp (by omega), degM _ _ (lu_ord hO ld il dn), zB2_t rfl]
    by_cases hq : m_line S i ≠ 0 ∧ dgn (m_line S i) ≤ D
    · obtain ⟨r, ld1, il1, a1, a2, a3, a4, -⟩ := hI.join hO dn (Gr.g (show i < G by omega) hq.1 hq.2)
      rw [dgv_dgn hq.1, inM (by omega) (by omega), if_pos hq.2, zB1_t rfl, if_neg (by decide), zGI_t (vp_in_nI hi32 (by decide)), lu_line, a1, zB2_t rfl]
      unfold fX3_grown_b55
      rw [nI_1]
      refine ih m (i + 1) ld1 il1 (by omega) (by omega) a2 (fun i' hi' h0 hd => ?_)
      by_cases e : i' = i
      · subst e; exact a4
      · exact a3 _ (hv i' (by omega) h0 hd)
    · have hin : fX3_in (dgv (m_line S i)) 0 (nI D) = some 0 := by
        by_cases h0 : m_line S i = 0
        · rw [h0, dgv_0]
          unfold fX3_in
          rw [if_pos (by decide)]
        · rw [dgv_dgn h0, inM (by omega) (by omega), if_neg (fun q => hq ⟨h0, q⟩)]
      rw [hin, zB1_t rfl, if_pos rfl]
      unfold fX3_grown_b55
      rw [nI_1]
      refine ih m (i + 1) ld il (by omega) (by omega) hI (fun i' hi' h0 hd => ?_)
      by_cases e : i' = i
      · subst e; exact absurd ⟨h0, hd⟩ hq
      · exact hv i' (by omega) h0 hd
theorem lu_lu (S : MS) (ld ld2 : Nat → Int64) (il dn il2 dn2 : Nat → Int32) : ledU (ledU S ld il dn) ld2 il2 dn2 = ledU S ld2 il2 dn2 := rfl
theorem grM_l (S : MS) (hO : OrdOk S) (G : Nat) (hG : G ≤ 8) (hg : m_given S = nI G) (v : Int64) : ∀ (d m D : Nat) (ld : Nat → Int64) (il dn : Nat → Int32), D + d = 7 → d < m → (∀ e, e < D → ¬ Gr (m_line S) G e v) →
    ∃ r ld' il' dn', fX3_grown_b2L m v (nI D) (ledU S ld il dn) = some (r, ledU S ld' il' dn') ∧ LeD (fun e => Gr (m_line S) G (min e 6) v) r := by
  intro d
  induction d with
  | zero =>
    intro m D ld il dn hD hm hno
    obtain ⟨m, rfl⟩ : ∃ q, m = q + 1 := ⟨m - 1, by omega⟩
    have : D = 7 := by omega
    subst this
    refine ⟨-9, ld, il, dn, ?_, Or.inr ⟨fun e he => ?_, rfl⟩⟩
    · show fX3_grown_b2 (fX3_grown_b2L m) _ _ _ = _
      unfold fX3_grown_b2
      rw [if_pos (by decide)]
    · exact hno (min e 6) (by omega) he
  | succ d ih =>
    intro m D ld il dn hD hm hno
    obtain ⟨m, rfl⟩ : ∃ q, m = q + 1 := ⟨m - 1, by omega⟩
    obtain ⟨il0, dn0, f1, f2⟩ := forgetsM (ledU S ld il dn)
    rw [lu_lu, lu_led] at f1
    have hb : ∀ p, p < 64 → lb il0 p = false := fun p hp => by unfold lb; rw [(f2 p hp).1]; rfl
    have hI0 : GM (m_line S) G D ld il0 dn0 := by
      refine ⟨fun j hj hl => ?_, fun x hx => ?_, fun p hp => Or.inl (f2 p hp).2, fun p hp hd => ?_⟩
      · rw [hb _ (ord_lt j hj)] at hl
        cases hl
      · refine hx (Gr (m_line S) G D) Gr.z (fun _ _ => Gr.x) ?_
        rintro y ⟨p, hp, hl, -⟩
        rw [hb p hp] at hl
        cases hl
      · rw [(f2 p hp).2] at hd
        exact absurd hd (by decide)
    obtain ⟨ld1, il1, a1, a2, a3⟩ := grM_giv S hO G D hG hg (by omega) (fX3_grown_b2L m) v dn0 G zF 0 ld il0 (by omega) (by unfold zF; omega) hI0 (fun i' hi' => absurd hi' (by omega))
    obtain ⟨ld2, il2, dn2, b1, b2⟩ := grM_while S hO (m_line S) G D (by omega) (fX3_grown_b2L m) v zF ld1 il1 dn0 (by have := cz_le dn0 64; unfold zF; omega) a2 a3
    have key : fX3_grown_b2L (m + 1) v (nI D) (ledU S ld il dn) = fX3_grown_b64L (fX3_grown_b2L m) zF v (nI D) 1 (ledU S ld1 il1 dn0) := by
      show fX3_grown_b2 (fX3_grown_b2L m) _ _ _ = _
      unfold fX3_grown_b2
      rw [if_neg (show ¬ (7 : Int32) ≤ nI D from nI_ge (a := D) (b := 7) (by omega) (by decide)), f1, zB1_t rfl]
      exact a1
    rw [key]
    by_cases hv : Gr (m_line S) G D v
    · refine ⟨nI D, ld2, il2, dn2, b1 hv, Or.inl ⟨D, rfl, by omega, ?_, fun e he => ?_⟩⟩
      · show Gr (m_line S) G (min D 6) v
        rw [Nat.min_eq_left (by omega)]
        exact hv
      · rcases Nat.lt_or_ge e D with q | q
        · have he : Gr (m_line S) G (min e 6) v := he
          rw [Nat.min_eq_left (by omega)] at he
          exact absurd he (hno e q)
        · exact q
    · rw [b2 hv]
      refine ih m (D + 1) ld2 il2 dn2 (by omega) (by omega) (fun e he => ?_)
      rcases Nat.lt_or_ge e D with q | q
      · exact hno e q
      · have : e = D := by omega
        subst this
        exact hv
theorem grownM (S : MS) (hO : OrdOk S) (G : Nat) (hG : G ≤ 8) (hg : m_given S = nI G) (v : Int64) : ∃ r ld' il' dn', fX3_grown v S = some (r, ledU S ld' il' dn') ∧ LeD (fun e => Gr (m_line S) G (min e 6) v) r :=
  grM_l S hO G hG hg v 7 zF 0 (m_led S) (m_isLed S) (m_isDone S) (by omega) (by decide) (fun e he => absurd he (by omega))
