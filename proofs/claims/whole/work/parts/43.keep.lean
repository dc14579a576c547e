/-! ===== the class's Span: a row more ===== -/
def kpS (S : SS) (n p : Nat) (y : Int64) (d : Nat) : SS := (vp_updL (s_rows S) p y, upd (s_levels S) p (nI d), upd (s_came S) n (nI p), s_leads S ||| e1 p, nI (n + 1))
theorem keepX (S : SS) {n p : Nat} (hn : n < 64) (hp : p < 64) (hs : s_size S = nI n) (y : Int64) (d : Nat) : fX0_keep (nI p) y (nI d) S = some (kpS S n p y d) := by
  obtain ⟨rows, levels, came, leads, size⟩ := S
  have hs : size = nI n := hs
  subst hs
  have hc : (nI p).toNatClampNeg = p := nI_clamp (by omega)
  have hcn : (nI n).toNatClampNeg = n := nI_clamp (by omega)
  unfold fX0_keep
  rw [if_neg (show ¬ (64 : Int32) ≤ s_size (rows, levels, came, leads, nI n) from nle64 hn)]
  simp only [zL_t]
  rw [zGI_t (vp_in_nI hp (by decide)), zGI_t (vp_in_nI hp (by decide))]
  show zGI (nI n) 64 _ = _
  rw [zGI_t (vp_in_nI hn (by decide)), hc]
  show some (vp_updL rows p y, upd levels p (nI d), upd came (nI n).toNatClampNeg (nI p), leads ||| ((1 : Int64) <<< ((nI p).toInt64 &&& 63)), nI n + 1) = _
  rw [hcn, e1_shl p hp, nI_1]
  rfl
def SpOk (S : SS) (n : Nat) (L c : Nat → Nat) : Prop := Ech (ldX S) (s_rows S) ∧ s_size S = nI n ∧ popc (s_leads S) = n ∧ (∀ p, p < 64 → ldX S p = true → s_levels S p = nI (L p) ∧ L p ≤ 12) ∧ (∀ k, k < n → c k < 64 ∧ s_came S k = nI (c k) ∧ ldX S (c k) = true) ∧ ∀ p, p < 64 → ldX S p = true → ∃ k, k < n ∧ c k = p
theorem SpOk.keep {S : SS} {n : Nat} {L c : Nat → Nat} {x y : Int64} {j d : Nat} (h : SpOk S n L c) (hs : Sp (ldX S) (s_rows S) (x ^^^ y)) (hl : ltop y 64 = some j) (hn : ldX S (ord j) = false) (hd : d ≤ 12) :
    fX0_keep (nI (ord j)) y (nI d) S = some (kpS S n (ord j) y d) ∧ SpOk (kpS S n (ord j) y d) (n + 1) (fun p => if p = ord j then d else L p) (fun k => if k = n then ord j else c k) ∧
    (∀ p, p < 64 → ldX (kpS S n (ord j) y d) p = (decide (p = ord j) || ldX S p)) ∧ (∀ p, p ≠ ord j → s_rows (kpS S n (ord j) y d) p = s_rows S p) ∧ ∀ z, Sp (ldX (kpS S n (ord j) y d)) (s_rows (kpS S n (ord j) y d)) z ↔ Gn (fun g => Sp (ldX S) (s_rows S) g ∨ g = x) z := by
  obtain ⟨a1, a2, a3, a4, a5, a6⟩ := h
  have hj := (ltop_some hl).1
  have hp := ord_lt j hj
  have hlt : n < 64 := by rw [← a3]; exact popc_lt hp hn
  have hld : ∀ p, p < 64 → ldX (kpS S n (ord j) y d) p = (decide (p = ord j) || ldX S p) := fun p hp' => by
    show tb (s_leads S ||| e1 (ord j)) p = _
    rw [tb_or_e1 _ hp hp', Bool.or_comm]
    rfl
  have hrw : ∀ p, s_rows (kpS S n (ord j) y d) p = if p = ord j then y else s_rows S p := fun p => rfl
  have hadd := add_ok (ld' := ldX (kpS S n (ord j) y d)) (rw' := s_rows (kpS S n (ord j) y d)) a1 hs hl hn hld (fun p _ _ => hrw p)
  refine ⟨keepX S hlt hp a2 y d, ⟨hadd.1, rfl, ?_, ?_, ?_, ?_⟩, hld, fun p hne => by rw [hrw, if_neg hne], hadd.2⟩
  · show popc (s_leads S ||| e1 (ord j)) = n + 1
    rw [popc_add hp hn, a3]
  · intro p hp' ht
    show upd (s_levels S) (ord j) (nI d) p = _ ∧ _
    by_cases e : p = ord j
    · subst e
      simp only [if_true]
      exact ⟨pk_us, hd⟩
    · rw [hld p hp'] at ht
      simp [e] at ht
      simp only [e, if_false]
      rw [pk_un e]
      exact a4 p hp' ht
  · intro k hk
    show (if k = n then ord j else c k) < 64 ∧ upd (s_came S) n (nI (ord j)) k = nI (if k = n then ord j else c k) ∧ ldX _ (if k = n then ord j else c k) = true
    by_cases e : k = n
    · subst e
      simp only [if_true]
      exact ⟨hp, pk_us, by rw [hld _ hp]; simp⟩
    · obtain ⟨b1, b2, b3⟩ := a5 k (by omega)
      simp only [e, if_false]
      exact ⟨b1, by rw [pk_un e]; exact b2, by rw [hld _ b1, b3]; simp⟩
  · intro p hp' ht
    by_cases e : p = ord j
    · exact ⟨n, by omega, by simp [e]⟩
    · rw [hld p hp'] at ht
      simp [e] at ht
      obtain ⟨k, hk, e2⟩ := a6 p hp' ht
      have : k ≠ n := by omega
      exact ⟨k, by omega, by simp [this, e2]⟩
