/-! ===== the class's standing, left, level, told by value ===== -/
theorem FolOk.sp {S : SS} {g : Nat → Int64} {G : Nat} (h : FolOk S g G) (x : Int64) : Sp (ldX S) (s_rows S) x ↔ rv (cmn g G) x = 0 := by
  obtain ⟨n, L, c, hS, hF⟩ := h
  have hL : ∀ p, p < 64 → ldX S p = true → L p ≤ 12 := fun p hp hl => (hS.2.2.2.1 p hp hl).2
  rw [← sp_top hL (Nat.le_refl 12) x, hF 12 x]
  exact ⟨fun q => ideal' (q.sub (fun y hy => MultD_M hy)), fun q => (ideal q).sub (fun y hy => Mult_D hy)⟩
theorem FolOk.ech {S : SS} {g : Nat → Int64} {G : Nat} (h : FolOk S g G) : Ech (ldX S) (s_rows S) := by
  obtain ⟨n, L, c, hS, hF⟩ := h
  exact hS.1
theorem FolOk.li {S : SS} {g : Nat → Int64} {G : Nat} (h : FolOk S g G) {j : Nat} (hj : j < 64) : ldX S (ord j) = true ↔ LI (cmn g G) j := by
  constructor
  · exact fun hl => lead_li h.ech (fun x hx => (h.sp x).mp hx) hj hl
  · rintro ⟨x, hx, hl⟩
    exact sp_lead h.ech ((h.sp x).mpr hx) hl
theorem FolOk.standing {S : SS} {g : Nat → Int64} {G : Nat} (h : FolOk S g G) {st : Int64} {vec mk : Nat → Int64} {k : Nat} {pv : Nat → Nat} {P : Int64} (hI : StI (cmn g G) st vec mk k 64 pv P) : s_leads S ^^^ (-1) = st := by
  apply ord_ext
  intro j hj
  rw [tb_not (ord_lt j hj)]
  have h1 := h.li hj
  have h2 := hI.li j hj
  have h1 : tb (s_leads S) (ord j) = true ↔ LI (cmn g G) j := h1
  cases ha : tb (s_leads S) (ord j) <;> cases hb : tb st (ord j)
  · exfalso
    have : LI (cmn g G) j := by
      apply Classical.byContradiction
      intro q
      have := h2.mpr q
      rw [hb] at this
      cases this
    have := h1.mpr this
    rw [ha] at this
    cases this
  · rfl
  · rfl
  · exact absurd (h1.mp ha) (h2.mp hb)
theorem FolOk.left {S : SS} {g : Nat → Int64} {G : Nat} (h : FolOk S g G) {st : Int64} {vec mk : Nat → Int64} {k : Nat} {pv : Nat → Nat} {P : Int64} (hI : StI (cmn g G) st vec mk k 64 pv P) (x : Int64) : rdn (ldX S) (s_rows S) 64 x = (brs vec mk k (rv (cmn g G) x)).2 := by
  obtain ⟨l1, l2⟩ := hI.left x
  refine left_one (cm := cmn g G) ?_ (fun i hi ht hLI => ?_) (fun i hi ht => (hI.li i hi).mp (l2 _ (ord_lt i hi) ht))
  · rw [l1]
    have := (h.sp _).mp (rdn_in (ldX S) (s_rows S) 64 (Nat.le_refl 64) x)
    rw [rv_xor] at this
    exact (xor_eq0 this).symm
  · have := rdn_lo h.ech 64 x (Nat.le_refl 64) i hi ((h.li hi).mpr hLI)
    rw [ht] at this
    cases this
/-! the least depth -/
def LeD (F : Nat → Prop) (r : Int32) : Prop := (∃ m, r = nI m ∧ m ≤ 12 ∧ F m ∧ ∀ d, F d → m ≤ d) ∨ ((∀ d, ¬ F d) ∧ r = -9)
theorem LeD.one {F : Nat → Prop} {r q : Int32} (h : LeD F r) (k : LeD F q) : r = q := by
  rcases h with ⟨m, e1, -, f1, l1⟩ | ⟨n1, e1⟩ <;> rcases k with ⟨m2, e2, -, f2, l2⟩ | ⟨n2, e2⟩
  · have : m = m2 := Nat.le_antisymm (l1 m2 f2) (l2 m f1)
    rw [e1, e2, this]
  · exact absurd f1 (n2 m)
  · exact absurd f2 (n1 m2)
  · rw [e1, e2]
theorem LeD.cong {F F' : Nat → Prop} {r : Int32} (h : LeD F r) (hF : ∀ d, F d ↔ F' d) : LeD F' r := by
  have : F = F' := funext (fun d => propext (hF d))
  rw [← this]
  exact h
theorem lvl_LeD {S : SS} {n : Nat} {L c : Nat → Nat} (hS : SpOk S n L c) (x : Int64) : LeD (fun d => Sp (ldd (ldX S) L d) (s_rows S) x) (lvl (ldX S) (s_rows S) (s_levels S) 64 x 0) := by
  have h := lvl_at (lev := s_levels S) hS.1 hS.2.2.2.1 x
  by_cases hx : Sp (ldX S) (s_rows S) x
  · obtain ⟨m, m1, m2, m3, m4⟩ := h.1 hx
    exact Or.inl ⟨m, m1, m2, m3, m4⟩
  · refine Or.inr ⟨fun d hd => hx ?_, h.2 hx⟩
    refine Gn.sub ?_ hd
    rintro y ⟨p, hp, hl, rfl⟩
    unfold ldd at hl
    simp only [Bool.and_eq_true] at hl
    exact ⟨p, hp, hl.1, rfl⟩
theorem FolOk.level {S : SS} {g : Nat → Int64} {G : Nat} (h : FolOk S g G) (x : Int64) : LeD (fun d => Gn (MultD g G d) x) (lvl (ldX S) (s_rows S) (s_levels S) 64 x 0) := by
  obtain ⟨n, L, c, hS, hF⟩ := h
  exact (lvl_LeD hS x).cong (fun d => hF d x)
