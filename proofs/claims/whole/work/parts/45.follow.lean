/-! ===== the class's makeFollowing(): the rows by their depth ===== -/
def dgn (s : Int64) : Nat := match ltop s 64 with
  | some j => lt6 (ord j)
  | none => 0
theorem dgn_le (s : Int64) : dgn s ≤ 6 := by
  unfold dgn
  cases h : ltop s 64 with
  | none => exact Nat.zero_le 6
  | some j => exact lt6_le _ (ord_lt j (ltop_some h).1)
theorem dgv_dgn {s : Int64} (h : s ≠ 0) : dgv s = nI (dgn s) := by
  unfold dgv dgn
  cases hl : ltop s 64 with
  | none => exact absurd (ltop_zero hl) h
  | some j => rfl
theorem dgv_0 : dgv 0 = -9 := by
  unfold dgv
  rw [ltop_0]
def MultD (g : Nat → Int64) (G d : Nat) (y : Int64) : Prop := ∃ i p, i < G ∧ p < 64 ∧ g i ≠ 0 ∧ y = mul (g i) (e1 p) ∧ lt6 p + dgn (g i) ≤ d
def MV (g : Nat → Int64) (G d D i p : Nat) (y : Int64) : Prop := ∃ i' p', i' < G ∧ p' < 64 ∧ g i' ≠ 0 ∧ y = mul (g i') (e1 p') ∧ lt6 p' + dgn (g i') ≤ d ∧ (lt6 p' + dgn (g i') < D ∨ (lt6 p' + dgn (g i') = D ∧ (i' < i ∨ (i' = i ∧ p' < p))))
theorem MV.hit {g : Nat → Int64} {G D i p : Nat} (hi : i < G) (hp : p < 64) (h0 : g i ≠ 0) (hd : lt6 p + dgn (g i) = D) (e : Nat) (he : e ≤ D) (y : Int64) : (MV g G e D i p y ∨ (e = D ∧ y = mul (g i) (e1 p))) ↔ MV g G e D i (p + 1) y := by
  constructor
  · rintro (⟨i', p', a1, a2, a3, a4, a5, a6⟩ | ⟨rfl, rfl⟩)
    · exact ⟨i', p', a1, a2, a3, a4, a5, by omega⟩
    · exact ⟨i, p, hi, hp, h0, rfl, by omega, Or.inr ⟨hd, Or.inr ⟨rfl, by omega⟩⟩⟩
  · rintro ⟨i', p', a1, a2, a3, a4, a5, a6⟩
    by_cases hq : i' = i ∧ p' = p
    · obtain ⟨rfl, rfl⟩ := hq
      exact Or.inr ⟨by omega, a4⟩
    · exact Or.inl ⟨i', p', a1, a2, a3, a4, a5, by omega⟩
theorem MV.miss {g : Nat → Int64} {G D i p : Nat} (hd : lt6 p + dgn (g i) ≠ D) (e : Nat) (y : Int64) : MV g G e D i p y ↔ MV g G e D i (p + 1) y := by
  constructor
  · rintro ⟨i', p', a1, a2, a3, a4, a5, a6⟩
    exact ⟨i', p', a1, a2, a3, a4, a5, by omega⟩
  · rintro ⟨i', p', a1, a2, a3, a4, a5, a6⟩
    by_cases hq : i' = i ∧ p' = p
    · obtain ⟨rfl, rfl⟩ := hq
      exact ⟨i', p', a1, a2, a3, a4, a5, by omega⟩
    · exact ⟨i', p', a1, a2, a3, a4, a5, by omega⟩
theorem MV.row {g : Nat → Int64} {G D i : Nat} (e : Nat) (y : Int64) : MV g G e D i 64 y ↔ MV g G e D (i + 1) 0 y := by
  constructor
  · rintro ⟨i', p', a1, a2, a3, a4, a5, a6⟩
    exact ⟨i', p', a1, a2, a3, a4, a5, by omega⟩
  · rintro ⟨i', p', a1, a2, a3, a4, a5, a6⟩
    exact ⟨i', p', a1, a2, a3, a4, a5, by omega⟩
theorem MV.row0 {g : Nat → Int64} {G D i : Nat} (h0 : g i = 0) (e : Nat) (y : Int64) : MV g G e D i 0 y ↔ MV g G e D (i + 1) 0 y := by
  constructor
  · rintro ⟨i', p', a1, a2, a3, a4, a5, a6⟩
    exact ⟨i', p', a1, a2, a3, a4, a5, by omega⟩
  · rintro ⟨i', p', a1, a2, a3, a4, a5, a6⟩
    have : i' ≠ i := fun q => a3 (by rw [q, h0])
    exact ⟨i', p', a1, a2, a3, a4, a5, by omega⟩
theorem MV.deep {g : Nat → Int64} {G D : Nat} (e : Nat) (y : Int64) : MV g G e D G 0 y ↔ MV g G e (D + 1) 0 0 y := by
  constructor
  · rintro ⟨i', p', a1, a2, a3, a4, a5, a6⟩
    exact ⟨i', p', a1, a2, a3, a4, a5, by omega⟩
  · rintro ⟨i', p', a1, a2, a3, a4, a5, a6⟩
    exact ⟨i', p', a1, a2, a3, a4, a5, by omega⟩
theorem LvI.up {S : SS} {n : Nat} {L c : Nat → Nat} {D : Nat} {g : Nat → Int64} {G : Nat} (h : LvI S n L c D (fun e => MV g G e D G 0)) : LvI S n L c (D + 1) (fun e => MV g G e (D + 1) 0 0) := by
  have hall := h.all
  obtain ⟨hS, hL, hF⟩ := h
  refine ⟨hS, fun p hp hl => Nat.le_succ_of_le (hL p hp hl), fun d hd x => ?_⟩
  rcases Nat.lt_or_ge D d with hlt | hge
  · have : d = D + 1 := by omega
    subst this
    rw [sp_top hL (by omega) x, hall x]
    constructor
    · intro hx
      refine hx.sub (fun y hy => ?_)
      obtain ⟨i', p', a1, a2, a3, a4, a5, a6⟩ := hy
      exact ⟨i', p', a1, a2, a3, a4, by omega, by omega⟩
    · intro hx
      refine hx.sub (fun y hy => ?_)
      obtain ⟨i', p', a1, a2, a3, a4, a5, a6⟩ := hy
      exact ⟨i', p', a1, a2, a3, a4, by omega, by omega⟩
  · rw [hF d hge x]
    exact ⟨fun hx => hx.sub (fun y hy => (MV.deep d y).mp hy), fun hx => hx.sub (fun y hy => (MV.deep d y).mpr hy)⟩
theorem lt_ok : ∀ a, a < 7 → ∀ D, D < 13 → ∀ q, q < 7 → (nI a = nI D - nI q ↔ a + q = D) := by decide +kernel
theorem xf_g (X : XS) (S : SS) : x_following (x_following_u X S) = S := rfl
theorem xf_u (X : XS) (S S' : SS) : x_following_u (x_following_u X S) S' = x_following_u X S' := rfl
theorem xf_sums (X : XS) (S : SS) : x_lineSums (x_following_u X S) = x_lineSums X := rfl
theorem xf_given (X : XS) (S : SS) : x_givenLines (x_following_u X S) = x_givenLines X := rfl
theorem addMulX (X : XS) (g : Nat → Int64) (G D i : Nat) (hi : i < G) (hD : D ≤ 12) (h0 : g i ≠ 0) : ∀ (d n p : Nat) (S : SS) (m : Nat) (L c : Nat → Nat), p + d = 64 → d < n → LvI S m L c D (fun e => MV g G e D i p) →
    ∃ S' m' L' c', fX2_addMultiples_b3L n (g i) (nI D - nI (dgn (g i))) (nI D) (nI p) (x_following_u X S) = some (x_following_u X S') ∧ LvI S' m' L' c' D (fun e => MV g G e D i 64) := by
  intro d
  induction d with
  | zero =>
    intro n p S m L c hp hn hI
    obtain ⟨n, rfl⟩ : ∃ k, n = k + 1 := ⟨n - 1, by omega⟩
    have : p = 64 := by omega
    subst this
    refine ⟨S, m, L, c, ?_, hI⟩
    show fX2_addMultiples_b3 (fX2_addMultiples_b3L n) _ _ _ _ _ = _
    unfold fX2_addMultiples_b3
    rw [if_pos (by decide)]
  | succ d ih =>
    intro n p S m L c hp hn hI
    obtain ⟨n, rfl⟩ : ∃ k, n = k + 1 := ⟨n - 1, by omega⟩
    have hp' : p < 64 := by omega
    have hlt := lt6_le p hp'
    have hdg := dgn_le (g i)
    have hok := lt_ok (lt6 p) (by omega) D (by omega) (dgn (g i)) (by omega)
    show ∃ S' m' L' c', fX2_addMultiples_b3 (fX2_addMultiples_b3L n) _ _ _ _ _ = _ ∧ _
    unfold fX2_addMultiples_b3
    rw [if_neg (nle64 hp'), countI p hp', zB1_t rfl]
    by_cases hq : lt6 p + dgn (g i) = D
    · rw [if_pos (hok.mpr hq), e1_shl p hp', mulX, zB1_t rfl, xf_g]
      obtain ⟨S1, m1, L1, c1, a1, a2, -⟩ := hI.add hD (mul (g i) (e1 p))
      rw [a1, zB1_t rfl, zL_t, xf_u]
      unfold fX2_addMultiples_b36
      rw [nI_1]
      exact ih n (p + 1) S1 m1 L1 c1 (by omega) (by omega) (a2.cong (fun e he y => MV.hit hi hp' h0 hq e he y))
    · rw [if_neg (fun q => hq (hok.mp q))]
      unfold fX2_addMultiples_b36
      rw [nI_1]
      exact ih n (p + 1) S m L c (by omega) (by omega) (hI.cong (fun e _ y => MV.miss hq e y))
theorem folX_in (X : XS) (G D : Nat) (hG : G ≤ 8) (hg : x_givenLines X = nI G) (hD : D ≤ 12) (K : Int32 → Int32 → XS → Option XS) (v1 : Int32) : ∀ (d n i : Nat) (S : SS) (m : Nat) (L c : Nat → Nat), i + d = G → d < n → LvI S m L c D (fun e => MV (x_lineSums X) G e D i 0) →
    ∃ S' m' L' c', fX2_makeFollowing_b47L K n v1 (nI D) (nI i) (x_following_u X S) = K v1 (nI (D + 1)) (x_following_u X S') ∧ LvI S' m' L' c' D (fun e => MV (x_lineSums X) G e D G 0) := by
  intro d
  induction d with
  | zero =>
    intro n i S m L c hi hn hI
    obtain ⟨n, rfl⟩ : ∃ k, n = k + 1 := ⟨n - 1, by omega⟩
    have : i = G := by omega
    subst this
    refine ⟨S, m, L, c, ?_, hI⟩
    show fX2_makeFollowing_b47 K (fX2_makeFollowing_b47L K n) _ _ _ _ = _
    unfold fX2_makeFollowing_b47
    rw [xf_given, hg, if_pos (nI_le (Nat.le_refl i) (by omega))]
    unfold fX2_makeFollowing_b100
    rw [nI_1]
  | succ d ih =>
    intro n i S m L c hi hn hI
    obtain ⟨n, rfl⟩ : ∃ k, n = k + 1 := ⟨n - 1, by omega⟩
    have hi8 : i < 8 := by omega
    have hi32 : i < 32 := by omega
    show ∃ S' m' L' c', fX2_makeFollowing_b47 K (fX2_makeFollowing_b47L K n) _ _ _ _ = _ ∧ _
    unfold fX2_makeFollowing_b47
    rw [xf_given, hg, if_neg (nI_ge (by omega) (by omega)), if_neg (show ¬ (8 : Int32) ≤ nI i from nI_ge hi8 (by decide)), zGI_t (vp_in_nI hi32 (by decide)), xf_sums, nI_clamp (by omega), ifl0]
    by_cases h0 : x_lineSums X i = 0
    · rw [if_pos h0]
      unfold fX2_makeFollowing_b94
      rw [nI_1]
      exact ih n (i + 1) S m L c (by omega) (by omega) (hI.cong (fun e _ y => MV.row0 h0 e y))
    · rw [if_neg h0, zGI_t (vp_in_nI hi32 (by decide)), zGI_t (vp_in_nI hi32 (by decide)), degX, zB1_t rfl, dgv_dgn h0]
      obtain ⟨S1, m1, L1, c1, a1, a2⟩ := addMulX X (x_lineSums X) G D i (by omega) hD h0 64 zF 0 S m L c (by omega) (by decide) hI
      have a1 : fX2_addMultiples (x_lineSums X i) (nI D - nI (dgn (x_lineSums X i))) (nI D) (x_following_u X S) = some (x_following_u X S1) := a1
      rw [a1, zB1_t rfl]
      unfold fX2_makeFollowing_b94
      rw [nI_1]
      exact ih n (i + 1) S1 m1 L1 c1 (by omega) (by omega) (a2.cong (fun e _ y => MV.row e y))
def FolOk (S : SS) (g : Nat → Int64) (G : Nat) : Prop := ∃ n L c, SpOk S n L c ∧ ∀ d x, Sp (ldd (ldX S) L d) (s_rows S) x ↔ Gn (MultD g G d) x
theorem MV_D {g : Nat → Int64} {G d D : Nat} {y : Int64} (h : MV g G d D 0 0 y) : MultD g G d y := by
  obtain ⟨i', p', a1, a2, a3, a4, a5, a6⟩ := h
  exact ⟨i', p', a1, a2, a3, a4, a5⟩
theorem LvI.fol {S : SS} {n : Nat} {L c : Nat → Nat} {D : Nat} {g : Nat → Int64} {G : Nat} (h : LvI S n L c D (fun e => MV g G e D 0 0)) (hx : ∀ d x, D ≤ d → Gn (MultD g G d) x → Sp (ldX S) (s_rows S) x) : FolOk S g G := by
  have hall := h.all
  obtain ⟨hS, hL, hF⟩ := h
  refine ⟨n, L, c, hS, fun d x => ?_⟩
  rcases Nat.lt_or_ge d D with hlt | hge
  · rw [hF d (by omega) x]
    constructor
    · exact fun q => q.sub (fun y hy => MV_D hy)
    · intro q
      refine q.sub ?_
      rintro y ⟨i, p, a1, a2, a3, a4, a5⟩
      exact ⟨i, p, a1, a2, a3, a4, a5, by omega⟩
  · rw [sp_top hL hge x]
    constructor
    · intro q
      refine ((hall x).mp q).sub (fun y hy => ?_)
      obtain ⟨i, p, a1, a2, a3, a4, a5⟩ := MV_D hy
      exact ⟨i, p, a1, a2, a3, a4, by omega⟩
    · exact hx d x hge
theorem MultD_M {g : Nat → Int64} {G d : Nat} {y : Int64} (h : MultD g G d y) : Mult g G y := by
  obtain ⟨i, p, a1, a2, a3, a4, -⟩ := h
  exact ⟨i, a1, a3, p, a2, a4⟩
theorem Mult_D {g : Nat → Int64} {G : Nat} {y : Int64} (h : Mult g G y) : MultD g G 12 y := by
  obtain ⟨i, a1, a3, p, a2, a4⟩ := h
  have := lt6_le p a2
  have := dgn_le (g i)
  exact ⟨i, p, a1, a2, a3, a4, by omega⟩
theorem ech_ltop {ld : Nat → Bool} {rw : Nat → Int64} (hE : Ech ld rw) {j : Nat} (hj : j < 64) (hl : ld (ord j) = true) : ltop (rw (ord j)) 64 = some j := ltop_of hj (hE j hj hl).1 (hE j hj hl).2
theorem lead_li {S : SS} {cm : Int64} (hE : Ech (ldX S) (s_rows S)) (hr : ∀ x, Sp (ldX S) (s_rows S) x → rv cm x = 0) {j : Nat} (hj : j < 64) (hl : ldX S (ord j) = true) : LI cm j :=
  ⟨s_rows S (ord j), hr _ (Gn.g ⟨ord j, ord_lt j hj, hl, rfl⟩), ech_ltop hE hj hl⟩
theorem full {S : SS} {n : Nat} {L c : Nat → Nat} {cm st : Int64} {vec mk : Nat → Int64} {k : Nat} {pv : Nat → Nat} {P : Int64} (hS : SpOk S n L c) (hI : StI cm st vec mk k 64 pv P) (hr : ∀ x, Sp (ldX S) (s_rows S) x → rv cm x = 0) (hn : 64 - popc cm ≤ n) (x : Int64) (hx : rv cm x = 0) : Sp (ldX S) (s_rows S) x := by
  have hst : s_leads S = st ^^^ (-1) := by
    refine popc_eq (fun p hp ht => ?_) ?_
    · rw [tb_not hp]
      have hj := pos_lt p hp
      have ht' : ldX S (ord (pos p)) = true := by rw [ord_pos p hp]; exact ht
      have hli := lead_li hS.1 hr hj ht'
      cases hs : tb st p
      · rfl
      · have := (hI.li (pos p) hj).mp (by rw [ord_pos p hp]; exact hs)
        exact absurd hli this
    · have h1 := popc_not st
      have h2 := hI.pop
      have h3 := hS.2.2.1
      omega
  rw [sp_iff hS.1]
  have hin := rdn_in (ldX S) (s_rows S) 64 (Nat.le_refl 64) x
  have hy : rv cm (rdn (ldX S) (s_rows S) 64 x) = 0 := by
    have := hr _ hin
    rw [rv_xor, hx, xor_0'] at this
    exact this
  cases hl : ltop (rdn (ldX S) (s_rows S) 64 x) 64 with
  | none => exact ltop_zero hl
  | some j =>
    exfalso
    obtain ⟨h1, h2, -⟩ := ltop_some hl
    have hLI : LI cm j := ⟨_, hy, hl⟩
    have hs : tb st (ord j) = false := by
      cases hs : tb st (ord j)
      · rfl
      · exact absurd hLI ((hI.li j h1).mp hs)
    have hld : ldX S (ord j) = true := by
      show tb (s_leads S) (ord j) = true
      rw [hst, tb_not (ord_lt j h1), hs]
      rfl
    have := rdn_lo hS.1 64 x (Nat.le_refl 64) j h1 hld
    rw [h2] at this
    cases this
theorem folX_l (X : XS) (G : Nat) (hG : G ≤ 8) (hg : x_givenLines X = nI G) {st : Int64} {vec mk : Nat → Int64} {k : Nat} {pv : Nat → Nat} {P : Int64} (hI : StI (cmn (x_lineSums X) G) st vec mk k 64 pv P) : ∀ (d n D : Nat) (S : SS) (m : Nat) (L c : Nat → Nat), D + d = 13 → d < n → LvI S m L c D (fun e => MV (x_lineSums X) G e D 0 0) →
    ∃ S', fX2_makeFollowing_b28L n (nI (64 - popc (cmn (x_lineSums X) G))) (nI D) (x_following_u X S) = some (x_followingStands_u (x_following_u X S') 1) ∧ FolOk S' (x_lineSums X) G := by
  intro d
  induction d with
  | zero =>
    intro n D S m L c hD hn hV
    obtain ⟨n, rfl⟩ : ∃ k, n = k + 1 := ⟨n - 1, by omega⟩
    have : D = 13 := by omega
    subst this
    refine ⟨S, ?_, hV.fol (fun d x hd hx => (hV.all x).mpr (hx.sub ?_))⟩
    · show fX2_makeFollowing_b28 (fX2_makeFollowing_b28L n) _ _ _ = _
      unfold fX2_makeFollowing_b28
      rw [if_pos (by decide), zL_t]
    · rintro y ⟨i, p, a1, a2, a3, a4, a5⟩
      have := lt6_le p a2
      have := dgn_le (x_lineSums X i)
      exact ⟨i, p, a1, a2, a3, a4, by omega, by omega⟩
  | succ d ih =>
    intro n D S m L c hD hn hV
    obtain ⟨n, rfl⟩ : ∃ k, n = k + 1 := ⟨n - 1, by omega⟩
    show ∃ S', fX2_makeFollowing_b28 (fX2_makeFollowing_b28L n) _ _ _ = _ ∧ _
    unfold fX2_makeFollowing_b28
    have hpc := popc_le (s_leads S)
    have hm : m ≤ 64 := by rw [← hV.1.2.2.1]; exact hpc
    rw [if_neg (show ¬ (12 : Int32) < nI D from nI_nlt (a := 12) (b := D) (by omega) (by decide)), xf_g, hV.1.2.1]
    by_cases hs : 64 - popc (cmn (x_lineSums X) G) ≤ m
    · rw [if_pos (nI_le hs (by omega)), zL_t]
      refine ⟨S, rfl, hV.fol (fun d x hd hx => ?_)⟩
      have hr : ∀ x, Sp (ldX S) (s_rows S) x → rv (cmn (x_lineSums X) G) x = 0 := fun x hx => ideal' (((hV.all x).mp hx).sub (fun y hy => MultD_M (MV_D hy)))
      exact full hV.1 hI hr hs x (ideal' (hx.sub (fun y hy => MultD_M hy)))
    · rw [if_neg (fun q => hs ((nI_leI (by omega) (by omega)).mp q))]
      obtain ⟨S1, m1, L1, c1, a1, a2⟩ := folX_in X G D hG hg (by omega) (fX2_makeFollowing_b28L n) (nI (64 - popc (cmn (x_lineSums X) G))) G zF 0 S m L c (by omega) (by unfold zF; omega) hV
      have a1 : fX2_makeFollowing_b47L (fX2_makeFollowing_b28L n) zF (nI (64 - popc (cmn (x_lineSums X) G))) (nI D) (0 : Int32) (x_following_u X S) = _ := a1
      rw [a1]
      exact ih n (D + 1) S1 m1 L1 c1 (by omega) (by omega) a2.up
/-- makeFollowing(), called when nothing stands -/
theorem folX (X : XS) (G : Nat) (hG : G ≤ 8) (hg : x_givenLines X = nI G) {st : Int64} {vec mk : Nat → Int64} {k : Nat} {pv : Nat → Nat} {P : Int64} (hI : StI (cmn (x_lineSums X) G) st vec mk k 64 pv P) (hc : x_commonWorlds X = cmn (x_lineSums X) G) (h0 : x_followingStands X = 0) :
    ∃ S', fX2_makeFollowing X = some (x_followingStands_u (x_following_u X S') 1) ∧ FolOk S' (x_lineSums X) G := by
  unfold fX2_makeFollowing
  obtain ⟨S1, a1, a2⟩ := emptyX (x_following X)
  have hcm : x_commonWorlds (x_following_u X S1) = cmn (x_lineSums X) G := hc
  rw [if_pos h0, a1, zB1_t rfl, zL_t, hcm, countJ, zB1_t rfl, show (64 : Int32) - nI (popc (cmn (x_lineSums X) G)) = nI (64 - popc (cmn (x_lineSums X) G)) from pk_sub (popc_le _)]
  exact folX_l X G hG hg hI 13 zF 0 S1 0 _ _ (by omega) (by decide) (a2 _ (fun d y ⟨i', p', _, _, _, _, _, q⟩ => by omega) 0)
