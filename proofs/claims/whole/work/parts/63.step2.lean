/-! ===== a step: what is kept, what is told ===== -/
def SameP (M M' : MS) : Prop := m_order M' = m_order M ∧ m_text M' = m_text M ∧ m_typed M' = m_typed M ∧ m_given M' = m_given M ∧ m_made M' = m_made M ∧ m_steps M' = m_steps M ∧ m_wrongStep M' = m_wrongStep M ∧ m_line M' = m_line M ∧ m_common M' = m_common M ∧ m_standing M' = m_standing M ∧ m_vector M' = m_vector M ∧ m_made0 M' = m_made0 M ∧ m_vectors M' = m_vectors M ∧ m_trace M' = m_trace M
theorem SameP.tr {M M' M'' : MS} (h : SameP M M') (k : SameP M' M'') : SameP M M'' := by
  obtain ⟨a1, a2, a3, a4, a5, a6, a7, a8, a9, a10, a11, a12, a13, a14⟩ := h
  obtain ⟨b1, b2, b3, b4, b5, b6, b7, b8, b9, b10, b11, b12, b13, b14⟩ := k
  exact ⟨b1.trans a1, b2.trans a2, b3.trans a3, b4.trans a4, b5.trans a5, b6.trans a6, b7.trans a7, b8.trans a8, b9.trans a9, b10.trans a10, b11.trans a11, b12.trans a12, b13.trans a13, b14.trans a14⟩
theorem SameM.p {M M' : MS} (h : SameM M M') : SameP M M' := by
  obtain ⟨a1, a2, a3, a4, a5, a6, a7, a8, a9, a10, a11, a12, a13, a14, a15⟩ := h
  exact ⟨a1, a2, a3, a4, a5, a6, a7, a8, a10, a11, a12, a13, a14, a15⟩
theorem samep_step (M : MS) (f : Nat → Int32) : SameP M (m_step_u M f) := ⟨rfl, rfl, rfl, rfl, rfl, rfl, rfl, rfl, rfl, rfl, rfl, rfl, rfl, rfl⟩
theorem samep_claim (M : MS) (f : Nat → Int64) : SameP M (m_claimed_u M f) := ⟨rfl, rfl, rfl, rfl, rfl, rfl, rfl, rfl, rfl, rfl, rfl, rfl, rfl, rfl⟩
def MStp (k : Nat) (M M' : MS) : Prop := SameP M M' ∧ (∀ i, i ≠ 3 * k → i ≠ 3 * k + 1 → i ≠ 3 * k + 2 → m_step M' i = m_step M i) ∧ (∀ j, j ≠ k → m_claimed M' j = m_claimed M j) ∧ ∃ a, a < 32 ∧ m_step M' (3 * k + 1) = nI a
theorem mstp_of {k : Nat} {M : MS} {f : Nat → Int32} (h : ∀ i, i ≠ 3 * k → i ≠ 3 * k + 1 → i ≠ 3 * k + 2 → f i = m_step M i) (ha : ∃ a, a < 32 ∧ f (3 * k + 1) = nI a) : MStp k M (m_step_u M f) := ⟨samep_step M f, h, fun _ _ => rfl, ha⟩
def TStp (k : Nat) (t t' : TS) : Prop := SameT t t' ∧ t_told t' = t_told t ∧ ∀ j, j ≠ k → t_ops t' j = t_ops t j ∧ t_firsts t' j = t_firsts t j ∧ t_seconds t' j = t_seconds t j ∧ t_sums t' j = t_sums t j
def StpR (t : TS) (M : MS) (G j : Nat) : Prop :=
  (∃ a c, a < G + j ∧ c < G + j ∧ t_firsts t j = nI a ∧ m_step M (3 * j + 1) = nI a ∧ t_seconds t j = nI c ∧ m_step M (3 * j + 2) = nI c ∧ ((t_ops t j = 1 ∧ m_step M (3 * j) = 0) ∨ (t_ops t j = 3 ∧ m_step M (3 * j) = 2))) ∨
  (∃ a p, a < G + j ∧ p < 64 ∧ t_firsts t j = nI a ∧ m_step M (3 * j + 1) = nI a ∧ t_seconds t j = nI p ∧ m_step M (3 * j + 2) = nI p ∧ t_ops t j = 2 ∧ m_step M (3 * j) = 1) ∨
  (t_ops t j = 4 ∧ m_step M (3 * j) = 3 ∧ t_sums t j = m_claimed M j)
def stX (t : TS) (sm : Nat → Int64) (o f g : Nat → Int32) : TS := (t_bytes t, t_length t, t_place t, t_start t, t_token t, t_meaning t, t_told t, sm, o, f, g)
theorem cf_g (M : MS) (f : Nat → Int64) : m_fault (m_claimed_u M f) = m_fault M := rfl
theorem sf_g (M : MS) (f : Nat → Int32) : m_fault (m_step_u M f) = m_fault M := rfl
theorem sx_0 (t : TS) (o : Nat → Int32) : t_ops_u t o = stX t (t_sums t) o (t_firsts t) (t_seconds t) := rfl
theorem sx_uf (t : TS) (sm : Nat → Int64) (o f g z : Nat → Int32) : t_firsts_u (stX t sm o f g) z = stX t sm o z g := rfl
theorem sx_ug (t : TS) (sm : Nat → Int64) (o f g z : Nat → Int32) : t_seconds_u (stX t sm o f g) z = stX t sm o f z := rfl
theorem sx_us (t : TS) (sm z : Nat → Int64) (o f g : Nat → Int32) : t_sums_u (stX t sm o f g) z = stX t z o f g := rfl
theorem sx_f (t : TS) (sm : Nat → Int64) (o f g : Nat → Int32) : t_firsts (stX t sm o f g) = f := rfl
theorem sx_g (t : TS) (sm : Nat → Int64) (o f g : Nat → Int32) : t_seconds (stX t sm o f g) = g := rfl
theorem sx_s (t : TS) (sm : Nat → Int64) (o f g : Nat → Int32) : t_sums (stX t sm o f g) = sm := rfl
theorem sx_o (t : TS) (sm : Nat → Int64) (o f g : Nat → Int32) : t_ops (stX t sm o f g) = o := rfl
theorem sx_told (t : TS) (sm : Nat → Int64) (o f g : Nat → Int32) : t_told (stX t sm o f g) = t_told t := rfl
theorem TB.sx {t : TS} {M : MS} {T : Nat} {B : Nat → Nat} (h : TB t M T B) (sm : Nat → Int64) (o f g : Nat → Int32) : TB (stX t sm o f g) M T B := h
theorem TB.st {t : TS} {M : MS} {T : Nat} {B : Nat → Nat} (h : TB t M T B) (f : Nat → Int32) : TB t (m_step_u M f) T B := h
theorem TB.cl {t : TS} {M : MS} {T : Nat} {B : Nat → Nat} (h : TB t M T B) (f : Nat → Int64) : TB t (m_claimed_u M f) T B := h
theorem samet_sx (t : TS) (sm : Nat → Int64) (o f g : Nat → Int32) : SameT t (stX t sm o f g) := ⟨rfl, rfl⟩
theorem tstp_of {k : Nat} {t : TS} {sm : Nat → Int64} {o f g : Nat → Int32} (h : ∀ j, j ≠ k → o j = t_ops t j ∧ f j = t_firsts t j ∧ g j = t_seconds t j ∧ sm j = t_sums t j) : TStp k t (stX t sm o f g) := ⟨⟨rfl, rfl⟩, rfl, h⟩
def StepOut (T G k q : Nat) (t : TS) (M : MS) (cx : Option (Int32 × TS)) (cm : Option MS) : Prop :=
  (∃ q1 s1 mean1 va1 t1 M1, s1 ≤ q1 ∧ q1 ≤ T ∧ q ≤ q1 ∧ TStp k t t1 ∧ MStp k M M1 ∧ m_fault M1 = -1 ∧ StpR t1 M1 G k ∧ cx = some (1, pX t1 (nI q1) (nI s1) 8 mean1) ∧ cm = fX3_advances (pM M1 (nI q1) 5 (nI s1) va1)) ∨
  (∃ s1 t1 M1 a b mean1 a' b' c' v', s1 ≤ T ∧ SameT t t1 ∧ MStp k M M1 ∧ cx = some (0, pX t1 a (nI s1) b mean1) ∧ cm = some (pM (m_fault_u M1 (nI s1)) a' b' c' v'))
theorem b14_go {M : MS} (hf : m_fault M = -1) {k G : Nat} (hk : k < 24) (hG : m_given M = nI G) (a b c w : Int32) (hw : ¬ w = 3) {a1 b1 c1 v1 : Int32} (h : fX3_advances (pM M a b c w) = some (pM M a1 b1 c1 v1)) : fX3_readsStep_b14 (nI k) 1 (pM M a b c w) = if b1 = 3 then (if nI (G + k) ≤ v1 then fX3_readsStep_b91 (nI k) w (nI (3 * k + 1)) (pM (m_step_u M (upd (m_step M) (3 * k) w)) a1 b1 c1 v1) else fX3_readsStep_b92 (nI k) w 1 (nI (3 * k + 1)) (pM (m_step_u M (upd (m_step M) (3 * k) w)) a1 b1 c1 v1)) else fX3_readsStep_b91 (nI k) w (nI (3 * k + 1)) (pM (m_step_u M (upd (m_step M) (3 * k) w)) a1 b1 c1 v1) := by
  unfold fX3_readsStep_b14
  rw [takes1 hf, h, zB1_t rfl, zB2_t rfl, i3, zGI_t (vp_in_nI (show 3 * k < 72 by omega) (by decide)), zL_t, if_neg hw, pm_step, pm_uS, pm_token, pm_value, pm_given, show m_given (m_step_u M (upd (m_step M) (nI (3 * k)).toNatClampNeg w)) = nI G from hG, nI_add, nI_1, nI_clamp (show 3 * k < 2 ^ 31 by omega)]
theorem b92_go {M : MS} (hf : m_fault M = -1) {k G : Nat} (hk : k < 24) (hG : m_given M = nI G) (a b c v w : Int32) {a1 b1 c1 v1 : Int32} (h : fX3_advances (pM M a b c v) = some (pM M a1 b1 c1 v1)) : fX3_readsStep_b92 (nI k) w 1 (nI (3 * k + 1)) (pM M a b c v) = if w = 1 then (if b1 = 1 then zB1 (fX3_letters v1) (fun r => if r = 1 then fX3_readsStep_b135 1 (nI (3 * k + 2)) (pM (m_step_u M (upd (m_step M) (3 * k + 1) v)) a1 b1 c1 v1) else fX3_readsStep_b134 (nI (3 * k + 2)) (pM (m_step_u M (upd (m_step M) (3 * k + 1) v)) a1 b1 c1 v1)) else fX3_readsStep_b134 (nI (3 * k + 2)) (pM (m_step_u M (upd (m_step M) (3 * k + 1) v)) a1 b1 c1 v1)) else (if b1 = 3 then (if nI (G + k) ≤ v1 then fX3_readsStep_b177 (nI (3 * k + 2)) (pM (m_step_u M (upd (m_step M) (3 * k + 1) v)) a1 b1 c1 v1) else fX3_readsStep_b178 1 (nI (3 * k + 2)) (pM (m_step_u M (upd (m_step M) (3 * k + 1) v)) a1 b1 c1 v1)) else fX3_readsStep_b177 (nI (3 * k + 2)) (pM (m_step_u M (upd (m_step M) (3 * k + 1) v)) a1 b1 c1 v1)) := by
  unfold fX3_readsStep_b92
  rw [takes1 hf, h, zB1_t rfl, zB2_t rfl, zGI_t (vp_in_nI (show 3 * k + 1 < 72 by omega) (by decide)), zL_t, pm_step, pm_uS, pm_token, pm_value, pm_given, i32, nI_clamp (show 3 * k + 1 < 2 ^ 31 by omega), show m_given (m_step_u M (upd (m_step M) (3 * k + 1) v)) = nI G from hG, nI_add]
/-- three places written -/
def up3 (f : Nat → Int32) (k : Nat) (x y z : Int32) : Nat → Int32 := upd (upd (upd f (3 * k) x) (3 * k + 1) y) (3 * k + 2) z
theorem up3_0 (f : Nat → Int32) (k : Nat) (x y z : Int32) : up3 f k x y z (3 * k) = x := by
  unfold up3
  rw [pk_un (by omega), pk_un (by omega), pk_us]
theorem up3_1 (f : Nat → Int32) (k : Nat) (x y z : Int32) : up3 f k x y z (3 * k + 1) = y := by
  unfold up3
  rw [pk_un (by omega), pk_us]
theorem up3_2 (f : Nat → Int32) (k : Nat) (x y z : Int32) : up3 f k x y z (3 * k + 2) = z := pk_us
theorem up3_n (f : Nat → Int32) (k : Nat) (x y z : Int32) (i : Nat) (h0 : i ≠ 3 * k) (h1 : i ≠ 3 * k + 1) (h2 : i ≠ 3 * k + 2) : up3 f k x y z i = f i := by
  unfold up3
  rw [pk_un h2, pk_un h1, pk_un h0]
theorem mstp3 {k : Nat} {M : MS} {x y z : Int32} {a : Nat} (ha : a < 32) (hy : y = nI a) : MStp k M (m_step_u M (up3 (m_step M) k x y z)) := mstp_of (fun i h0 h1 h2 => up3_n _ _ _ _ _ i h0 h1 h2) ⟨a, ha, by rw [up3_1, hy]⟩
theorem readX_go {t : TS} {k : Nat} (hk : k < 24) (hto : t_told t = nI k) (A q s tok mean : Int32) : fX1_readStep A (pX t q s tok mean) = if tok = 1 then fX1_readStep_b64 A (pX (stX t (t_sums t) (upd (t_ops t) k tok) (t_firsts t) (t_seconds t)) q s tok mean) else if tok = 2 then (zB2 (fX1_readLine_4 A (pX (stX t (t_sums t) (upd (t_ops t) k tok) (t_firsts t) (t_seconds t)) q s tok mean)) (fun r_107 S_107 =>
(if r_107 = 0 then some ((0 : Int32), S_107) else
(zB2 (fX1_readLetter S_107) (fun r_114 S_114 =>
(if r_114 = 0 then some ((0 : Int32), S_114) else
(zB2 (fX1_readSemicolon S_114) (fun r_121 S_121 =>
(if r_121 = 0 then some ((0 : Int32), S_121) else
some ((1 : Int32), S_121)))))))))) else if tok = 3 then fX1_readStep_b64 A (pX (stX t (t_sums t) (upd (t_ops t) k tok) (t_firsts t) (t_seconds t)) q s tok mean) else if tok = 4 then (zB1 (fX1_next (pX (stX t (t_sums t) (upd (t_ops t) k tok) (t_firsts t) (t_seconds t)) q s tok mean)) (fun S_134 =>
(zB2 (fX1_readSum S_134) (fun r_138 S_138 =>
(zG (r_138 = 0 ∨ r_138 = 1) (some (r_138, S_138))))))) else some (0, pX (stX t (t_sums t) (upd (t_ops t) k tok) (t_firsts t) (t_seconds t)) q s tok mean) := by
  unfold fX1_readStep
  rw [px_told, hto, if_neg (nI_pos (show k < 2 ^ 31 by omega)), if_pos (show nI k < (24 : Int32) from nI_lt hk (by decide)), zGI_t (vp_in_nI hk (by decide)), zL_t, px_token, px_ops, px_uO, px_token, nI_clamp (show k < 2 ^ 31 by omega), sx_0]
theorem upd_ne {f : Nat → Int32} {k j : Nat} {x : Int32} (h : j ≠ k) : upd f k x j = f j := pk_un h
/-- add, times -/
theorem stepAT {t : TS} {M : MS} {T G k q s : Nat} {B : Nat → Nat} (hB : TB t M T B) (hk : k < 24) (hG8 : G ≤ 8) (hto : t_told t = nI k) (hG : m_given M = nI G) (hf : m_fault M = -1) (hqT : q ≤ T) (mean tok w : Int32) (hw : (tok = 1 ∧ w = 0) ∨ (tok = 3 ∧ w = 2)) :
    StepOut T G k q t M (fX1_readStep_b64 (nI (G + k)) (pX (stX t (t_sums t) (upd (t_ops t) k tok) (t_firsts t) (t_seconds t)) (nI q) (nI s) tok mean)) (fX3_readsStep_b14 (nI k) 1 (pM M (nI q) 2 (nI s) w)) := by
  have h4 := hB.1
  have hw3 : ¬ w = 3 := by rcases hw with ⟨-, rfl⟩ | ⟨-, rfl⟩ <;> decide
  have hw1 : ¬ w = 1 := by rcases hw with ⟨-, rfl⟩ | ⟨-, rfl⟩ <;> decide
  have hB0 := hB.sx (t_sums t) (upd (t_ops t) k tok) (t_firsts t) (t_seconds t)
  obtain ⟨q1, s1, tok1, mean1, tok1', va1, a1, a2, a3, a4, a5, a6, a7⟩ := nextR hB0 hqT (nI s) tok mean 2 (nI s) w
  have hX4 := lineX4 (t := stX t (t_sums t) (upd (t_ops t) k tok) (t_firsts t) (t_seconds t)) (A := G + k) hk hto (nI q) (nI s) tok mean a6
  rw [b14_go hf hk hG _ _ _ _ hw3 a7]
  unfold fX1_readStep_b64
  rcases a5.num (A := G + k) (by omega) with ⟨v, n1, n2, n3, n4, n5, n6⟩ | ⟨n1, n2⟩
  · have hq1 := a4 (by rw [n3]; decide)
    rw [hX4.1 v n1 (by omega) n3 n5, zB2_t rfl, i10, sx_f, sx_uf, if_pos n4, n6, if_neg (nI_ge n1 (by omega))]
    have hB1 := (hB.sx (t_sums t) (upd (t_ops t) k tok) (upd (t_firsts t) k (nI v)) (t_seconds t)).st (upd (m_step M) (3 * k) w)
    obtain ⟨q2, s2, tok2, mean2, tok2', va2, b1, b2, b3, b4, b5, b6, b7⟩ := nextR hB1 a2 (nI s1) tok1 mean1 tok1' (nI s1) (nI v)
    have hX5 := lineX5 (t := stX t (t_sums t) (upd (t_ops t) k tok) (upd (t_firsts t) k (nI v)) (t_seconds t)) (A := G + k) hk hto (nI q1) (nI s1) tok1 mean1 b6
    rw [b92_go (M := m_step_u M (upd (m_step M) (3 * k) w)) hf hk hG _ _ _ _ _ b7, if_neg hw1, ss_g, ss_u]
    rcases b5.num (A := G + k) (by omega) with ⟨v2, p1, p2, p3, p4, p5, p6⟩ | ⟨p1, p2⟩
    · have hq2 := b4 (by rw [p3]; decide)
      rw [hX5.1 v2 p1 (by omega) p3 p5, zB2_t rfl, i10, sx_g, sx_ug, if_pos p4, p6, if_neg (nI_ge p1 (by omega))]
      have hB2 := (hB.sx (t_sums t) (upd (t_ops t) k tok) (upd (t_firsts t) k (nI v)) (upd (t_seconds t) k (nI v2))).st (upd (upd (m_step M) (3 * k) w) (3 * k + 1) (nI v))
      obtain ⟨q3, s3, tok3, mean3, tok3', va3, c1, c2, c3, c4, c5, c6, c7⟩ := nextR hB2 b2 (nI s2) tok2 mean2 tok2' (nI s2) (nI v2)
      rw [semiX (nI q2) (nI s2) tok2 mean2 c6, good178 (M := m_step_u M (upd (upd (m_step M) (3 * k) w) (3 * k + 1) (nI v))) hf (show 3 * k + 2 < 72 by omega) _ _ _ _ c7, ss_g, ss_u]
      have hM3 : MStp k M (m_step_u M (up3 (m_step M) k w (nI v) (nI v2))) := mstp3 (show v < 32 by omega) rfl
      by_cases h8 : tok3 = 8
      · have hq3 := c4 (by rw [h8]; decide)
        rw [if_pos h8, zB2_t rfl, i10, c5.tok7.2.1.mp h8, h8]
        refine Or.inl ⟨q3, s3, mean3, va3, _, m_step_u M (up3 (m_step M) k w (nI v) (nI v2)), c1, c2, by omega, tstp_of (fun j hj => ⟨pk_un hj, pk_un hj, pk_un hj, rfl⟩), hM3, hf, Or.inl ⟨v, v2, n1, p1, ?_, ?_, ?_, ?_, ?_⟩, rfl, good182 (M := m_step_u M (up3 (m_step M) k w (nI v) (nI v2))) hf _ _ _⟩
        · rw [sx_f, pk_us]
        · rw [ss_g, up3_1]
        · rw [sx_g, pk_us]
        · rw [ss_g, up3_2]
        · rw [sx_o, pk_us, ss_g, up3_0]
          exact hw
      · rw [if_neg h8, zB2_t rfl, i00]
        refine Or.inr ⟨s3, _, m_step_u M (up3 (m_step M) k w (nI v) (nI v2)), nI q3, tok3, mean3, nI q3, tok3', nI s3, va3, by omega, samet_sx _ _ _ _ _, hM3, rfl, bad182 (M := m_step_u M (up3 (m_step M) k w (nI v) (nI v2))) hf _ _ _ (fun e => h8 (c5.tok7.2.1.mpr e))⟩
    · rw [hX5.2 p1, zB2_t rfl, i00]
      have key : (if tok2' = 3 then (if nI (G + k) ≤ va2 then fX3_readsStep_b177 (nI (3 * k + 2)) (pM (m_step_u M (upd (upd (m_step M) (3 * k) w) (3 * k + 1) (nI v))) (nI q2) tok2' (nI s2) va2) else fX3_readsStep_b178 1 (nI (3 * k + 2)) (pM (m_step_u M (upd (upd (m_step M) (3 * k) w) (3 * k + 1) (nI v))) (nI q2) tok2' (nI s2) va2)) else fX3_readsStep_b177 (nI (3 * k + 2)) (pM (m_step_u M (upd (upd (m_step M) (3 * k) w) (3 * k + 1) (nI v))) (nI q2) tok2' (nI s2) va2)) = fX3_readsStep_b177 (nI (3 * k + 2)) (pM (m_step_u M (upd (upd (m_step M) (3 * k) w) (3 * k + 1) (nI v))) (nI q2) tok2' (nI s2) va2) := by
        rcases p2 with p2 | p2
        · rw [if_neg p2]
        · rw [if_pos p2, ite_self]
      rw [key, bad178 (M := m_step_u M (upd (upd (m_step M) (3 * k) w) (3 * k + 1) (nI v))) hf (by omega) (show 3 * k + 2 < 72 by omega), ss_g, ss_u]
      exact Or.inr ⟨s2, _, m_step_u M (up3 (m_step M) k w (nI v) 0), nI q2, tok2, mean2, nI q2, tok2', nI s2, va2, by omega, samet_sx _ _ _ _ _, mstp3 (show v < 32 by omega) rfl, rfl, rfl⟩
  · rw [hX4.2 n1, zB2_t rfl, i00]
    have key : (if tok1' = 3 then (if nI (G + k) ≤ va1 then fX3_readsStep_b91 (nI k) w (nI (3 * k + 1)) (pM (m_step_u M (upd (m_step M) (3 * k) w)) (nI q1) tok1' (nI s1) va1) else fX3_readsStep_b92 (nI k) w 1 (nI (3 * k + 1)) (pM (m_step_u M (upd (m_step M) (3 * k) w)) (nI q1) tok1' (nI s1) va1)) else fX3_readsStep_b91 (nI k) w (nI (3 * k + 1)) (pM (m_step_u M (upd (m_step M) (3 * k) w)) (nI q1) tok1' (nI s1) va1)) = fX3_readsStep_b91 (nI k) w (nI (3 * k + 1)) (pM (m_step_u M (upd (m_step M) (3 * k) w)) (nI q1) tok1' (nI s1) va1) := by
      rcases n2 with n2 | n2
      · rw [if_neg n2]
      · rw [if_pos n2, ite_self]
    rw [key, bad92 (M := m_step_u M (upd (m_step M) (3 * k) w)) hf (by omega) hk, ss_g, ss_u]
    exact Or.inr ⟨s1, _, m_step_u M (up3 (m_step M) k w 0 0), nI q1, tok1, mean1, nI q1, tok1', nI s1, va1, by omega, samet_sx _ _ _ _ _, mstp3 (show 0 < 32 by omega) rfl, rfl, rfl⟩
