
def zTm (i : Nat) : Term := ([Term.string RX1 99, Term.string RX1 105, Term.string RX1 107, Term.string RX1 109] : List Term).getD i (Term.string RX1 99)
theorem zX_of {args : Array Value} {s : State} (hts : ∀ w ∈ lw_tbl, w.before args s = true) (hgv : (Jvm.Cond.and given_1 narrow_1).before args s = true) : ∃ zq : Nat → Nat, zX zq (fun q : Nat => s.heap.size ≤ q) s := by
  have hs := flat_of_before _ hgv
  have hA : ∀ a : Nat, a < s.heap.size → ¬ (fun q : Nat => s.heap.size ≤ q) a := fun a h1 h2 => absurd h1 (Nat.not_lt.mpr h2)
  have hO : ∀ j, j < 64 → Cond.eq (.elem (.static "NoughtSums" "ORDER" "[I") (.int (Int32.ofNat j))) (.int (zOrd j)) ∈ flatC (Jvm.Cond.and given_1 narrow_1) := by decide +kernel
  have hH : ∀ j, j < 6 → Cond.eq (.elem (.static "NoughtSums" "HAS_LETTER" "[J") (.int (Int32.ofNat j))) (.long (zHas j)) ∈ flatC (Jvm.Cond.and given_1 narrow_1) := by decide +kernel
  obtain ⟨tO, eO, hTO⟩ := va_Tof (tm := .static "NoughtSums" "ORDER" "[I") (ty := .int) (N := 64) (f := fun j => .int (zOrd j)) (A := fun q : Nat => s.heap.size ≤ q) (by decide) (hs _ (by decide +kernel)) (va_eqt (hs (Cond.eq (.length (.static "NoughtSums" "ORDER" "[I")) (.int (Int32.ofNat 64))) (by decide +kernel))) (fun j hj => va_eqt (hs _ (hO j hj))) hA
  obtain ⟨tH, eH, hTH⟩ := va_Tof (tm := .static "NoughtSums" "HAS_LETTER" "[J") (ty := .long) (N := 6) (f := fun j => .long (zHas j)) (A := fun q : Nat => s.heap.size ≤ q) (by decide) (hs _ (by decide +kernel)) (va_eqt (hs (Cond.eq (.length (.static "NoughtSums" "HAS_LETTER" "[J")) (.int (Int32.ofNat 6))) (by decide +kernel))) (fun j hj => va_eqtl (hs _ (hH j hj))) hA
  have hi4 : ∀ i, i < 4 → i = 0 ∨ i = 1 ∨ i = 2 ∨ i = 3 := fun i h => by omega
  have hex : ∀ i, i < 4 → Cond.exactly (zTm i) "java/lang/String" ∈ flatC (Jvm.Cond.and given_1 narrow_1) := by decide +kernel
  have hco : ∀ i, i < 4 → Cond.eq (.field (zTm i) "java/lang/String" "coder" "B") (.int 0) ∈ flatC (Jvm.Cond.and given_1 narrow_1) := by decide +kernel
  have har : ∀ i, i < 4 → Cond.arrayOf (.field (zTm i) "java/lang/String" "value" "[B") .byte ∈ flatC (Jvm.Cond.and given_1 narrow_1) := by decide +kernel
  have hle : ∀ i, i < 4 → Cond.eq (.length (.field (zTm i) "java/lang/String" "value" "[B")) (.int (Int32.ofNat (zSL.getD i 0))) ∈ flatC (Jvm.Cond.and given_1 narrow_1) := by decide +kernel
  have hel : ∀ i, i < 4 → ∀ j, j < zSL.getD i 0 → Cond.eq (.elem (.field (zTm i) "java/lang/String" "value" "[B") (.int (Int32.ofNat j))) (.int ((zSB.getD i []).getD j 0)) ∈ flatC (Jvm.Cond.and given_1 narrow_1) := by decide +kernel
  have hne : ∀ i, i < 4 → ∀ j, j < 4 → i ≠ j → Cond.not (Cond.eq (zTm i) (zTm j)) ∈ flatC (Jvm.Cond.and given_1 narrow_1) ∨ Cond.not (Cond.eq (zTm j) (zTm i)) ∈ flatC (Jvm.Cond.and given_1 narrow_1) := by decide +kernel
  obtain ⟨adK, adV, hSt, eSt⟩ := vk_Sof (args := args) (s := s) (N := 4) (tm := zTm) (len := zSL) (byt := zSB) (A := fun q : Nat => s.heap.size ≤ q) (by decide) (fun i hi => hs _ (hex i hi)) (fun i hi => hs _ (hco i hi)) (fun i hi => hs _ (har i hi)) (fun i hi => hs _ (hle i hi)) (fun i hi j hj => hs _ (hel i hi j hj)) (fun i j hi hj h => (hne i hi j hj h).imp (hs _) (hs _)) hA
  have hZO := va_Zof (C := RX2) (n := "ORDER") (d := "[I") (A := fun q : Nat => s.heap.size ≤ q) (hts _ (by decide +kernel)) (hts _ (by decide +kernel)) eO hA
  have hZH := va_Zof (C := RX2) (n := "HAS_LETTER") (d := "[J") (A := fun q : Nat => s.heap.size ≤ q) (hts _ (by decide +kernel)) (hts _ (by decide +kernel)) eH hA
  have hZC := va_Zof (C := "java/lang/String") (n := "COMPACT_STRINGS") (d := "Z") (A := fun q : Nat => s.heap.size ≤ q) (hts _ (by decide +kernel)) (hts _ (by decide +kernel)) (va_eqi (hs (Cond.eq (.static "java/lang/String" "COMPACT_STRINGS" "Z") (.int 1)) (by decide +kernel))) hA
  have hZS := va_Zqof (C := "jdk/internal/util/Preconditions") (n := "SIOOBE_FORMATTER") (d := "Ljava/util/function/BiFunction;") (A := fun q : Nat => s.heap.size ≤ q) (hts _ (by decide +kernel)) (hts _ (by decide +kernel)) (hs _ (by decide +kernel)) hA
  have hZv : ∃ v : Value, v.category = 1 ∧ va_Z "jdk/internal/util/Preconditions" "SIOOBE_FORMATTER" "Ljava/util/function/BiFunction;" v (fun q : Nat => s.heap.size ≤ q) s s.heap := by
    rcases hZS with h | ⟨t, h⟩
    · exact ⟨.null, rfl, h⟩
    · exact ⟨.ref t, rfl, h⟩
  refine ⟨fun k => ([tO, tH, adK 0, adK 1, adK 2, adK 3, adV 0, adV 1, adV 2, adV 3] : List Nat).getD k 0, ⟨?_, ?_, ?_, ?_, ?_, ?_, ?_, ?_⟩, hZO, hTO, hZH, hTH, ?_, hZC, hZv⟩
  · exact vk_R.of (A := args) (hts (.stringRef RX1 99 "add") (by decide +kernel)) (eSt 0 (by decide))
  · exact vk_R.of (A := args) (hts (.stringRef RX1 105 "by") (by decide +kernel)) (eSt 1 (by decide))
  · exact vk_R.of (A := args) (hts (.stringRef RX1 107 "times") (by decide +kernel)) (eSt 2 (by decide))
  · exact vk_R.of (A := args) (hts (.stringRef RX1 109 "claim") (by decide +kernel)) (eSt 3 (by decide))
  · exact va_Nw.of rfl (hts (.fieldLinkNest RX0 30 RX2 "ORDER" "[I" RX2) (by decide +kernel))
  · exact va_Nw.of rfl (hts (.methodLinkNest RX0 33 yX2_hasBit RX2) (by decide +kernel))
  · exact va_Nw.of rfl (hts (.methodLinkNest RX2 11 yX1_init RX2) (by decide +kernel))
  · exact va_Nw.of rfl (hts (.methodLinkNest RX2 47 yX0_init RX2) (by decide +kernel))
  · refine ⟨fun i hi => ?_, fun i j hi hj h => ?_⟩
    · rcases hi4 i hi with rfl | rfl | rfl | rfl
      · exact hSt.1 0 hi
      · exact hSt.1 1 hi
      · exact hSt.1 2 hi
      · exact hSt.1 3 hi
    · refine hSt.2 i j hi hj ?_
      rcases hi4 i hi with rfl | rfl | rfl | rfl <;> rcases hi4 j hj with rfl | rfl | rfl | rfl <;> exact h

set_option maxHeartbeats 8000000 in
set_option maxRecDepth 100000 in
/-- THE LAW, from its entry, if its function answers 1 -/
theorem start_of {p : Program} {e : Env} {s : State} {m : MethodId} {below : List Frame} {meth : Method} {c : Code} (l : Launch) {b L : Nat} {xs : Nat → Int32} (SM : MS) (hM0 : fX3_init zM0 = some SM) (hf : fL_law L xs (zX0, SM) = some 1) (C0 : lw_At p s m meth c b L xs) : W p l e room_1 s m #[Value.ref b] below meth c s.heap [] 0 0 (lw_Z below #[Value.ref b] s) (entryFrame m ([Value.ref b] : List Value).toArray 4) := by
  obtain ⟨hx, hb, hr, hml, hown, hts0, hXs, hbl, hlocks, hgv⟩ := id C0
  obtain ⟨zq, hX⟩ := zX_of hts0 hgv
  have hts : ∀ w ∈ wsL_law, w.before #[Value.ref b] s = true := fun w h => hts0 w (wsL_law_in w h)
  have hA : ∀ q : Nat, s.heap.size ≤ q → (fun q : Nat => s.heap.size ≤ q) q := fun _ h => h
  have hbA : ¬ (fun q : Nat => s.heap.size ≤ q) b := Nat.not_le.mpr hbl
  have hown : s.vm.findClass RL = some m.cls := hown
  obtain ⟨c0, iS0, hKn0⟩ := u_known (C := RX0) (T := TX0) (N := 5) (n := 5) hts0 inX0 (hts0 (.instantiable RX0 5) (by decide +kernel))
  obtain ⟨c1, iS1, hKn1⟩ := u_known (C := RX1) (T := TX1) (N := 11) (n := 11) hts0 inX1 (hts0 (.instantiable RX1 11) (by decide +kernel))
  obtain ⟨c2, iS2, hKn2⟩ := u_known (C := RX2) (T := TX2) (N := 13) (n := 13) hts0 inX2 (hts0 (.instantiable RX2 13) (by decide +kernel))
  obtain ⟨c3, iS3, hKn3⟩ := u_known (C := RX3) (T := TX3) (N := 27) (n := 27) hts0 inX3 (hts0 (.instantiable RX3 27) (by decide +kernel))
  obtain ⟨D, hKc⟩ : ∃ D : va_G, ∀ (k : Nat) (q : vw_C), vwCl[k]? = some q → u_Kn s q.1 q.2.1 q.2.2 (D.1 k) (D.2 k) := by
    refine ⟨(fun k => if k = 0 then c0 else if k = 1 then c1 else if k = 2 then c2 else c3, fun k => if k = 0 then iS0 else if k = 1 then iS1 else if k = 2 then iS2 else iS3), ?_⟩
    intro k q hq
    match k, hq with
    | 0, hq => cases hq; exact hKn0
    | 1, hq => cases hq; exact hKn1
    | 2, hq => cases hq; exact hKn2
    | 3, hq => cases hq; exact hKn3
    | k + 4, hq => simp [vwCl] at hq
  have hS : va_S (fun q : Nat => s.heap.size ≤ q) s.heap s.heap [] := va_S.rf
  have hK : va_K D vwCl [] s := ⟨hKc, fun k q h => by simp at h⟩
  have hP : va_P D vwCl [] s.heap := fun k q h => by simp at h
  have hD : va_D (fun q : Nat => s.heap.size ≤ q) [] := ⟨fun i j p q h => by simp at h, fun k q h => by simp at h⟩
  have hl := lv_entry ([.ref b]) (n := 4) (Nat.le_of_ble_eq_true rfl)
  rw [lg_entry_eq]
  generalize (lg_sl ([.ref b]) ++ List.replicate (4 - (lg_sl ([.ref b])).length) Slot.unset).toArray = ls at hl ⊢
  have hl : lv_has ls 4 [(0, .ref b)] := hl
  refine va_new (ci := 2) (fs := [.null, .null, .null, .int 0, .int 0, .int 0, .int 0, .long 0, .long 0, .null, .int 0, .null, .int 0]) (C := RX2) (T := TX2) (N := 13) hx hb hts inlX2 tyX2 tyX2_ok hown (hts (.classLink RL 7 RX2) (by decide +kernel)) (hts (.instantiable RX2 13) (by decide +kernel)) (hts (.initialized RX2) (by decide +kernel)) hK hP hD hS hA rfl (by decide) (by decide) (by decide) dL_law_0 (fun qx H hP hD hS => ?_)
  have hP : va_P D vwCl [(qx, .inr (2, [.null, .null, .null, .int 0, .int 0, .int 0, .int 0, .long 0, .long 0, .null, .int 0, .null, .int 0]))] H := hP
  have hD : va_D (fun q : Nat => s.heap.size ≤ q) [(qx, .inr (2, [.null, .null, .null, .int 0, .int 0, .int 0, .int 0, .long 0, .long 0, .null, .int 0, .null, .int 0]))] := hD
  refine lv_dup hx hb dL_law_3 rfl ?_
  have hFc := va_free (wc := [(qx, .inr (2, [.null, .null, .null, .int 0, .int 0, .int 0, .int 0, .long 0, .long 0, .null, .int 0, .null, .int 0]))]) hD hS hA [0] rfl
  refine va_callv (va_runI (As := []) (rest := [.ref qx]) ⟨hx, hb, hml, hown, hts⟩ (kX2_init l zq D qx H.size) (cwI 0 hts gL_law_X2_init rfl rfl rfl (hts (.initialized RX2) (by decide +kernel)) (hts (.methodLink RL 9 yX2_init) (by decide +kernel)) (hts (.instanceMethod yX2_init) (by decide +kernel)) rfl (by decide +kernel) ⟨by decide, by decide⟩) ⟨z_blind, fun U hU hW => ⟨rfl, by rw [hU], by rw [hU]; exact hP, va_K.moved hW.alike hK, hD.weaken (fun _ _ _ _ => trivial), hX.call hS hU hW hFc⟩⟩ rfl rfl hl.1 rfl (lv_room (Nat.le_of_ble_eq_true rfl)) dL_law_4 ⟨by decide, by decide⟩) hS (fun q _ h => hFc q h) hFc (fun ux t H1 locs ht hvm hw hB hz1 hk1 hS => ?_)
  obtain ⟨yx, ax⟩ := ux
  obtain ⟨hux, hP1, hK1, hD1⟩ := hB
  have hux : ax 0 = qx := hux
  rw [ht] at hP1
  have hK1 := va_K.moved hvm.symm hK1
  obtain ⟨hP2, hD2⟩ := va_join (wr := []) (w1 := wX yx ax zX0) hP hD [0] [] rfl rfl (by decide) (by decide) hk1 hFc hP1 hD1
  have hP2 : va_P D vwCl (wX yx ax zX0) H1 := hP2
  have hD2 : va_D (fun q : Nat => s.heap.size ≤ q) (wX yx ax zX0) := hD2
  have hK2 : va_K D vwCl (tX yx) s := hK1
  refine lv_astore_n (lv' := [(1, .ref qx), (0, .ref b)]) hx hb dL_law_7 rfl hl (by decide) rfl (fun ls hl => ?_)
  refine va_new (ci := 3) (fs := [.int 0, .long 0, .null, .null, .int 0, .int 0, .int 0, .int 0, .int 0, .int 0, .int 0, .int 0, .int 0, .int 0, .null, .null, .null, .null, .long 0, .long 0, .null, .null, .int 0, .long 0, .null, .null, .null]) (C := RX3) (T := TX3) (N := 27) hx hb hts inlX3 tyX3 tyX3_ok hown (hts (.classLink RL 10 RX3) (by decide +kernel)) (hts (.instantiable RX3 27) (by decide +kernel)) (hts (.initialized RX3) (by decide +kernel)) hK2 hP2 hD2 hS hA rfl (by decide) (by decide) (by decide) dL_law_8 (fun qm H2 hP3 hD3 hS => ?_)
  refine lv_dup hx hb dL_law_11 rfl ?_
  have hP3 : va_P D vwCl (wX yx ax zX0 ++ [(qm, .inr (3, [.int 0, .long 0, .null, .null, .int 0, .int 0, .int 0, .int 0, .int 0, .int 0, .int 0, .int 0, .int 0, .int 0, .null, .null, .null, .null, .long 0, .long 0, .null, .null, .int 0, .long 0, .null, .null, .null]))]) H2 := hP3
  have hD3 : va_D (fun q : Nat => s.heap.size ≤ q) (wX yx ax zX0 ++ [(qm, .inr (3, [.int 0, .long 0, .null, .null, .int 0, .int 0, .int 0, .int 0, .int 0, .int 0, .int 0, .int 0, .int 0, .int 0, .null, .null, .null, .null, .long 0, .long 0, .null, .null, .int 0, .long 0, .null, .null, .null]))]) := hD3
  have hPm := hP3.sub (ws' := [(qm, .inr (3, [.int 0, .long 0, .null, .null, .int 0, .int 0, .int 0, .int 0, .int 0, .int 0, .int 0, .int 0, .int 0, .int 0, .null, .null, .null, .null, .long 0, .long 0, .null, .null, .int 0, .long 0, .null, .null, .null]))]) [17] rfl
  have hDm := hD3.sub (ws' := [(qm, .inr (3, [.int 0, .long 0, .null, .null, .int 0, .int 0, .int 0, .int 0, .int 0, .int 0, .int 0, .int 0, .int 0, .int 0, .null, .null, .null, .null, .long 0, .long 0, .null, .null, .int 0, .long 0, .null, .null, .null]))]) [17] (by decide) rfl
  have hKm := hK2.sub (tys' := []) [] rfl
  have hFm := va_free (wc := [(qm, .inr (3, [.int 0, .long 0, .null, .null, .int 0, .int 0, .int 0, .int 0, .int 0, .int 0, .int 0, .int 0, .int 0, .int 0, .null, .null, .null, .null, .long 0, .long 0, .null, .null, .int 0, .long 0, .null, .null, .null]))]) hD3 hS hA [17] rfl
  refine va_callv (va_runI (As := []) (rest := [.ref qm]) ⟨hx, hb, hml, hown, hts⟩ (kX3_init l zq D qm H2.size SM hM0) (cwI 0 hts gL_law_X3_init rfl rfl rfl (hts (.initialized RX3) (by decide +kernel)) (hts (.methodLink RL 12 yX3_init) (by decide +kernel)) (hts (.instanceMethod yX3_init) (by decide +kernel)) rfl (by decide +kernel) ⟨by decide, by decide⟩) ⟨z_blind, fun U hU hW => ⟨rfl, by rw [hU], by rw [hU]; exact hPm, va_K.moved hW.alike hKm, hDm.weaken (fun _ _ _ _ => trivial), hX.call hS hU hW hFm⟩⟩ rfl rfl hl.1 rfl (lv_room (Nat.le_of_ble_eq_true rfl)) dL_law_12 ⟨by decide, by decide⟩) hS (fun q _ h => hFm q h) hFm (fun um t2 H3 locs ht2 hvm2 hw2 hB2 hz2 hk2 hS => ?_)
  obtain ⟨ym, am⟩ := um
  obtain ⟨hum, hP4, hK4, hD4⟩ := hB2
  have hum : am 0 = qm := hum
  rw [ht2] at hP4
  have hK4 := va_K.moved hvm2.symm hK4
  obtain ⟨hP5, hD5⟩ := va_join (wr := wX yx ax zX0) (w1 := wM ym am SM) hP3 hD3 [17] [0, 1, 2, 3, 4, 5, 6, 7, 8, 9, 10, 11, 12, 13, 14, 15, 16] rfl rfl (by decide) (by decide) hk2 hFm hP4 hD4
  have hK5 := hK2.app hK4
  obtain ⟨ad, had⟩ : ∃ ad : Nat → Nat, ad = fun k => if k < 17 then ax k else am (k - 17) := ⟨_, rfl⟩
  obtain ⟨cy, hcy⟩ : ∃ cy : Nat → ClassId, cy = fun k => if k < 17 then yx k else ym (k - 17) := ⟨_, rfl⟩
  have hw : wX yx ax zX0 ++ wM ym am SM = wL cy ad (zX0, SM) := by rw [had, hcy]; rfl
  have hty : tX yx ++ tM ym = tL cy := by rw [hcy]; rfl
  rw [hw] at hP5 hD5
  rw [hty] at hK5
  have hI : zI D (fun q : Nat => s.heap.size ≤ q) s H3 locs (wL cy ad (zX0, SM)) := ⟨hP5, hD5, hS⟩
  have h0 : ad 0 = qx := by rw [had, ← hux]; rfl
  have h17 : ad 17 = qm := by rw [had, ← hum]; rfl
  refine lv_astore_n (lv' := [(2, .ref qm), (1, .ref qx), (0, .ref b)]) hx hb dL_law_15 rfl hl (by decide) rfl (fun ls hl => ?_)
  have hl : lv_has ls 4 [(2, .ref (ad 17)), (1, .ref (ad 0)), (0, .ref b)] := by rw [h0, h17]; exact hl
  refine W.widen (k := 29) (n := 1925) (by decide) (by decide) ?_
  exact law_from l zq D cy ad (zX0, SM) hXs hbl hbA rfl ⟨hx, hb, hml, hown, hts, hr, hlocks, hK5, hX, hA⟩ hI hl hf
