def fX0_empty  (S : SS) : Option SS :=
(zL (s_leads_u S (0 : Int64)) (fun S_2 =>
(zL (s_size_u S_2 (0 : Int32)) (fun S_7 =>
some S_7))))
set_option maxHeartbeats 4000000 in
set_option maxRecDepth 100000 in
theorem kX0_empty (l : Launch) (zq : Nat → Nat) (D : va_G) (cy : Nat → ClassId) (ad : Nat → Nat)  (S S' : SS) (hf : fX0_empty S = some S') : zMet l yX0_empty wsX0_empty 0 0 zq D (tS cy) (wS cy ad S) [.ref (ad 0)] none (wS cy ad S') := by
  refine zMet.of cX0_empty 1 none (by decide) rfl (Nat.le_of_ble_eq_true rfl) ?_
  intro p e s m args below meth c A ls C hl hI
  have hl : lv_has ls 1 [(0, .ref (ad 0))] := hl
  have C : zC p s m args meth c cX0_empty 1 none RX0 wsX0_empty D (tS cy) zq A := C
  obtain ⟨hx, hb, hml, hown, hts, hret, hlk, hK, hX, hA⟩ := id C
  have hiX0 : ∀ w ∈ wsX00, w ∈ wsX0_empty := by decide +kernel
  obtain ⟨Q, hQ⟩ : ∃ Q, Q = MQ below (zQ D (tS cy) (wS cy ad S') none A) args s 0 0 A := ⟨_, rfl⟩
  rw [← hQ]
  unfold fX0_empty at hf
  refine lv_aload_n hx hb dX0_empty_0 rfl (lv_at hl 0 rfl) ?_
  refine lv_lconst (v := 0) hx hb dX0_empty_1 (by decide) ?_
  obtain ⟨S_2, eS_2, hf⟩ := zL_e hf
  refine z_put (D := D) (ci := 0) (v := .long (0 : Int64)) (ty := .long) (C := RX0) (T := TX0) (N := 5) (w2 := (wS cy ad S_2)) hx hb hts hiX0 tyX0 tyX0_ok nmX0 hown hK hI 0 rfl rfl 3 (by decide) (hts (.fieldLink RX0 22 "NoughtSums$Span" "leads" "J") (by decide +kernel)) (fun _ h9 => h9) rfl (by decide +kernel) rfl rfl (Nat.le_of_ble_eq_true rfl) dX0_empty_2 (by rw [eS_2]; rfl) (fun H locs hI => ?_)
  refine lv_aload_n hx hb dX0_empty_5 rfl (lv_at hl 0 rfl) ?_
  refine lv_iconst (v := 0) hx hb dX0_empty_6 (by decide) ?_
  obtain ⟨S_7, eS_7, hf⟩ := zL_e hf
  refine z_put (D := D) (ci := 0) (v := .int (0 : Int32)) (ty := .int) (C := RX0) (T := TX0) (N := 5) (w2 := (wS cy ad S_7)) hx hb hts hiX0 tyX0 tyX0_ok nmX0 hown hK hI 0 rfl rfl 4 (by decide) (hts (.fieldLink RX0 26 "NoughtSums$Span" "size" "I") (by decide +kernel)) (fun _ h9 => h9) rfl (by decide +kernel) rfl rfl (Nat.le_of_ble_eq_true rfl) dX0_empty_7 (by rw [eS_7]; rfl) (fun H locs hI => ?_)
  have h2 := zP1 hf
  rw [hQ]
  exact z_vret C (by rw [h2]; exact hI) rfl dX0_empty_10

def fX0_keep (a1 : Int32) (a2 : Int64) (a4 : Int32) (S : SS) : Option SS :=
(if (64 : Int32) ≤ (s_size S) then some S else
(zGI a1 64
(zL (s_rows_u S (vp_updL (s_rows S) a1.toNatClampNeg a2)) (fun S_15 =>
(zGI a1 64
(zL (s_levels_u S_15 (upd (s_levels S_15) a1.toNatClampNeg a4)) (fun S_23 =>
(zGI (s_size S_23) 64
(zL (s_came_u S_23 (upd (s_came S_23) (s_size S_23).toNatClampNeg a1)) (fun S_33 =>
(zL (s_leads_u S_33 ((s_leads S_33) ||| ((1 : Int64) <<< (a1.toInt64 &&& 63)))) (fun S_43 =>
(zL (s_size_u S_43 ((s_size S_43) + (1 : Int32))) (fun S_53 =>
some S_53))))))))))))))
set_option maxHeartbeats 4000000 in
set_option maxRecDepth 100000 in
theorem kX0_keep (l : Launch) (zq : Nat → Nat) (D : va_G) (cy : Nat → ClassId) (ad : Nat → Nat) (a1 : Int32) (a2 : Int64) (a4 : Int32) (S S' : SS) (hf : fX0_keep a1 a2 a4 S = some S') : zMet l yX0_keep wsX0_keep 0 0 zq D (tS cy) (wS cy ad S) [.ref (ad 0), .int a1, .long a2, .int a4] none (wS cy ad S') := by
  refine zMet.of cX0_keep 5 none (by decide) rfl (Nat.le_of_ble_eq_true rfl) ?_
  intro p e s m args below meth c A ls C hl hI
  have hl : lv_has ls 5 [(0, .ref (ad 0)), (1, .int a1), (2, .long a2), (4, .int a4)] := hl
  have C : zC p s m args meth c cX0_keep 5 none RX0 wsX0_keep D (tS cy) zq A := C
  obtain ⟨hx, hb, hml, hown, hts, hret, hlk, hK, hX, hA⟩ := id C
  have hiX0 : ∀ w ∈ wsX00, w ∈ wsX0_keep := by decide +kernel
  obtain ⟨Q, hQ⟩ : ∃ Q, Q = MQ below (zQ D (tS cy) (wS cy ad S') none A) args s 0 0 A := ⟨_, rfl⟩
  rw [← hQ]
  unfold fX0_keep at hf
  refine lv_aload_n hx hb dX0_keep_0 rfl (lv_at hl 0 rfl) ?_
  refine va_get (D := D) (ci := 0) (v := .int (s_size S)) (C := RX0) (T := TX0) (N := 5) hx hb hts hiX0 hown hK hI.1 0 rfl rfl 4 (by decide) (hts (.fieldLink RX0 26 "NoughtSums$Span" "size" "I") (by decide +kernel)) (fun _ h9 => h9) rfl dX0_keep_1 ?_
  refine lv_bipush (v := 64) hx hb dX0_keep_4 (by decide) ?_
  refine lv_icmp_ge (tgt := 56) hx hb dX0_keep_6 (by decide) (fun c_6 => ?_) (fun c_6 => ?_)
  · replace hf := zIt c_6 hf
    have h2 := zP1 hf
    rw [hQ]
    exact z_vret C (by rw [h2]; exact hI) rfl dX0_keep_56
  · replace hf := zIf c_6 hf
    refine lv_aload_n hx hb dX0_keep_9 rfl (lv_at hl 0 rfl) ?_
    refine va_get (D := D) (ci := 0) (v := .ref (ad 1)) (C := RX0) (T := TX0) (N := 5) hx hb hts hiX0 hown hK hI.1 0 rfl rfl 0 (by decide) (hts (.fieldLink RX0 9 "NoughtSums$Span" "rows" "[J") (by decide +kernel)) (fun _ h9 => h9) rfl dX0_keep_10 ?_
    refine lv_iload_n hx hb dX0_keep_13 rfl (lv_at hl 1 rfl) ?_
    refine lv_lload_n hx hb dX0_keep_14 rfl (lv_at hl 2 rfl) ?_
    obtain ⟨g_15, hf⟩ := zGI_s hf
    obtain ⟨S_15, eS_15, hf⟩ := zL_e hf
    refine z_last (f := (s_rows S)) (w2 := (wS cy ad S_15)) hx hb hK hI 1 0 rfl rfl g_15 dX0_keep_15 (by rw [eS_15]; rfl) (fun H locs hI => ?_)
    refine lv_aload_n hx hb dX0_keep_16 rfl (lv_at hl 0 rfl) ?_
    refine va_get (D := D) (ci := 0) (v := .ref (ad 2)) (C := RX0) (T := TX0) (N := 5) hx hb hts hiX0 hown hK hI.1 0 rfl rfl 1 (by decide) (hts (.fieldLink RX0 15 "NoughtSums$Span" "levels" "[I") (by decide +kernel)) (fun _ h9 => h9) rfl dX0_keep_17 ?_
    refine lv_iload_n hx hb dX0_keep_20 rfl (lv_at hl 1 rfl) ?_
    refine lv_iload hx hb dX0_keep_21 (lv_at hl 3 rfl) ?_
    obtain ⟨g_23, hf⟩ := zGI_s hf
    obtain ⟨S_23, eS_23, hf⟩ := zL_e hf
    refine z_iast (f := (s_levels S_15)) (w2 := (wS cy ad S_23)) hx hb hK hI 2 1 rfl rfl g_23 dX0_keep_23 (by rw [eS_23]; rfl) (fun H locs hI => ?_)
    refine lv_aload_n hx hb dX0_keep_24 rfl (lv_at hl 0 rfl) ?_
    refine va_get (D := D) (ci := 0) (v := .ref (ad 3)) (C := RX0) (T := TX0) (N := 5) hx hb hts hiX0 hown hK hI.1 0 rfl rfl 2 (by decide) (hts (.fieldLink RX0 19 "NoughtSums$Span" "came" "[I") (by decide +kernel)) (fun _ h9 => h9) rfl dX0_keep_25 ?_
    refine lv_aload_n hx hb dX0_keep_28 rfl (lv_at hl 0 rfl) ?_
    refine va_get (D := D) (ci := 0) (v := .int (s_size S_23)) (C := RX0) (T := TX0) (N := 5) hx hb hts hiX0 hown hK hI.1 0 rfl rfl 4 (by decide) (hts (.fieldLink RX0 26 "NoughtSums$Span" "size" "I") (by decide +kernel)) (fun _ h9 => h9) rfl dX0_keep_29 ?_
    refine lv_iload_n hx hb dX0_keep_32 rfl (lv_at hl 1 rfl) ?_
    obtain ⟨g_33, hf⟩ := zGI_s hf
    obtain ⟨S_33, eS_33, hf⟩ := zL_e hf
    refine z_iast (f := (s_came S_23)) (w2 := (wS cy ad S_33)) hx hb hK hI 3 2 rfl rfl g_33 dX0_keep_33 (by rw [eS_33]; rfl) (fun H locs hI => ?_)
    refine lv_aload_n hx hb dX0_keep_34 rfl (lv_at hl 0 rfl) ?_
    refine lv_dup hx hb dX0_keep_35 rfl ?_
    refine va_get (D := D) (ci := 0) (v := .long (s_leads S_33)) (C := RX0) (T := TX0) (N := 5) hx hb hts hiX0 hown hK hI.1 0 rfl rfl 3 (by decide) (hts (.fieldLink RX0 22 "NoughtSums$Span" "leads" "J") (by decide +kernel)) (fun _ h9 => h9) rfl dX0_keep_36 ?_
    refine lv_lconst (v := 1) hx hb dX0_keep_39 (by decide) ?_
    refine lv_iload_n hx hb dX0_keep_40 rfl (lv_at hl 1 rfl) ?_
    refine lv_lshl hx hb dX0_keep_41 rfl ?_
    refine lv_lor hx hb dX0_keep_42 ?_
    obtain ⟨S_43, eS_43, hf⟩ := zL_e hf
    refine z_put (D := D) (ci := 0) (v := .long ((s_leads S_33) ||| ((1 : Int64) <<< (a1.toInt64 &&& 63)))) (ty := .long) (C := RX0) (T := TX0) (N := 5) (w2 := (wS cy ad S_43)) hx hb hts hiX0 tyX0 tyX0_ok nmX0 hown hK hI 0 rfl rfl 3 (by decide) (hts (.fieldLink RX0 22 "NoughtSums$Span" "leads" "J") (by decide +kernel)) (fun _ h9 => h9) rfl (by decide +kernel) rfl rfl (Nat.le_of_ble_eq_true rfl) dX0_keep_43 (by rw [eS_43]; rfl) (fun H locs hI => ?_)
    refine lv_aload_n hx hb dX0_keep_46 rfl (lv_at hl 0 rfl) ?_
    refine lv_dup hx hb dX0_keep_47 rfl ?_
    refine va_get (D := D) (ci := 0) (v := .int (s_size S_43)) (C := RX0) (T := TX0) (N := 5) hx hb hts hiX0 hown hK hI.1 0 rfl rfl 4 (by decide) (hts (.fieldLink RX0 26 "NoughtSums$Span" "size" "I") (by decide +kernel)) (fun _ h9 => h9) rfl dX0_keep_48 ?_
    refine lv_iconst (v := 1) hx hb dX0_keep_51 (by decide) ?_
    refine lv_iadd hx hb dX0_keep_52 ?_
    obtain ⟨S_53, eS_53, hf⟩ := zL_e hf
    refine z_put (D := D) (ci := 0) (v := .int ((s_size S_43) + (1 : Int32))) (ty := .int) (C := RX0) (T := TX0) (N := 5) (w2 := (wS cy ad S_53)) hx hb hts hiX0 tyX0 tyX0_ok nmX0 hown hK hI 0 rfl rfl 4 (by decide) (hts (.fieldLink RX0 26 "NoughtSums$Span" "size" "I") (by decide +kernel)) (fun _ h9 => h9) rfl (by decide +kernel) rfl rfl (Nat.le_of_ble_eq_true rfl) dX0_keep_53 (by rw [eS_53]; rfl) (fun H locs hI => ?_)
    have h2 := zP1 hf
    rw [hQ]
    exact z_vret C (by rw [h2]; exact hI) rfl dX0_keep_56

def fX0_add_b71 (k7 : Int32 → Int64 → Int32 → SS → Option SS) (v3 : Int32) (v4 : Int64) (v6 : Int32) (S : SS) : Option SS :=
k7 v3 v4 (v6 + (-1 : Int32)) S

def fX0_add_b7 (k7 : Int32 → Int64 → Int32 → SS → Option SS) (v3 : Int32) (v4 : Int64) (v6 : Int32) (S : SS) : Option SS :=
(if v6 < 0 then some S else
(if (lg_cmp v4 (0 : Int64)) = 0 then some S else
(zGI v6 64
((zB1 (fX2_hasBit v4 (zOrd v6.toNatClampNeg)) (fun r_31 =>
(if r_31 = 0 then fX0_add_b71 k7 v3 v4 v6 S else
(zB1 (fX2_hasBit (s_leads S) (zOrd v6.toNatClampNeg)) (fun r_43 =>
(if r_43 = 0 then (zB1 (fX0_keep (zOrd v6.toNatClampNeg) v4 v3 S) (fun S_55 =>
some S_55)) else
(zGI (zOrd v6.toNatClampNeg) 64
((zL (v4 ^^^ ((s_rows S) (zOrd v6.toNatClampNeg).toNatClampNeg)) (fun n_69 =>
fX0_add_b71 k7 v3 n_69 v6 S))))))))))))))
def fX0_add_b7L : Nat → Int32 → Int64 → Int32 → SS → Option SS
  | 0, _, _, _, _ => none
  | n + 1, v3, v4, v6, S => fX0_add_b7 (fX0_add_b7L n) v3 v4 v6 S

def fX0_add (a1 : Int64) (a3 : Int32) (S : SS) : Option SS :=
fX0_add_b7L zF a3 a1 (63 : Int32) S
set_option maxHeartbeats 4000000 in
set_option maxRecDepth 100000 in
theorem kX0_add (l : Launch) (zq : Nat → Nat) (D : va_G) (cy : Nat → ClassId) (ad : Nat → Nat) (a1 : Int64) (a3 : Int32) (S S' : SS) (hf : fX0_add a1 a3 S = some S') : zMet l yX0_add wsX0_add 1 24 zq D (tS cy) (wS cy ad S) [.ref (ad 0), .long a1, .int a3] none (wS cy ad S') := by
  refine zMet.of cX0_add 8 none (by decide) rfl (Nat.le_of_ble_eq_true rfl) ?_
  intro p e s m args below meth c A ls C hl hI
  have hl : lv_has ls 8 [(0, .ref (ad 0)), (1, .long a1), (3, .int a3)] := hl
  have C : zC p s m args meth c cX0_add 8 none RX0 wsX0_add D (tS cy) zq A := C
  obtain ⟨hx, hb, hml, hown, hts, hret, hlk, hK, hX, hA⟩ := id C
  have hiX0 : ∀ w ∈ wsX00, w ∈ wsX0_add := by decide +kernel
  obtain ⟨Q, hQ⟩ : ∃ Q, Q = MQ below (zQ D (tS cy) (wS cy ad S') none A) args s 0 0 A := ⟨_, rfl⟩
  rw [← hQ]
  have hb71 : ∀ (k7 : Int32 → Int64 → Int32 → SS → Option SS) (hk7 : ∀ (v3 : Int32) (v4 : Int64) (v6 : Int32) (S : SS) (H : Heap) (locs : List Loc) (ls : Array Slot), k7 v3 v4 v6 S = some S' → zI D A s H locs (wS cy ad S) → lv_has ls 8 [(0, .ref (ad 0)), (3, .int v3), (4, .long v4), (6, .int v6)] → W p l e { frames := 1, cells := 0, slots := 0, locals := 24 } s m args below meth c H locs 0 0 Q (F0 m 7 ls [])), ∀ (v3 : Int32) (v4 : Int64) (v6 : Int32) (S : SS) (H : Heap) (locs : List Loc) (ls : Array Slot), fX0_add_b71 k7 v3 v4 v6 S = some S' → zI D A s H locs (wS cy ad S) → lv_has ls 8 [(0, .ref (ad 0)), (3, .int v3), (4, .long v4), (6, .int v6)] → W p l e { frames := 1, cells := 0, slots := 0, locals := 24 } s m args below meth c H locs 0 0 Q (F0 m 71 ls []) := by
    intro k7 hk7 v3 v4 v6 S H locs ls hf hI hl
    unfold fX0_add_b71 at hf
    refine lv_iinc (v := (v6 + (-1 : Int32))) (lv' := [(6, .int (v6 + (-1 : Int32))), (0, .ref (ad 0)), (3, .int v3), (4, .long v4)]) hx hb dX0_add_71 hl (k := 3) rfl rfl (by decide) rfl (fun ls hl => ?_)
    refine lv_goto (tgt := 7) hx hb dX0_add_74 (by decide) ?_
    exact hk7 v3 v4 (v6 + (-1 : Int32)) S _ _ _ hf hI (lv_sub hl [1, 2, 3, 0] rfl)
  have hb7 : ∀ (n : Nat), ∀ (v3 : Int32) (v4 : Int64) (v6 : Int32) (S : SS) (H : Heap) (locs : List Loc) (ls : Array Slot), fX0_add_b7L n v3 v4 v6 S = some S' → zI D A s H locs (wS cy ad S) → lv_has ls 8 [(0, .ref (ad 0)), (3, .int v3), (4, .long v4), (6, .int v6)] → W p l e { frames := 1, cells := 0, slots := 0, locals := 24 } s m args below meth c H locs 0 0 Q (F0 m 7 ls []) := by
    intro n
    induction n with
    | zero => intro v3 v4 v6 S H locs ls hf; cases (show (none : Option SS) = some S' from hf)
    | succ n ih =>
      intro v3 v4 v6 S H locs ls hf hI hl
      have hf : fX0_add_b7 (fX0_add_b7L n) v3 v4 v6 S = some S' := hf
      unfold fX0_add_b7 at hf
      refine lv_iload hx hb dX0_add_7 (lv_at hl 3 rfl) ?_
      refine lv_if_lt (tgt := 77) hx hb dX0_add_9 (by decide) (fun c_9 => ?_) (fun c_9 => ?_)
      · replace hf := zIt c_9 hf
        have h2 := zP1 hf
        rw [hQ]
        exact z_vret C (by rw [h2]; exact hI) rfl dX0_add_77
      · replace hf := zIf c_9 hf
        refine lv_lload hx hb dX0_add_12 (lv_at hl 2 rfl) ?_
        refine lv_lconst (v := 0) hx hb dX0_add_14 (by decide) ?_
        refine W.lcmp hx hb dX0_add_15 ?_
        refine lv_if_eq (tgt := 77) hx hb dX0_add_16 (by decide) (fun c_16 => ?_) (fun c_16 => ?_)
        · replace hf := zIt c_16 hf
          have h2 := zP1 hf
          rw [hQ]
          exact z_vret C (by rw [h2]; exact hI) rfl dX0_add_77
        · replace hf := zIf c_16 hf
          refine va_getsN (C := RX2) (n := "ORDER") (d := "[I") hx hb hX.2.1 hI.2.2 hown (va_Nw.use rfl hX.1.2.2.2.2.1) (fun _ h9 => h9) dX0_add_19 ?_
          refine lv_iload hx hb dX0_add_22 (lv_at hl 3 rfl) ?_
          obtain ⟨g_24, hf⟩ := zGI_s hf
          refine va_ti hx hb hX.2.2.1 hI.2.2 g_24 (v := .int (zOrd v6.toNatClampNeg)) rfl dX0_add_24 ?_
          refine lv_istore (lv' := [(7, .int (zOrd v6.toNatClampNeg)), (0, .ref (ad 0)), (3, .int v3), (4, .long v4), (6, .int v6)]) hx hb dX0_add_25 hl (by decide) rfl (fun ls hl => ?_)
          refine lv_lload hx hb dX0_add_27 (lv_at hl 3 rfl) ?_
          refine lv_iload hx hb dX0_add_29 (lv_at hl 0 rfl) ?_
          obtain ⟨r_31, hf_31, hf⟩ := zB1_s hf
          refine z_callN C 2 (kX2_hasBit l zq D v4 (zOrd v6.toNatClampNeg) r_31 hf_31) gX0_add_X2_hasBit_n33 rfl hX.1.2.2.2.2.2.1 (hts (.initialized RX2) (by decide +kernel)) (hts (.static yX2_hasBit) (by decide +kernel)) (by decide +kernel) ⟨by decide, by decide⟩ hI rfl hl.1 rfl (Nat.le_of_ble_eq_true rfl) dX0_add_31 ⟨by decide, by decide⟩ (st2 := [.int r_31]) rfl (fun H locs hI => ?_)
          refine lv_if_eq (tgt := 71) hx hb dX0_add_34 (by decide) (fun c_34 => ?_) (fun c_34 => ?_)
          · replace hf := zIt c_34 hf
            exact hb71 (fX0_add_b7L n) ih v3 v4 v6 S _ _ _ hf hI (lv_sub hl [1, 2, 3, 4] rfl)
          · replace hf := zIf c_34 hf
            refine lv_aload_n hx hb dX0_add_37 rfl (lv_at hl 1 rfl) ?_
            refine va_get (D := D) (ci := 0) (v := .long (s_leads S)) (C := RX0) (T := TX0) (N := 5) hx hb hts hiX0 hown hK hI.1 0 rfl rfl 3 (by decide) (hts (.fieldLink RX0 22 "NoughtSums$Span" "leads" "J") (by decide +kernel)) (fun _ h9 => h9) rfl dX0_add_38 ?_
            refine lv_iload hx hb dX0_add_41 (lv_at hl 0 rfl) ?_
            obtain ⟨r_43, hf_43, hf⟩ := zB1_s hf
            refine z_callN C 2 (kX2_hasBit l zq D (s_leads S) (zOrd v6.toNatClampNeg) r_43 hf_43) gX0_add_X2_hasBit_n33 rfl hX.1.2.2.2.2.2.1 (hts (.initialized RX2) (by decide +kernel)) (hts (.static yX2_hasBit) (by decide +kernel)) (by decide +kernel) ⟨by decide, by decide⟩ hI rfl hl.1 rfl (Nat.le_of_ble_eq_true rfl) dX0_add_43 ⟨by decide, by decide⟩ (st2 := [.int r_43]) rfl (fun H locs hI => ?_)
            refine lv_if_ne (tgt := 59) hx hb dX0_add_46 (by decide) (fun c_46 => ?_) (fun c_46 => ?_)
            · replace hf := zIf c_46 hf
              refine lv_lload hx hb dX0_add_59 (lv_at hl 3 rfl) ?_
              refine lv_aload_n hx hb dX0_add_61 rfl (lv_at hl 1 rfl) ?_
              refine va_get (D := D) (ci := 0) (v := .ref (ad 1)) (C := RX0) (T := TX0) (N := 5) hx hb hts hiX0 hown hK hI.1 0 rfl rfl 0 (by decide) (hts (.fieldLink RX0 9 "NoughtSums$Span" "rows" "[J") (by decide +kernel)) (fun _ h9 => h9) rfl dX0_add_62 ?_
              refine lv_iload hx hb dX0_add_65 (lv_at hl 0 rfl) ?_
              obtain ⟨g_67, hf⟩ := zGI_s hf
              refine va_lald (f := (s_rows S)) hx hb hK hI.1 1 0 rfl rfl g_67 dX0_add_67 ?_
              refine lv_lxor hx hb dX0_add_68 ?_
              refine lv_topl (fun n_69 e_69 => ?_)
              replace hf := zL_s hf e_69
              refine lv_lstore (lv' := [(4, .long n_69), (7, .int (zOrd v6.toNatClampNeg)), (0, .ref (ad 0)), (3, .int v3), (6, .int v6)]) hx hb dX0_add_69 hl (by decide) rfl (fun ls hl => ?_)
              exact hb71 (fX0_add_b7L n) ih v3 n_69 v6 S _ _ _ hf hI (lv_sub hl [2, 3, 0, 4] rfl)
            · replace hf := zIt c_46 hf
              refine lv_aload_n hx hb dX0_add_49 rfl (lv_at hl 1 rfl) ?_
              refine lv_iload hx hb dX0_add_50 (lv_at hl 0 rfl) ?_
              refine lv_lload hx hb dX0_add_52 (lv_at hl 3 rfl) ?_
              refine lv_iload_n hx hb dX0_add_54 rfl (lv_at hl 2 rfl) ?_
              obtain ⟨S_55, hf_55, hf⟩ := zB1_s hf
              refine z_callV (w2 := (wS cy ad S_55)) C 3 (kX0_keep l zq D cy ad (zOrd v6.toNatClampNeg) v4 v3 S S_55 hf_55) gX0_add_X0_keep rfl (by decide +kernel) ⟨by decide, by decide⟩ hI 0 rfl rfl rfl hl.1 rfl (Nat.le_of_ble_eq_true rfl) dX0_add_55 ⟨by decide, by decide⟩ (st2 := []) rfl (fun H locs hI => ?_)
              have h2 := zP1 hf
              rw [hQ]
              exact z_vret C (by rw [h2]; exact hI) rfl dX0_add_58
  unfold fX0_add at hf
  refine lv_lload_n hx hb dX0_add_0 rfl (lv_at hl 1 rfl) ?_
  refine lv_lstore (lv' := [(4, .long a1), (0, .ref (ad 0)), (1, .long a1), (3, .int a3)]) hx hb dX0_add_1 hl (by decide) rfl (fun ls hl => ?_)
  refine lv_bipush (v := 63) hx hb dX0_add_3 (by decide) ?_
  refine lv_istore (lv' := [(6, .int (63 : Int32)), (4, .long a1), (0, .ref (ad 0)), (1, .long a1), (3, .int a3)]) hx hb dX0_add_5 hl (by decide) rfl (fun ls hl => ?_)
  exact hb7 zF a3 a1 (63 : Int32) S _ _ _ hf hI (lv_sub hl [2, 4, 1, 0] rfl)

def fX0_sumOfRow (a1 : Int32) (S : SS) : Option (Int64 × SS) :=
(if a1 < 0 then some ((0 : Int64), S) else
(if (s_size S) ≤ a1 then some ((0 : Int64), S) else
(zGI a1 64
((zGI ((s_came S) a1.toNatClampNeg) 64
(some (((s_rows S) ((s_came S) a1.toNatClampNeg).toNatClampNeg), S)))))))
set_option maxHeartbeats 4000000 in
set_option maxRecDepth 100000 in
theorem kX0_sumOfRow (l : Launch) (zq : Nat → Nat) (D : va_G) (cy : Nat → ClassId) (ad : Nat → Nat) (a1 : Int32) (S S' : SS) (r : Int64) (hf : fX0_sumOfRow a1 S = some (r, S')) : zMet l yX0_sumOfRow wsX0_sumOfRow 0 0 zq D (tS cy) (wS cy ad S) [.ref (ad 0), .int a1] (some (.long r)) (wS cy ad S') := by
  refine zMet.of cX0_sumOfRow 2 (some .long) (by decide) rfl (Nat.le_of_ble_eq_true rfl) ?_
  intro p e s m args below meth c A ls C hl hI
  have hl : lv_has ls 2 [(0, .ref (ad 0)), (1, .int a1)] := hl
  have C : zC p s m args meth c cX0_sumOfRow 2 (some .long) RX0 wsX0_sumOfRow D (tS cy) zq A := C
  obtain ⟨hx, hb, hml, hown, hts, hret, hlk, hK, hX, hA⟩ := id C
  have hiX0 : ∀ w ∈ wsX00, w ∈ wsX0_sumOfRow := by decide +kernel
  obtain ⟨Q, hQ⟩ : ∃ Q, Q = MQ below (zQ D (tS cy) (wS cy ad S') (some (.long r)) A) args s 0 0 A := ⟨_, rfl⟩
  rw [← hQ]
  unfold fX0_sumOfRow at hf
  refine lv_iload_n hx hb dX0_sumOfRow_0 rfl (lv_at hl 1 rfl) ?_
  refine lv_if_lt (tgt := 26) hx hb dX0_sumOfRow_1 (by decide) (fun c_1 => ?_) (fun c_1 => ?_)
  · replace hf := zIt c_1 hf
    refine lv_lconst (v := 0) hx hb dX0_sumOfRow_26 (by decide) ?_
    obtain ⟨h1, h2⟩ := zP2 hf
    rw [hQ]
    exact z_lret C (by rw [h2]; exact hI) (by rw [h1]) dX0_sumOfRow_27
  · replace hf := zIf c_1 hf
    refine lv_iload_n hx hb dX0_sumOfRow_4 rfl (lv_at hl 1 rfl) ?_
    refine lv_aload_n hx hb dX0_sumOfRow_5 rfl (lv_at hl 0 rfl) ?_
    refine va_get (D := D) (ci := 0) (v := .int (s_size S)) (C := RX0) (T := TX0) (N := 5) hx hb hts hiX0 hown hK hI.1 0 rfl rfl 4 (by decide) (hts (.fieldLink RX0 26 "NoughtSums$Span" "size" "I") (by decide +kernel)) (fun _ h9 => h9) rfl dX0_sumOfRow_6 ?_
    refine lv_icmp_ge (tgt := 26) hx hb dX0_sumOfRow_9 (by decide) (fun c_9 => ?_) (fun c_9 => ?_)
    · replace hf := zIt c_9 hf
      refine lv_lconst (v := 0) hx hb dX0_sumOfRow_26 (by decide) ?_
      obtain ⟨h1, h2⟩ := zP2 hf
      rw [hQ]
      exact z_lret C (by rw [h2]; exact hI) (by rw [h1]) dX0_sumOfRow_27
    · replace hf := zIf c_9 hf
      refine lv_aload_n hx hb dX0_sumOfRow_12 rfl (lv_at hl 0 rfl) ?_
      refine va_get (D := D) (ci := 0) (v := .ref (ad 1)) (C := RX0) (T := TX0) (N := 5) hx hb hts hiX0 hown hK hI.1 0 rfl rfl 0 (by decide) (hts (.fieldLink RX0 9 "NoughtSums$Span" "rows" "[J") (by decide +kernel)) (fun _ h9 => h9) rfl dX0_sumOfRow_13 ?_
      refine lv_aload_n hx hb dX0_sumOfRow_16 rfl (lv_at hl 0 rfl) ?_
      refine va_get (D := D) (ci := 0) (v := .ref (ad 3)) (C := RX0) (T := TX0) (N := 5) hx hb hts hiX0 hown hK hI.1 0 rfl rfl 2 (by decide) (hts (.fieldLink RX0 19 "NoughtSums$Span" "came" "[I") (by decide +kernel)) (fun _ h9 => h9) rfl dX0_sumOfRow_17 ?_
      refine lv_iload_n hx hb dX0_sumOfRow_20 rfl (lv_at hl 1 rfl) ?_
      obtain ⟨g_21, hf⟩ := zGI_s hf
      refine va_iald (f := (s_came S)) hx hb hK hI.1 3 2 rfl rfl g_21 dX0_sumOfRow_21 ?_
      obtain ⟨g_22, hf⟩ := zGI_s hf
      refine va_lald (f := (s_rows S)) hx hb hK hI.1 1 0 rfl rfl g_22 dX0_sumOfRow_22 ?_
      refine lv_goto (tgt := 27) hx hb dX0_sumOfRow_23 (by decide) ?_
      obtain ⟨h1, h2⟩ := zP2 hf
      rw [hQ]
      exact z_lret C (by rw [h2]; exact hI) (by rw [h1]) dX0_sumOfRow_27

def fX0_levelOfRow (a1 : Int32) (S : SS) : Option (Int32 × SS) :=
(if a1 < 0 then some ((-9 : Int32), S) else
(if (s_size S) ≤ a1 then some ((-9 : Int32), S) else
(zGI a1 64
((zGI ((s_came S) a1.toNatClampNeg) 64
(some (((s_levels S) ((s_came S) a1.toNatClampNeg).toNatClampNeg), S)))))))
set_option maxHeartbeats 4000000 in
set_option maxRecDepth 100000 in
theorem kX0_levelOfRow (l : Launch) (zq : Nat → Nat) (D : va_G) (cy : Nat → ClassId) (ad : Nat → Nat) (a1 : Int32) (S S' : SS) (r : Int32) (hf : fX0_levelOfRow a1 S = some (r, S')) : zMet l yX0_levelOfRow wsX0_levelOfRow 0 0 zq D (tS cy) (wS cy ad S) [.ref (ad 0), .int a1] (some (.int r)) (wS cy ad S') := by
  refine zMet.of cX0_levelOfRow 2 (some .int) (by decide) rfl (Nat.le_of_ble_eq_true rfl) ?_
  intro p e s m args below meth c A ls C hl hI
  have hl : lv_has ls 2 [(0, .ref (ad 0)), (1, .int a1)] := hl
  have C : zC p s m args meth c cX0_levelOfRow 2 (some .int) RX0 wsX0_levelOfRow D (tS cy) zq A := C
  obtain ⟨hx, hb, hml, hown, hts, hret, hlk, hK, hX, hA⟩ := id C
  have hiX0 : ∀ w ∈ wsX00, w ∈ wsX0_levelOfRow := by decide +kernel
  obtain ⟨Q, hQ⟩ : ∃ Q, Q = MQ below (zQ D (tS cy) (wS cy ad S') (some (.int r)) A) args s 0 0 A := ⟨_, rfl⟩
  rw [← hQ]
  unfold fX0_levelOfRow at hf
  refine lv_iload_n hx hb dX0_levelOfRow_0 rfl (lv_at hl 1 rfl) ?_
  refine lv_if_lt (tgt := 26) hx hb dX0_levelOfRow_1 (by decide) (fun c_1 => ?_) (fun c_1 => ?_)
  · replace hf := zIt c_1 hf
    refine lv_bipush (v := -9) hx hb dX0_levelOfRow_26 (by decide) ?_
    obtain ⟨h1, h2⟩ := zP2 hf
    rw [hQ]
    exact z_iret C (by rw [h2]; exact hI) (by rw [h1]) dX0_levelOfRow_28
  · replace hf := zIf c_1 hf
    refine lv_iload_n hx hb dX0_levelOfRow_4 rfl (lv_at hl 1 rfl) ?_
    refine lv_aload_n hx hb dX0_levelOfRow_5 rfl (lv_at hl 0 rfl) ?_
    refine va_get (D := D) (ci := 0) (v := .int (s_size S)) (C := RX0) (T := TX0) (N := 5) hx hb hts hiX0 hown hK hI.1 0 rfl rfl 4 (by decide) (hts (.fieldLink RX0 26 "NoughtSums$Span" "size" "I") (by decide +kernel)) (fun _ h9 => h9) rfl dX0_levelOfRow_6 ?_
    refine lv_icmp_ge (tgt := 26) hx hb dX0_levelOfRow_9 (by decide) (fun c_9 => ?_) (fun c_9 => ?_)
    · replace hf := zIt c_9 hf
      refine lv_bipush (v := -9) hx hb dX0_levelOfRow_26 (by decide) ?_
      obtain ⟨h1, h2⟩ := zP2 hf
      rw [hQ]
      exact z_iret C (by rw [h2]; exact hI) (by rw [h1]) dX0_levelOfRow_28
    · replace hf := zIf c_9 hf
      refine lv_aload_n hx hb dX0_levelOfRow_12 rfl (lv_at hl 0 rfl) ?_
      refine va_get (D := D) (ci := 0) (v := .ref (ad 2)) (C := RX0) (T := TX0) (N := 5) hx hb hts hiX0 hown hK hI.1 0 rfl rfl 1 (by decide) (hts (.fieldLink RX0 15 "NoughtSums$Span" "levels" "[I") (by decide +kernel)) (fun _ h9 => h9) rfl dX0_levelOfRow_13 ?_
      refine lv_aload_n hx hb dX0_levelOfRow_16 rfl (lv_at hl 0 rfl) ?_
      refine va_get (D := D) (ci := 0) (v := .ref (ad 3)) (C := RX0) (T := TX0) (N := 5) hx hb hts hiX0 hown hK hI.1 0 rfl rfl 2 (by decide) (hts (.fieldLink RX0 19 "NoughtSums$Span" "came" "[I") (by decide +kernel)) (fun _ h9 => h9) rfl dX0_levelOfRow_17 ?_
      refine lv_iload_n hx hb dX0_levelOfRow_20 rfl (lv_at hl 1 rfl) ?_
      obtain ⟨g_21, hf⟩ := zGI_s hf
      refine va_iald (f := (s_came S)) hx hb hK hI.1 3 2 rfl rfl g_21 dX0_levelOfRow_21 ?_
      obtain ⟨g_22, hf⟩ := zGI_s hf
      refine va_iald (f := (s_levels S)) hx hb hK hI.1 2 1 rfl rfl g_22 dX0_levelOfRow_22 ?_
      refine lv_goto (tgt := 28) hx hb dX0_levelOfRow_23 (by decide) ?_
      obtain ⟨h1, h2⟩ := zP2 hf
      rw [hQ]
      exact z_iret C (by rw [h2]; exact hI) (by rw [h1]) dX0_levelOfRow_28

def fX0_reduced_b50 (k6 : Int64 → Int32 → SS → Option (Int64 × SS)) (v3 : Int64) (v5 : Int32) (S : SS) : Option (Int64 × SS) :=
k6 v3 (v5 + (-1 : Int32)) S

def fX0_reduced_b6 (k6 : Int64 → Int32 → SS → Option (Int64 × SS)) (v3 : Int64) (v5 : Int32) (S : SS) : Option (Int64 × SS) :=
(if v5 < 0 then some (v3, S) else
(zGI v5 64
((zB1 (fX2_hasBit v3 (zOrd v5.toNatClampNeg)) (fun r_22 =>
(if r_22 = 0 then fX0_reduced_b50 k6 v3 v5 S else
(zB1 (fX2_hasBit (s_leads S) (zOrd v5.toNatClampNeg)) (fun r_34 =>
(if r_34 = 0 then fX0_reduced_b50 k6 v3 v5 S else
(zGI (zOrd v5.toNatClampNeg) 64
((zL (v3 ^^^ ((s_rows S) (zOrd v5.toNatClampNeg).toNatClampNeg)) (fun n_49 =>
fX0_reduced_b50 k6 n_49 v5 S)))))))))))))
def fX0_reduced_b6L : Nat → Int64 → Int32 → SS → Option (Int64 × SS)
  | 0, _, _, _ => none
  | n + 1, v3, v5, S => fX0_reduced_b6 (fX0_reduced_b6L n) v3 v5 S

def fX0_reduced (a1 : Int64) (S : SS) : Option (Int64 × SS) :=
fX0_reduced_b6L zF a1 (63 : Int32) S
set_option maxHeartbeats 4000000 in
set_option maxRecDepth 100000 in
theorem kX0_reduced (l : Launch) (zq : Nat → Nat) (D : va_G) (cy : Nat → ClassId) (ad : Nat → Nat) (a1 : Int64) (S S' : SS) (r : Int64) (hf : fX0_reduced a1 S = some (r, S')) : zMet l yX0_reduced wsX0_reduced 1 22 zq D (tS cy) (wS cy ad S) [.ref (ad 0), .long a1] (some (.long r)) (wS cy ad S') := by
  refine zMet.of cX0_reduced 7 (some .long) (by decide) rfl (Nat.le_of_ble_eq_true rfl) ?_
  intro p e s m args below meth c A ls C hl hI
  have hl : lv_has ls 7 [(0, .ref (ad 0)), (1, .long a1)] := hl
  have C : zC p s m args meth c cX0_reduced 7 (some .long) RX0 wsX0_reduced D (tS cy) zq A := C
  obtain ⟨hx, hb, hml, hown, hts, hret, hlk, hK, hX, hA⟩ := id C
  have hiX0 : ∀ w ∈ wsX00, w ∈ wsX0_reduced := by decide +kernel
  obtain ⟨Q, hQ⟩ : ∃ Q, Q = MQ below (zQ D (tS cy) (wS cy ad S') (some (.long r)) A) args s 0 0 A := ⟨_, rfl⟩
  rw [← hQ]
  have hb50 : ∀ (k6 : Int64 → Int32 → SS → Option (Int64 × SS)) (hk6 : ∀ (v3 : Int64) (v5 : Int32) (S : SS) (H : Heap) (locs : List Loc) (ls : Array Slot), k6 v3 v5 S = some (r, S') → zI D A s H locs (wS cy ad S) → lv_has ls 7 [(0, .ref (ad 0)), (3, .long v3), (5, .int v5)] → W p l e { frames := 1, cells := 0, slots := 0, locals := 22 } s m args below meth c H locs 0 0 Q (F0 m 6 ls [])), ∀ (v3 : Int64) (v5 : Int32) (S : SS) (H : Heap) (locs : List Loc) (ls : Array Slot), fX0_reduced_b50 k6 v3 v5 S = some (r, S') → zI D A s H locs (wS cy ad S) → lv_has ls 7 [(0, .ref (ad 0)), (3, .long v3), (5, .int v5)] → W p l e { frames := 1, cells := 0, slots := 0, locals := 22 } s m args below meth c H locs 0 0 Q (F0 m 50 ls []) := by
    intro k6 hk6 v3 v5 S H locs ls hf hI hl
    unfold fX0_reduced_b50 at hf
    refine lv_iinc (v := (v5 + (-1 : Int32))) (lv' := [(5, .int (v5 + (-1 : Int32))), (0, .ref (ad 0)), (3, .long v3)]) hx hb dX0_reduced_50 hl (k := 2) rfl rfl (by decide) rfl (fun ls hl => ?_)
    refine lv_goto (tgt := 6) hx hb dX0_reduced_53 (by decide) ?_
    exact hk6 v3 (v5 + (-1 : Int32)) S _ _ _ hf hI (lv_sub hl [1, 2, 0] rfl)
  have hb6 : ∀ (n : Nat), ∀ (v3 : Int64) (v5 : Int32) (S : SS) (H : Heap) (locs : List Loc) (ls : Array Slot), fX0_reduced_b6L n v3 v5 S = some (r, S') → zI D A s H locs (wS cy ad S) → lv_has ls 7 [(0, .ref (ad 0)), (3, .long v3), (5, .int v5)] → W p l e { frames := 1, cells := 0, slots := 0, locals := 22 } s m args below meth c H locs 0 0 Q (F0 m 6 ls []) := by
    intro n
    induction n with
    | zero => intro v3 v5 S H locs ls hf; cases (show (none : Option (Int64 × SS)) = some (r, S') from hf)
    | succ n ih =>
      intro v3 v5 S H locs ls hf hI hl
      have hf : fX0_reduced_b6 (fX0_reduced_b6L n) v3 v5 S = some (r, S') := hf
      unfold fX0_reduced_b6 at hf
      refine lv_iload hx hb dX0_reduced_6 (lv_at hl 2 rfl) ?_
      refine lv_if_lt (tgt := 56) hx hb dX0_reduced_8 (by decide) (fun c_8 => ?_) (fun c_8 => ?_)
      · replace hf := zIt c_8 hf
        refine lv_lload_n hx hb dX0_reduced_56 rfl (lv_at hl 1 rfl) ?_
        obtain ⟨h1, h2⟩ := zP2 hf
        rw [hQ]
        exact z_lret C (by rw [h2]; exact hI) (by rw [h1]) dX0_reduced_57
      · replace hf := zIf c_8 hf
        refine va_getsN (C := RX2) (n := "ORDER") (d := "[I") hx hb hX.2.1 hI.2.2 hown (va_Nw.use rfl hX.1.2.2.2.2.1) (fun _ h9 => h9) dX0_reduced_11 ?_
        refine lv_iload hx hb dX0_reduced_14 (lv_at hl 2 rfl) ?_
        obtain ⟨g_16, hf⟩ := zGI_s hf
        refine va_ti hx hb hX.2.2.1 hI.2.2 g_16 (v := .int (zOrd v5.toNatClampNeg)) rfl dX0_reduced_16 ?_
        refine lv_istore (lv' := [(6, .int (zOrd v5.toNatClampNeg)), (0, .ref (ad 0)), (3, .long v3), (5, .int v5)]) hx hb dX0_reduced_17 hl (by decide) rfl (fun ls hl => ?_)
        refine lv_lload_n hx hb dX0_reduced_19 rfl (lv_at hl 2 rfl) ?_
        refine lv_iload hx hb dX0_reduced_20 (lv_at hl 0 rfl) ?_
        obtain ⟨r_22, hf_22, hf⟩ := zB1_s hf
        refine z_callN C 2 (kX2_hasBit l zq D v3 (zOrd v5.toNatClampNeg) r_22 hf_22) gX0_reduced_X2_hasBit_n33 rfl hX.1.2.2.2.2.2.1 (hts (.initialized RX2) (by decide +kernel)) (hts (.static yX2_hasBit) (by decide +kernel)) (by decide +kernel) ⟨by decide, by decide⟩ hI rfl hl.1 rfl (Nat.le_of_ble_eq_true rfl) dX0_reduced_22 ⟨by decide, by decide⟩ (st2 := [.int r_22]) rfl (fun H locs hI => ?_)
        refine lv_if_eq (tgt := 50) hx hb dX0_reduced_25 (by decide) (fun c_25 => ?_) (fun c_25 => ?_)
        · replace hf := zIt c_25 hf
          exact hb50 (fX0_reduced_b6L n) ih v3 v5 S _ _ _ hf hI (lv_sub hl [1, 2, 3] rfl)
        · replace hf := zIf c_25 hf
          refine lv_aload_n hx hb dX0_reduced_28 rfl (lv_at hl 1 rfl) ?_
          refine va_get (D := D) (ci := 0) (v := .long (s_leads S)) (C := RX0) (T := TX0) (N := 5) hx hb hts hiX0 hown hK hI.1 0 rfl rfl 3 (by decide) (hts (.fieldLink RX0 22 "NoughtSums$Span" "leads" "J") (by decide +kernel)) (fun _ h9 => h9) rfl dX0_reduced_29 ?_
          refine lv_iload hx hb dX0_reduced_32 (lv_at hl 0 rfl) ?_
          obtain ⟨r_34, hf_34, hf⟩ := zB1_s hf
          refine z_callN C 2 (kX2_hasBit l zq D (s_leads S) (zOrd v5.toNatClampNeg) r_34 hf_34) gX0_reduced_X2_hasBit_n33 rfl hX.1.2.2.2.2.2.1 (hts (.initialized RX2) (by decide +kernel)) (hts (.static yX2_hasBit) (by decide +kernel)) (by decide +kernel) ⟨by decide, by decide⟩ hI rfl hl.1 rfl (Nat.le_of_ble_eq_true rfl) dX0_reduced_34 ⟨by decide, by decide⟩ (st2 := [.int r_34]) rfl (fun H locs hI => ?_)
          refine lv_if_eq (tgt := 50) hx hb dX0_reduced_37 (by decide) (fun c_37 => ?_) (fun c_37 => ?_)
          · replace hf := zIt c_37 hf
            exact hb50 (fX0_reduced_b6L n) ih v3 v5 S _ _ _ hf hI (lv_sub hl [1, 2, 3] rfl)
          · replace hf := zIf c_37 hf
            refine lv_lload_n hx hb dX0_reduced_40 rfl (lv_at hl 2 rfl) ?_
            refine lv_aload_n hx hb dX0_reduced_41 rfl (lv_at hl 1 rfl) ?_
            refine va_get (D := D) (ci := 0) (v := .ref (ad 1)) (C := RX0) (T := TX0) (N := 5) hx hb hts hiX0 hown hK hI.1 0 rfl rfl 0 (by decide) (hts (.fieldLink RX0 9 "NoughtSums$Span" "rows" "[J") (by decide +kernel)) (fun _ h9 => h9) rfl dX0_reduced_42 ?_
            refine lv_iload hx hb dX0_reduced_45 (lv_at hl 0 rfl) ?_
            obtain ⟨g_47, hf⟩ := zGI_s hf
            refine va_lald (f := (s_rows S)) hx hb hK hI.1 1 0 rfl rfl g_47 dX0_reduced_47 ?_
            refine lv_lxor hx hb dX0_reduced_48 ?_
            refine lv_topl (fun n_49 e_49 => ?_)
            replace hf := zL_s hf e_49
            refine lv_lstore_n (lv' := [(3, .long n_49), (6, .int (zOrd v5.toNatClampNeg)), (0, .ref (ad 0)), (5, .int v5)]) hx hb dX0_reduced_49 rfl hl (by decide) rfl (fun ls hl => ?_)
            exact hb50 (fX0_reduced_b6L n) ih n_49 v5 S _ _ _ hf hI (lv_sub hl [2, 0, 3] rfl)
  unfold fX0_reduced at hf
  refine lv_lload_n hx hb dX0_reduced_0 rfl (lv_at hl 1 rfl) ?_
  refine lv_lstore_n (lv' := [(3, .long a1), (0, .ref (ad 0)), (1, .long a1)]) hx hb dX0_reduced_1 rfl hl (by decide) rfl (fun ls hl => ?_)
  refine lv_bipush (v := 63) hx hb dX0_reduced_2 (by decide) ?_
  refine lv_istore (lv' := [(5, .int (63 : Int32)), (3, .long a1), (0, .ref (ad 0)), (1, .long a1)]) hx hb dX0_reduced_4 hl (by decide) rfl (fun ls hl => ?_)
  exact hb6 zF a1 (63 : Int32) S _ _ _ hf hI (lv_sub hl [2, 1, 0] rfl)

def fX0_levelOf_b76 (k9 : Int64 → Int32 → Int32 → SS → Option (Int32 × SS)) (v3 : Int64) (v5 : Int32) (v6 : Int32) (S : SS) : Option (Int32 × SS) :=
k9 v3 v5 (v6 + (-1 : Int32)) S

def fX0_levelOf_b9 (k9 : Int64 → Int32 → Int32 → SS → Option (Int32 × SS)) (v3 : Int64) (v5 : Int32) (v6 : Int32) (S : SS) : Option (Int32 × SS) :=
(if v6 < 0 then some (v5, S) else
(if (lg_cmp v3 (0 : Int64)) = 0 then some (v5, S) else
(zGI v6 64
((zB1 (fX2_hasBit v3 (zOrd v6.toNatClampNeg)) (fun r_31 =>
(if r_31 = 0 then fX0_levelOf_b76 k9 v3 v5 v6 S else
(zB1 (fX2_hasBit (s_leads S) (zOrd v6.toNatClampNeg)) (fun r_43 =>
(if r_43 = 0 then some ((-9 : Int32), S) else
(zGI (zOrd v6.toNatClampNeg) 64
((zL (if v5 < ((s_levels S) (zOrd v6.toNatClampNeg).toNatClampNeg) then ((s_levels S) (zOrd v6.toNatClampNeg).toNatClampNeg) else v5) (fun n_64 =>
(zGI (zOrd v6.toNatClampNeg) 64
((zL (v3 ^^^ ((s_rows S) (zOrd v6.toNatClampNeg).toNatClampNeg)) (fun n_75 =>
fX0_levelOf_b76 k9 n_75 n_64 v6 S))))))))))))))))))
def fX0_levelOf_b9L : Nat → Int64 → Int32 → Int32 → SS → Option (Int32 × SS)
  | 0, _, _, _, _ => none
  | n + 1, v3, v5, v6, S => fX0_levelOf_b9 (fX0_levelOf_b9L n) v3 v5 v6 S

def fX0_levelOf (a1 : Int64) (S : SS) : Option (Int32 × SS) :=
fX0_levelOf_b9L zF a1 (0 : Int32) (63 : Int32) S
set_option maxHeartbeats 4000000 in
set_option maxRecDepth 100000 in
theorem kX0_levelOf (l : Launch) (zq : Nat → Nat) (D : va_G) (cy : Nat → ClassId) (ad : Nat → Nat) (a1 : Int64) (S S' : SS) (r : Int32) (hf : fX0_levelOf a1 S = some (r, S')) : zMet l yX0_levelOf wsX0_levelOf 1 22 zq D (tS cy) (wS cy ad S) [.ref (ad 0), .long a1] (some (.int r)) (wS cy ad S') := by
  refine zMet.of cX0_levelOf 8 (some .int) (by decide) rfl (Nat.le_of_ble_eq_true rfl) ?_
  intro p e s m args below meth c A ls C hl hI
  have hl : lv_has ls 8 [(0, .ref (ad 0)), (1, .long a1)] := hl
  have C : zC p s m args meth c cX0_levelOf 8 (some .int) RX0 wsX0_levelOf D (tS cy) zq A := C
  obtain ⟨hx, hb, hml, hown, hts, hret, hlk, hK, hX, hA⟩ := id C
  have hiX0 : ∀ w ∈ wsX00, w ∈ wsX0_levelOf := by decide +kernel
  obtain ⟨Q, hQ⟩ : ∃ Q, Q = MQ below (zQ D (tS cy) (wS cy ad S') (some (.int r)) A) args s 0 0 A := ⟨_, rfl⟩
  rw [← hQ]
  have hb76 : ∀ (k9 : Int64 → Int32 → Int32 → SS → Option (Int32 × SS)) (hk9 : ∀ (v3 : Int64) (v5 : Int32) (v6 : Int32) (S : SS) (H : Heap) (locs : List Loc) (ls : Array Slot), k9 v3 v5 v6 S = some (r, S') → zI D A s H locs (wS cy ad S) → lv_has ls 8 [(0, .ref (ad 0)), (3, .long v3), (5, .int v5), (6, .int v6)] → W p l e { frames := 1, cells := 0, slots := 0, locals := 22 } s m args below meth c H locs 0 0 Q (F0 m 9 ls [])), ∀ (v3 : Int64) (v5 : Int32) (v6 : Int32) (S : SS) (H : Heap) (locs : List Loc) (ls : Array Slot), fX0_levelOf_b76 k9 v3 v5 v6 S = some (r, S') → zI D A s H locs (wS cy ad S) → lv_has ls 8 [(0, .ref (ad 0)), (3, .long v3), (5, .int v5), (6, .int v6)] → W p l e { frames := 1, cells := 0, slots := 0, locals := 22 } s m args below meth c H locs 0 0 Q (F0 m 76 ls []) := by
    intro k9 hk9 v3 v5 v6 S H locs ls hf hI hl
    unfold fX0_levelOf_b76 at hf
    refine lv_iinc (v := (v6 + (-1 : Int32))) (lv' := [(6, .int (v6 + (-1 : Int32))), (0, .ref (ad 0)), (3, .long v3), (5, .int v5)]) hx hb dX0_levelOf_76 hl (k := 3) rfl rfl (by decide) rfl (fun ls hl => ?_)
    refine lv_goto (tgt := 9) hx hb dX0_levelOf_79 (by decide) ?_
    exact hk9 v3 v5 (v6 + (-1 : Int32)) S _ _ _ hf hI (lv_sub hl [1, 2, 3, 0] rfl)
  have hb9 : ∀ (n : Nat), ∀ (v3 : Int64) (v5 : Int32) (v6 : Int32) (S : SS) (H : Heap) (locs : List Loc) (ls : Array Slot), fX0_levelOf_b9L n v3 v5 v6 S = some (r, S') → zI D A s H locs (wS cy ad S) → lv_has ls 8 [(0, .ref (ad 0)), (3, .long v3), (5, .int v5), (6, .int v6)] → W p l e { frames := 1, cells := 0, slots := 0, locals := 22 } s m args below meth c H locs 0 0 Q (F0 m 9 ls []) := by
    intro n
    induction n with
    | zero => intro v3 v5 v6 S H locs ls hf; cases (show (none : Option (Int32 × SS)) = some (r, S') from hf)
    | succ n ih =>
      intro v3 v5 v6 S H locs ls hf hI hl
      have hf : fX0_levelOf_b9 (fX0_levelOf_b9L n) v3 v5 v6 S = some (r, S') := hf
      unfold fX0_levelOf_b9 at hf
      refine lv_iload hx hb dX0_levelOf_9 (lv_at hl 3 rfl) ?_
      refine lv_if_lt (tgt := 82) hx hb dX0_levelOf_11 (by decide) (fun c_11 => ?_) (fun c_11 => ?_)
      · replace hf := zIt c_11 hf
        refine lv_iload hx hb dX0_levelOf_82 (lv_at hl 2 rfl) ?_
        obtain ⟨h1, h2⟩ := zP2 hf
        rw [hQ]
        exact z_iret C (by rw [h2]; exact hI) (by rw [h1]) dX0_levelOf_84
      · replace hf := zIf c_11 hf
        refine lv_lload_n hx hb dX0_levelOf_14 rfl (lv_at hl 1 rfl) ?_
        refine lv_lconst (v := 0) hx hb dX0_levelOf_15 (by decide) ?_
        refine W.lcmp hx hb dX0_levelOf_16 ?_
        refine lv_if_eq (tgt := 82) hx hb dX0_levelOf_17 (by decide) (fun c_17 => ?_) (fun c_17 => ?_)
        · replace hf := zIt c_17 hf
          refine lv_iload hx hb dX0_levelOf_82 (lv_at hl 2 rfl) ?_
          obtain ⟨h1, h2⟩ := zP2 hf
          rw [hQ]
          exact z_iret C (by rw [h2]; exact hI) (by rw [h1]) dX0_levelOf_84
        · replace hf := zIf c_17 hf
          refine va_getsN (C := RX2) (n := "ORDER") (d := "[I") hx hb hX.2.1 hI.2.2 hown (va_Nw.use rfl hX.1.2.2.2.2.1) (fun _ h9 => h9) dX0_levelOf_20 ?_
          refine lv_iload hx hb dX0_levelOf_23 (lv_at hl 3 rfl) ?_
          obtain ⟨g_25, hf⟩ := zGI_s hf
          refine va_ti hx hb hX.2.2.1 hI.2.2 g_25 (v := .int (zOrd v6.toNatClampNeg)) rfl dX0_levelOf_25 ?_
          refine lv_istore (lv' := [(7, .int (zOrd v6.toNatClampNeg)), (0, .ref (ad 0)), (3, .long v3), (5, .int v5), (6, .int v6)]) hx hb dX0_levelOf_26 hl (by decide) rfl (fun ls hl => ?_)
          refine lv_lload_n hx hb dX0_levelOf_28 rfl (lv_at hl 2 rfl) ?_
          refine lv_iload hx hb dX0_levelOf_29 (lv_at hl 0 rfl) ?_
          obtain ⟨r_31, hf_31, hf⟩ := zB1_s hf
          refine z_callN C 2 (kX2_hasBit l zq D v3 (zOrd v6.toNatClampNeg) r_31 hf_31) gX0_levelOf_X2_hasBit_n33 rfl hX.1.2.2.2.2.2.1 (hts (.initialized RX2) (by decide +kernel)) (hts (.static yX2_hasBit) (by decide +kernel)) (by decide +kernel) ⟨by decide, by decide⟩ hI rfl hl.1 rfl (Nat.le_of_ble_eq_true rfl) dX0_levelOf_31 ⟨by decide, by decide⟩ (st2 := [.int r_31]) rfl (fun H locs hI => ?_)
          refine lv_if_eq (tgt := 76) hx hb dX0_levelOf_34 (by decide) (fun c_34 => ?_) (fun c_34 => ?_)
          · replace hf := zIt c_34 hf
            exact hb76 (fX0_levelOf_b9L n) ih v3 v5 v6 S _ _ _ hf hI (lv_sub hl [1, 2, 3, 4] rfl)
          · replace hf := zIf c_34 hf
            refine lv_aload_n hx hb dX0_levelOf_37 rfl (lv_at hl 1 rfl) ?_
            refine va_get (D := D) (ci := 0) (v := .long (s_leads S)) (C := RX0) (T := TX0) (N := 5) hx hb hts hiX0 hown hK hI.1 0 rfl rfl 3 (by decide) (hts (.fieldLink RX0 22 "NoughtSums$Span" "leads" "J") (by decide +kernel)) (fun _ h9 => h9) rfl dX0_levelOf_38 ?_
            refine lv_iload hx hb dX0_levelOf_41 (lv_at hl 0 rfl) ?_
            obtain ⟨r_43, hf_43, hf⟩ := zB1_s hf
            refine z_callN C 2 (kX2_hasBit l zq D (s_leads S) (zOrd v6.toNatClampNeg) r_43 hf_43) gX0_levelOf_X2_hasBit_n33 rfl hX.1.2.2.2.2.2.1 (hts (.initialized RX2) (by decide +kernel)) (hts (.static yX2_hasBit) (by decide +kernel)) (by decide +kernel) ⟨by decide, by decide⟩ hI rfl hl.1 rfl (Nat.le_of_ble_eq_true rfl) dX0_levelOf_43 ⟨by decide, by decide⟩ (st2 := [.int r_43]) rfl (fun H locs hI => ?_)
            refine lv_if_ne (tgt := 52) hx hb dX0_levelOf_46 (by decide) (fun c_46 => ?_) (fun c_46 => ?_)
            · replace hf := zIf c_46 hf
              refine lv_iload hx hb dX0_levelOf_52 (lv_at hl 3 rfl) ?_
              refine lv_aload_n hx hb dX0_levelOf_54 rfl (lv_at hl 1 rfl) ?_
              refine va_get (D := D) (ci := 0) (v := .ref (ad 2)) (C := RX0) (T := TX0) (N := 5) hx hb hts hiX0 hown hK hI.1 0 rfl rfl 1 (by decide) (hts (.fieldLink RX0 15 "NoughtSums$Span" "levels" "[I") (by decide +kernel)) (fun _ h9 => h9) rfl dX0_levelOf_55 ?_
              refine lv_iload hx hb dX0_levelOf_58 (lv_at hl 0 rfl) ?_
              obtain ⟨g_60, hf⟩ := zGI_s hf
              refine va_iald (f := (s_levels S)) hx hb hK hI.1 2 1 rfl rfl g_60 dX0_levelOf_60 ?_
              refine va_mmax hx hb (hml.trans hl.1.symm) hown (hts (.methodLink RX0 41 Lib.Math.max.name) (by decide +kernel)) (hts (.static Lib.Math.max.name) (by decide +kernel)) (hts (.initialized "java/lang/Math") (by decide +kernel)) (hts (.code Lib.Math.max.name Lib.Math.max.code 2 (some .int)) (by decide +kernel)) (by decide) (Nat.le_of_ble_eq_true rfl) (by decide) (by decide) dX0_levelOf_61 ?_
              refine lv_topi (fun n_64 e_64 => ?_)
              replace hf := zL_s hf e_64
              refine lv_istore (lv' := [(5, .int n_64), (7, .int (zOrd v6.toNatClampNeg)), (0, .ref (ad 0)), (3, .long v3), (6, .int v6)]) hx hb dX0_levelOf_64 hl (by decide) rfl (fun ls hl => ?_)
              refine lv_lload_n hx hb dX0_levelOf_66 rfl (lv_at hl 3 rfl) ?_
              refine lv_aload_n hx hb dX0_levelOf_67 rfl (lv_at hl 2 rfl) ?_
              refine va_get (D := D) (ci := 0) (v := .ref (ad 1)) (C := RX0) (T := TX0) (N := 5) hx hb hts hiX0 hown hK hI.1 0 rfl rfl 0 (by decide) (hts (.fieldLink RX0 9 "NoughtSums$Span" "rows" "[J") (by decide +kernel)) (fun _ h9 => h9) rfl dX0_levelOf_68 ?_
              refine lv_iload hx hb dX0_levelOf_71 (lv_at hl 1 rfl) ?_
              obtain ⟨g_73, hf⟩ := zGI_s hf
              refine va_lald (f := (s_rows S)) hx hb hK hI.1 1 0 rfl rfl g_73 dX0_levelOf_73 ?_
              refine lv_lxor hx hb dX0_levelOf_74 ?_
              refine lv_topl (fun n_75 e_75 => ?_)
              replace hf := zL_s hf e_75
              refine lv_lstore_n (lv' := [(3, .long n_75), (5, .int n_64), (7, .int (zOrd v6.toNatClampNeg)), (0, .ref (ad 0)), (6, .int v6)]) hx hb dX0_levelOf_75 rfl hl (by decide) rfl (fun ls hl => ?_)
              exact hb76 (fX0_levelOf_b9L n) ih n_75 n_64 v6 S _ _ _ hf hI (lv_sub hl [3, 0, 1, 4] rfl)
            · replace hf := zIt c_46 hf
              refine lv_bipush (v := -9) hx hb dX0_levelOf_49 (by decide) ?_
              obtain ⟨h1, h2⟩ := zP2 hf
              rw [hQ]
              exact z_iret C (by rw [h2]; exact hI) (by rw [h1]) dX0_levelOf_51
  unfold fX0_levelOf at hf
  refine lv_lload_n hx hb dX0_levelOf_0 rfl (lv_at hl 1 rfl) ?_
  refine lv_lstore_n (lv' := [(3, .long a1), (0, .ref (ad 0)), (1, .long a1)]) hx hb dX0_levelOf_1 rfl hl (by decide) rfl (fun ls hl => ?_)
  refine lv_iconst (v := 0) hx hb dX0_levelOf_2 (by decide) ?_
  refine lv_istore (lv' := [(5, .int (0 : Int32)), (3, .long a1), (0, .ref (ad 0)), (1, .long a1)]) hx hb dX0_levelOf_3 hl (by decide) rfl (fun ls hl => ?_)
  refine lv_bipush (v := 63) hx hb dX0_levelOf_5 (by decide) ?_
  refine lv_istore (lv' := [(6, .int (63 : Int32)), (5, .int (0 : Int32)), (3, .long a1), (0, .ref (ad 0)), (1, .long a1)]) hx hb dX0_levelOf_7 hl (by decide) rfl (fun ls hl => ?_)
  exact hb9 zF a1 (0 : Int32) (63 : Int32) S _ _ _ hf hI (lv_sub hl [3, 2, 1, 0] rfl)

