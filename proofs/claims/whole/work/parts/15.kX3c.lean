def fX3_wrong  (S : MS) : Option (Int32 × MS) :=
(zL (m_thrown_u S (0 : Int32)) (fun S_2 =>
some ((m_wrongStep S_2), S_2)))
set_option maxHeartbeats 4000000 in
set_option maxRecDepth 100000 in
theorem kX3_wrong (l : Launch) (zq : Nat → Nat) (D : va_G) (cy : Nat → ClassId) (ad : Nat → Nat)  (S S' : MS) (r : Int32) (hf : fX3_wrong S = some (r, S')) : zMet l yX3_wrong wsX3_wrong 0 0 zq D (tM cy) (wM cy ad S) [.ref (ad 0)] (some (.int r)) (wM cy ad S') := by
  refine zMet.of cX3_wrong 1 (some .int) (by decide) rfl (Nat.le_of_ble_eq_true rfl) ?_
  intro p e s m args below meth c A ls C hl hI
  have hl : lv_has ls 1 [(0, .ref (ad 0))] := hl
  have C : zC p s m args meth c cX3_wrong 1 (some .int) RX3 wsX3_wrong D (tM cy) zq A := C
  obtain ⟨hx, hb, hml, hown, hts, hret, hlk, hK, hX, hA⟩ := id C
  have hiX3 : ∀ w ∈ wsX30, w ∈ wsX3_wrong := by decide +kernel
  obtain ⟨Q, hQ⟩ : ∃ Q, Q = MQ below (zQ D (tM cy) (wM cy ad S') (some (.int r)) A) args s 0 0 A := ⟨_, rfl⟩
  rw [← hQ]
  unfold fX3_wrong at hf
  refine lv_aload_n hx hb dX3_wrong_0 rfl (lv_at hl 0 rfl) ?_
  refine lv_iconst (v := 0) hx hb dX3_wrong_1 (by decide) ?_
  obtain ⟨S_2, eS_2, hf⟩ := zL_e hf
  refine z_put (D := D) (ci := 3) (v := .int (0 : Int32)) (ty := .int) (C := RX3) (T := TX3) (N := 27) (w2 := (wM cy ad S_2)) hx hb hts hiX3 tyX3 tyX3_ok nmX3 hown hK hI 0 rfl rfl 0 (by decide) (hts (.fieldLink RX3 56 "NoughtSumsModel" "thrown" "I") (by decide +kernel)) (fun _ h9 => h9) rfl (by decide +kernel) rfl rfl (Nat.le_of_ble_eq_true rfl) dX3_wrong_2 (by rw [eS_2]; rfl) (fun H locs hI => ?_)
  refine lv_aload_n hx hb dX3_wrong_5 rfl (lv_at hl 0 rfl) ?_
  refine va_get (D := D) (ci := 3) (v := .int (m_wrongStep S_2)) (C := RX3) (T := TX3) (N := 27) hx hb hts hiX3 hown hK hI.1 0 rfl rfl 13 (by decide) (hts (.fieldLink RX3 16 "NoughtSumsModel" "wrongStep" "I") (by decide +kernel)) (fun _ h9 => h9) rfl dX3_wrong_6 ?_
  obtain ⟨h1, h2⟩ := zP2 hf
  rw [hQ]
  exact z_iret C (by rw [h2]; exact hI) (by rw [h1]) dX3_wrong_9

def fX3_end_b7 (k7 : Int32 → MS → Option (Int32 × MS)) (v1 : Int32) (S : MS) : Option (Int32 × MS) :=
(if ((m_given S) + (m_made S)) ≤ v1 then some ((-9 : Int32), S) else
(zGI v1 32
((if (lg_cmp ((m_line S) v1.toNatClampNeg) (1 : Int64)) = 0 then some (v1, S) else
k7 (v1 + (1 : Int32)) S))))
def fX3_end_b7L : Nat → Int32 → MS → Option (Int32 × MS)
  | 0, _, _ => none
  | n + 1, v1, S => fX3_end_b7 (fX3_end_b7L n) v1 S

def fX3_end  (S : MS) : Option (Int32 × MS) :=
(zL (m_thrown_u S (0 : Int32)) (fun S_2 =>
fX3_end_b7L zF (0 : Int32) S_2))
set_option maxHeartbeats 4000000 in
set_option maxRecDepth 100000 in
theorem kX3_end (l : Launch) (zq : Nat → Nat) (D : va_G) (cy : Nat → ClassId) (ad : Nat → Nat)  (S S' : MS) (r : Int32) (hf : fX3_end S = some (r, S')) : zMet l yX3_end wsX3_end 0 0 zq D (tM cy) (wM cy ad S) [.ref (ad 0)] (some (.int r)) (wM cy ad S') := by
  refine zMet.of cX3_end 2 (some .int) (by decide) rfl (Nat.le_of_ble_eq_true rfl) ?_
  intro p e s m args below meth c A ls C hl hI
  have hl : lv_has ls 2 [(0, .ref (ad 0))] := hl
  have C : zC p s m args meth c cX3_end 2 (some .int) RX3 wsX3_end D (tM cy) zq A := C
  obtain ⟨hx, hb, hml, hown, hts, hret, hlk, hK, hX, hA⟩ := id C
  have hiX3 : ∀ w ∈ wsX30, w ∈ wsX3_end := by decide +kernel
  obtain ⟨Q, hQ⟩ : ∃ Q, Q = MQ below (zQ D (tM cy) (wM cy ad S') (some (.int r)) A) args s 0 0 A := ⟨_, rfl⟩
  rw [← hQ]
  have hb7 : ∀ (n : Nat), ∀ (v1 : Int32) (S : MS) (H : Heap) (locs : List Loc) (ls : Array Slot), fX3_end_b7L n v1 S = some (r, S') → zI D A s H locs (wM cy ad S) → lv_has ls 2 [(0, .ref (ad 0)), (1, .int v1)] → W p l e { frames := 0, cells := 0, slots := 0, locals := 0 } s m args below meth c H locs 0 0 Q (F0 m 7 ls []) := by
    intro n
    induction n with
    | zero => intro v1 S H locs ls hf; cases (show (none : Option (Int32 × MS)) = some (r, S') from hf)
    | succ n ih =>
      intro v1 S H locs ls hf hI hl
      have hf : fX3_end_b7 (fX3_end_b7L n) v1 S = some (r, S') := hf
      unfold fX3_end_b7 at hf
      refine lv_iload_n hx hb dX3_end_7 rfl (lv_at hl 1 rfl) ?_
      refine lv_aload_n hx hb dX3_end_8 rfl (lv_at hl 0 rfl) ?_
      refine va_get (D := D) (ci := 3) (v := .int (m_given S)) (C := RX3) (T := TX3) (N := 27) hx hb hts hiX3 hown hK hI.1 0 rfl rfl 10 (by decide) (hts (.fieldLink RX3 129 "NoughtSumsModel" "given" "I") (by decide +kernel)) (fun _ h9 => h9) rfl dX3_end_9 ?_
      refine lv_aload_n hx hb dX3_end_12 rfl (lv_at hl 0 rfl) ?_
      refine va_get (D := D) (ci := 3) (v := .int (m_made S)) (C := RX3) (T := TX3) (N := 27) hx hb hts hiX3 hown hK hI.1 0 rfl rfl 11 (by decide) (hts (.fieldLink RX3 132 "NoughtSumsModel" "made" "I") (by decide +kernel)) (fun _ h9 => h9) rfl dX3_end_13 ?_
      refine lv_iadd hx hb dX3_end_16 ?_
      refine lv_icmp_ge (tgt := 39) hx hb dX3_end_17 (by decide) (fun c_17 => ?_) (fun c_17 => ?_)
      · replace hf := zIt c_17 hf
        refine lv_bipush (v := -9) hx hb dX3_end_39 (by decide) ?_
        obtain ⟨h1, h2⟩ := zP2 hf
        rw [hQ]
        exact z_iret C (by rw [h2]; exact hI) (by rw [h1]) dX3_end_41
      · replace hf := zIf c_17 hf
        refine lv_aload_n hx hb dX3_end_20 rfl (lv_at hl 0 rfl) ?_
        refine va_get (D := D) (ci := 3) (v := .ref (ad 3)) (C := RX3) (T := TX3) (N := 27) hx hb hts hiX3 hown hK hI.1 0 rfl rfl 14 (by decide) (hts (.fieldLink RX3 20 "NoughtSumsModel" "line" "[J") (by decide +kernel)) (fun _ h9 => h9) rfl dX3_end_21 ?_
        refine lv_iload_n hx hb dX3_end_24 rfl (lv_at hl 1 rfl) ?_
        obtain ⟨g_25, hf⟩ := zGI_s hf
        refine va_lald (f := (m_line S)) hx hb hK hI.1 3 2 rfl rfl g_25 dX3_end_25 ?_
        refine lv_lconst (v := 1) hx hb dX3_end_26 (by decide) ?_
        refine W.lcmp hx hb dX3_end_27 ?_
        refine lv_if_ne (tgt := 33) hx hb dX3_end_28 (by decide) (fun c_28 => ?_) (fun c_28 => ?_)
        · replace hf := zIf c_28 hf
          refine lv_iinc (v := (v1 + (1 : Int32))) (lv' := [(1, .int (v1 + (1 : Int32))), (0, .ref (ad 0))]) hx hb dX3_end_33 hl (k := 1) rfl rfl (by decide) rfl (fun ls hl => ?_)
          refine lv_goto (tgt := 7) hx hb dX3_end_36 (by decide) ?_
          exact ih (v1 + (1 : Int32)) S _ _ _ hf hI (lv_sub hl [1, 0] rfl)
        · replace hf := zIt c_28 hf
          refine lv_iload_n hx hb dX3_end_31 rfl (lv_at hl 1 rfl) ?_
          obtain ⟨h1, h2⟩ := zP2 hf
          rw [hQ]
          exact z_iret C (by rw [h2]; exact hI) (by rw [h1]) dX3_end_32
  unfold fX3_end at hf
  refine lv_aload_n hx hb dX3_end_0 rfl (lv_at hl 0 rfl) ?_
  refine lv_iconst (v := 0) hx hb dX3_end_1 (by decide) ?_
  obtain ⟨S_2, eS_2, hf⟩ := zL_e hf
  refine z_put (D := D) (ci := 3) (v := .int (0 : Int32)) (ty := .int) (C := RX3) (T := TX3) (N := 27) (w2 := (wM cy ad S_2)) hx hb hts hiX3 tyX3 tyX3_ok nmX3 hown hK hI 0 rfl rfl 0 (by decide) (hts (.fieldLink RX3 56 "NoughtSumsModel" "thrown" "I") (by decide +kernel)) (fun _ h9 => h9) rfl (by decide +kernel) rfl rfl (Nat.le_of_ble_eq_true rfl) dX3_end_2 (by rw [eS_2]; rfl) (fun H locs hI => ?_)
  refine lv_iconst (v := 0) hx hb dX3_end_5 (by decide) ?_
  refine lv_istore_n (lv' := [(1, .int (0 : Int32)), (0, .ref (ad 0))]) hx hb dX3_end_6 rfl hl (by decide) rfl (fun ls hl => ?_)
  exact hb7 zF (0 : Int32) S_2 _ _ _ hf hI (lv_sub hl [1, 0] rfl)

def fX3_isLine (a1 : Int32) (S : MS) : Option (Int32 × MS) :=
(zB1 (fX3_in a1 (0 : Int32) (((m_given S) + (m_made S)) - (1 : Int32))) (fun r_13 =>
(zG (r_13 = 0 ∨ r_13 = 1) (some (r_13, S)))))
set_option maxHeartbeats 4000000 in
set_option maxRecDepth 100000 in
theorem kX3_isLine (l : Launch) (zq : Nat → Nat) (D : va_G) (cy : Nat → ClassId) (ad : Nat → Nat) (a1 : Int32) (S S' : MS) (r : Int32) (hf : fX3_isLine a1 S = some (r, S')) : zMet l yX3_isLine wsX3_isLine 1 22 zq D (tM cy) (wM cy ad S) [.ref (ad 0), .int a1] (some (.int r)) (wM cy ad S') := by
  refine zMet.of cX3_isLine 2 (some .boolean) (by decide) rfl (Nat.le_of_ble_eq_true rfl) ?_
  intro p e s m args below meth c A ls C hl hI
  have hl : lv_has ls 2 [(0, .ref (ad 0)), (1, .int a1)] := hl
  have C : zC p s m args meth c cX3_isLine 2 (some .boolean) RX3 wsX3_isLine D (tM cy) zq A := C
  obtain ⟨hx, hb, hml, hown, hts, hret, hlk, hK, hX, hA⟩ := id C
  have hiX3 : ∀ w ∈ wsX30, w ∈ wsX3_isLine := by decide +kernel
  obtain ⟨Q, hQ⟩ : ∃ Q, Q = MQ below (zQ D (tM cy) (wM cy ad S') (some (.int r)) A) args s 0 0 A := ⟨_, rfl⟩
  rw [← hQ]
  unfold fX3_isLine at hf
  refine lv_iload_n hx hb dX3_isLine_0 rfl (lv_at hl 1 rfl) ?_
  refine lv_iconst (v := 0) hx hb dX3_isLine_1 (by decide) ?_
  refine lv_aload_n hx hb dX3_isLine_2 rfl (lv_at hl 0 rfl) ?_
  refine va_get (D := D) (ci := 3) (v := .int (m_given S)) (C := RX3) (T := TX3) (N := 27) hx hb hts hiX3 hown hK hI.1 0 rfl rfl 10 (by decide) (hts (.fieldLink RX3 129 "NoughtSumsModel" "given" "I") (by decide +kernel)) (fun _ h9 => h9) rfl dX3_isLine_3 ?_
  refine lv_aload_n hx hb dX3_isLine_6 rfl (lv_at hl 0 rfl) ?_
  refine va_get (D := D) (ci := 3) (v := .int (m_made S)) (C := RX3) (T := TX3) (N := 27) hx hb hts hiX3 hown hK hI.1 0 rfl rfl 11 (by decide) (hts (.fieldLink RX3 132 "NoughtSumsModel" "made" "I") (by decide +kernel)) (fun _ h9 => h9) rfl dX3_isLine_7 ?_
  refine lv_iadd hx hb dX3_isLine_10 ?_
  refine lv_iconst (v := 1) hx hb dX3_isLine_11 (by decide) ?_
  refine lv_isub hx hb dX3_isLine_12 ?_
  obtain ⟨r_13, hf_13, hf⟩ := zB1_s hf
  refine z_callS C 3 (kX3_in l zq D a1 (0 : Int32) (((m_given S) + (m_made S)) - (1 : Int32)) r_13 hf_13) gX3_isLine_X3_in rfl (by decide +kernel) ⟨by decide, by decide⟩ hI rfl hl.1 rfl (Nat.le_of_ble_eq_true rfl) dX3_isLine_13 ⟨by decide, by decide⟩ (st2 := [.int r_13]) rfl (fun H locs hI => ?_)
  obtain ⟨g_16, hf⟩ := zG_s hf
  obtain ⟨h1, h2⟩ := zP2 hf
  rw [hQ]
  exact z_zret C (by rw [h2]; exact hI) (by rw [h1]) (zNarB g_16) dX3_isLine_16

def fX3_line (a1 : Int32) (S : MS) : Option (Int64 × MS) :=
(zL (m_thrown_u S (0 : Int32)) (fun S_2 =>
(zB2 (fX3_isLine a1 S_2) (fun r_7 S_7 =>
(if r_7 = 0 then some ((0 : Int64), S_7) else
(zGI a1 32
(some (((m_line S_7) a1.toNatClampNeg), S_7))))))))
set_option maxHeartbeats 4000000 in
set_option maxRecDepth 100000 in
theorem kX3_line (l : Launch) (zq : Nat → Nat) (D : va_G) (cy : Nat → ClassId) (ad : Nat → Nat) (a1 : Int32) (S S' : MS) (r : Int64) (hf : fX3_line a1 S = some (r, S')) : zMet l yX3_line wsX3_line 2 43 zq D (tM cy) (wM cy ad S) [.ref (ad 0), .int a1] (some (.long r)) (wM cy ad S') := by
  refine zMet.of cX3_line 2 (some .long) (by decide) rfl (Nat.le_of_ble_eq_true rfl) ?_
  intro p e s m args below meth c A ls C hl hI
  have hl : lv_has ls 2 [(0, .ref (ad 0)), (1, .int a1)] := hl
  have C : zC p s m args meth c cX3_line 2 (some .long) RX3 wsX3_line D (tM cy) zq A := C
  obtain ⟨hx, hb, hml, hown, hts, hret, hlk, hK, hX, hA⟩ := id C
  have hiX3 : ∀ w ∈ wsX30, w ∈ wsX3_line := by decide +kernel
  obtain ⟨Q, hQ⟩ : ∃ Q, Q = MQ below (zQ D (tM cy) (wM cy ad S') (some (.long r)) A) args s 0 0 A := ⟨_, rfl⟩
  rw [← hQ]
  unfold fX3_line at hf
  refine lv_aload_n hx hb dX3_line_0 rfl (lv_at hl 0 rfl) ?_
  refine lv_iconst (v := 0) hx hb dX3_line_1 (by decide) ?_
  obtain ⟨S_2, eS_2, hf⟩ := zL_e hf
  refine z_put (D := D) (ci := 3) (v := .int (0 : Int32)) (ty := .int) (C := RX3) (T := TX3) (N := 27) (w2 := (wM cy ad S_2)) hx hb hts hiX3 tyX3 tyX3_ok nmX3 hown hK hI 0 rfl rfl 0 (by decide) (hts (.fieldLink RX3 56 "NoughtSumsModel" "thrown" "I") (by decide +kernel)) (fun _ h9 => h9) rfl (by decide +kernel) rfl rfl (Nat.le_of_ble_eq_true rfl) dX3_line_2 (by rw [eS_2]; rfl) (fun H locs hI => ?_)
  refine lv_aload_n hx hb dX3_line_5 rfl (lv_at hl 0 rfl) ?_
  refine lv_iload_n hx hb dX3_line_6 rfl (lv_at hl 1 rfl) ?_
  obtain ⟨r_7, S_7, hf_7, hf⟩ := zB2_s hf
  refine z_callV (w2 := (wM cy ad S_7)) C 1 (kX3_isLine l zq D cy ad a1 S_2 S_7 r_7 hf_7) gX3_line_X3_isLine rfl (by decide +kernel) ⟨by decide, by decide⟩ hI 0 rfl rfl rfl hl.1 rfl (Nat.le_of_ble_eq_true rfl) dX3_line_7 ⟨by decide, by decide⟩ (st2 := [.int r_7]) rfl (fun H locs hI => ?_)
  refine lv_if_eq (tgt := 22) hx hb dX3_line_10 (by decide) (fun c_10 => ?_) (fun c_10 => ?_)
  · replace hf := zIt c_10 hf
    refine lv_lconst (v := 0) hx hb dX3_line_22 (by decide) ?_
    obtain ⟨h1, h2⟩ := zP2 hf
    rw [hQ]
    exact z_lret C (by rw [h2]; exact hI) (by rw [h1]) dX3_line_23
  · replace hf := zIf c_10 hf
    refine lv_aload_n hx hb dX3_line_13 rfl (lv_at hl 0 rfl) ?_
    refine va_get (D := D) (ci := 3) (v := .ref (ad 3)) (C := RX3) (T := TX3) (N := 27) hx hb hts hiX3 hown hK hI.1 0 rfl rfl 14 (by decide) (hts (.fieldLink RX3 20 "NoughtSumsModel" "line" "[J") (by decide +kernel)) (fun _ h9 => h9) rfl dX3_line_14 ?_
    refine lv_iload_n hx hb dX3_line_17 rfl (lv_at hl 1 rfl) ?_
    obtain ⟨g_18, hf⟩ := zGI_s hf
    refine va_lald (f := (m_line S_7)) hx hb hK hI.1 3 2 rfl rfl g_18 dX3_line_18 ?_
    refine lv_goto (tgt := 23) hx hb dX3_line_19 (by decide) ?_
    obtain ⟨h1, h2⟩ := zP2 hf
    rw [hQ]
    exact z_lret C (by rw [h2]; exact hI) (by rw [h1]) dX3_line_23

def fX3_value (a1 : Int32) (a2 : Int32) (S : MS) : Option (Int32 × MS) :=
(zL (m_thrown_u S (0 : Int32)) (fun S_2 =>
(zB2 (fX3_isLine a1 S_2) (fun r_7 S_7 =>
(if r_7 = 0 then some ((-1 : Int32), S_7) else
(zB1 (fX3_in a2 (0 : Int32) (63 : Int32)) (fun r_17 =>
(if r_17 = 0 then some ((-1 : Int32), S_7) else
(zGI a1 32
((zB1 (fX3_values ((m_line S_7) a1.toNatClampNeg)) (fun r_33 =>
(zB1 (fX3_has r_33 a2) (fun r_37 =>
(if r_37 = 0 then some ((0 : Int32), S_7) else
some ((1 : Int32), S_7))))))))))))))))
set_option maxHeartbeats 4000000 in
set_option maxRecDepth 100000 in
theorem kX3_value (l : Launch) (zq : Nat → Nat) (D : va_G) (cy : Nat → ClassId) (ad : Nat → Nat) (a1 : Int32) (a2 : Int32) (S S' : MS) (r : Int32) (hf : fX3_value a1 a2 S = some (r, S')) : zMet l yX3_value wsX3_value 2 49 zq D (tM cy) (wM cy ad S) [.ref (ad 0), .int a1, .int a2] (some (.int r)) (wM cy ad S') := by
  refine zMet.of cX3_value 3 (some .int) (by decide) rfl (Nat.le_of_ble_eq_true rfl) ?_
  intro p e s m args below meth c A ls C hl hI
  have hl : lv_has ls 3 [(0, .ref (ad 0)), (1, .int a1), (2, .int a2)] := hl
  have C : zC p s m args meth c cX3_value 3 (some .int) RX3 wsX3_value D (tM cy) zq A := C
  obtain ⟨hx, hb, hml, hown, hts, hret, hlk, hK, hX, hA⟩ := id C
  have hiX3 : ∀ w ∈ wsX30, w ∈ wsX3_value := by decide +kernel
  obtain ⟨Q, hQ⟩ : ∃ Q, Q = MQ below (zQ D (tM cy) (wM cy ad S') (some (.int r)) A) args s 0 0 A := ⟨_, rfl⟩
  rw [← hQ]
  unfold fX3_value at hf
  refine lv_aload_n hx hb dX3_value_0 rfl (lv_at hl 0 rfl) ?_
  refine lv_iconst (v := 0) hx hb dX3_value_1 (by decide) ?_
  obtain ⟨S_2, eS_2, hf⟩ := zL_e hf
  refine z_put (D := D) (ci := 3) (v := .int (0 : Int32)) (ty := .int) (C := RX3) (T := TX3) (N := 27) (w2 := (wM cy ad S_2)) hx hb hts hiX3 tyX3 tyX3_ok nmX3 hown hK hI 0 rfl rfl 0 (by decide) (hts (.fieldLink RX3 56 "NoughtSumsModel" "thrown" "I") (by decide +kernel)) (fun _ h9 => h9) rfl (by decide +kernel) rfl rfl (Nat.le_of_ble_eq_true rfl) dX3_value_2 (by rw [eS_2]; rfl) (fun H locs hI => ?_)
  refine lv_aload_n hx hb dX3_value_5 rfl (lv_at hl 0 rfl) ?_
  refine lv_iload_n hx hb dX3_value_6 rfl (lv_at hl 1 rfl) ?_
  obtain ⟨r_7, S_7, hf_7, hf⟩ := zB2_s hf
  refine z_callV (w2 := (wM cy ad S_7)) C 1 (kX3_isLine l zq D cy ad a1 S_2 S_7 r_7 hf_7) gX3_value_X3_isLine rfl (by decide +kernel) ⟨by decide, by decide⟩ hI 0 rfl rfl rfl hl.1 rfl (Nat.le_of_ble_eq_true rfl) dX3_value_7 ⟨by decide, by decide⟩ (st2 := [.int r_7]) rfl (fun H locs hI => ?_)
  refine lv_if_eq (tgt := 23) hx hb dX3_value_10 (by decide) (fun c_10 => ?_) (fun c_10 => ?_)
  · replace hf := zIt c_10 hf
    refine lv_iconst (v := -1) hx hb dX3_value_23 (by decide) ?_
    refine lv_goto (tgt := 48) hx hb dX3_value_24 (by decide) ?_
    obtain ⟨h1, h2⟩ := zP2 hf
    rw [hQ]
    exact z_iret C (by rw [h2]; exact hI) (by rw [h1]) dX3_value_48
  · replace hf := zIf c_10 hf
    refine lv_iload_n hx hb dX3_value_13 rfl (lv_at hl 2 rfl) ?_
    refine lv_iconst (v := 0) hx hb dX3_value_14 (by decide) ?_
    refine lv_bipush (v := 63) hx hb dX3_value_15 (by decide) ?_
    obtain ⟨r_17, hf_17, hf⟩ := zB1_s hf
    refine z_callS C 3 (kX3_in l zq D a2 (0 : Int32) (63 : Int32) r_17 hf_17) gX3_value_X3_in rfl (by decide +kernel) ⟨by decide, by decide⟩ hI rfl hl.1 rfl (Nat.le_of_ble_eq_true rfl) dX3_value_17 ⟨by decide, by decide⟩ (st2 := [.int r_17]) rfl (fun H locs hI => ?_)
    refine lv_if_ne (tgt := 27) hx hb dX3_value_20 (by decide) (fun c_20 => ?_) (fun c_20 => ?_)
    · replace hf := zIf c_20 hf
      refine lv_aload_n hx hb dX3_value_27 rfl (lv_at hl 0 rfl) ?_
      refine va_get (D := D) (ci := 3) (v := .ref (ad 3)) (C := RX3) (T := TX3) (N := 27) hx hb hts hiX3 hown hK hI.1 0 rfl rfl 14 (by decide) (hts (.fieldLink RX3 20 "NoughtSumsModel" "line" "[J") (by decide +kernel)) (fun _ h9 => h9) rfl dX3_value_28 ?_
      refine lv_iload_n hx hb dX3_value_31 rfl (lv_at hl 1 rfl) ?_
      obtain ⟨g_32, hf⟩ := zGI_s hf
      refine va_lald (f := (m_line S_7)) hx hb hK hI.1 3 2 rfl rfl g_32 dX3_value_32 ?_
      obtain ⟨r_33, hf_33, hf⟩ := zB1_s hf
      refine z_callS C 1 (kX3_values l zq D ((m_line S_7) a1.toNatClampNeg) r_33 hf_33) gX3_value_X3_values rfl (by decide +kernel) ⟨by decide, by decide⟩ hI rfl hl.1 rfl (Nat.le_of_ble_eq_true rfl) dX3_value_33 ⟨by decide, by decide⟩ (st2 := [.long r_33]) rfl (fun H locs hI => ?_)
      refine lv_iload_n hx hb dX3_value_36 rfl (lv_at hl 2 rfl) ?_
      obtain ⟨r_37, hf_37, hf⟩ := zB1_s hf
      refine z_callS C 2 (kX3_has l zq D r_33 a2 r_37 hf_37) gX3_value_X3_has rfl (by decide +kernel) ⟨by decide, by decide⟩ hI rfl hl.1 rfl (Nat.le_of_ble_eq_true rfl) dX3_value_37 ⟨by decide, by decide⟩ (st2 := [.int r_37]) rfl (fun H locs hI => ?_)
      refine lv_if_eq (tgt := 47) hx hb dX3_value_40 (by decide) (fun c_40 => ?_) (fun c_40 => ?_)
      · replace hf := zIt c_40 hf
        refine lv_iconst (v := 0) hx hb dX3_value_47 (by decide) ?_
        obtain ⟨h1, h2⟩ := zP2 hf
        rw [hQ]
        exact z_iret C (by rw [h2]; exact hI) (by rw [h1]) dX3_value_48
      · replace hf := zIf c_40 hf
        refine lv_iconst (v := 1) hx hb dX3_value_43 (by decide) ?_
        refine lv_goto (tgt := 48) hx hb dX3_value_44 (by decide) ?_
        obtain ⟨h1, h2⟩ := zP2 hf
        rw [hQ]
        exact z_iret C (by rw [h2]; exact hI) (by rw [h1]) dX3_value_48
    · replace hf := zIt c_20 hf
      refine lv_iconst (v := -1) hx hb dX3_value_23 (by decide) ?_
      refine lv_goto (tgt := 48) hx hb dX3_value_24 (by decide) ?_
      obtain ⟨h1, h2⟩ := zP2 hf
      rw [hQ]
      exact z_iret C (by rw [h2]; exact hI) (by rw [h1]) dX3_value_48

def fX3_lead (a1 : Int32) (a2 : Int32) (S : MS) : Option (Int32 × MS) :=
(zL (m_thrown_u S (0 : Int32)) (fun S_2 =>
(zB2 (fX3_isLine a1 S_2) (fun r_7 S_7 =>
(if r_7 = 0 then some ((-1 : Int32), S_7) else
(zB1 (fX3_in a2 (0 : Int32) (1 : Int32)) (fun r_16 =>
(if r_16 = 0 then some ((-1 : Int32), S_7) else
(if a2 = 0 then (zGI a1 32
((zB2 (fX3_degreeOf ((m_line S_7) a1.toNatClampNeg) S_7) (fun r_37 S_37 =>
some (r_37, S_37))))) else
(zGI a1 32
((zB2 (fX3_leadOf ((m_line S_7) a1.toNatClampNeg) S_7) (fun r_50 S_50 =>
some (r_50, S_50))))))))))))))
set_option maxHeartbeats 4000000 in
set_option maxRecDepth 100000 in
theorem kX3_lead (l : Launch) (zq : Nat → Nat) (D : va_G) (cy : Nat → ClassId) (ad : Nat → Nat) (a1 : Int32) (a2 : Int32) (S S' : MS) (r : Int32) (hf : fX3_lead a1 a2 S = some (r, S')) : zMet l yX3_lead wsX3_lead 3 68 zq D (tM cy) (wM cy ad S) [.ref (ad 0), .int a1, .int a2] (some (.int r)) (wM cy ad S') := by
  refine zMet.of cX3_lead 3 (some .int) (by decide) rfl (Nat.le_of_ble_eq_true rfl) ?_
  intro p e s m args below meth c A ls C hl hI
  have hl : lv_has ls 3 [(0, .ref (ad 0)), (1, .int a1), (2, .int a2)] := hl
  have C : zC p s m args meth c cX3_lead 3 (some .int) RX3 wsX3_lead D (tM cy) zq A := C
  obtain ⟨hx, hb, hml, hown, hts, hret, hlk, hK, hX, hA⟩ := id C
  have hiX3 : ∀ w ∈ wsX30, w ∈ wsX3_lead := by decide +kernel
  obtain ⟨Q, hQ⟩ : ∃ Q, Q = MQ below (zQ D (tM cy) (wM cy ad S') (some (.int r)) A) args s 0 0 A := ⟨_, rfl⟩
  rw [← hQ]
  unfold fX3_lead at hf
  refine lv_aload_n hx hb dX3_lead_0 rfl (lv_at hl 0 rfl) ?_
  refine lv_iconst (v := 0) hx hb dX3_lead_1 (by decide) ?_
  obtain ⟨S_2, eS_2, hf⟩ := zL_e hf
  refine z_put (D := D) (ci := 3) (v := .int (0 : Int32)) (ty := .int) (C := RX3) (T := TX3) (N := 27) (w2 := (wM cy ad S_2)) hx hb hts hiX3 tyX3 tyX3_ok nmX3 hown hK hI 0 rfl rfl 0 (by decide) (hts (.fieldLink RX3 56 "NoughtSumsModel" "thrown" "I") (by decide +kernel)) (fun _ h9 => h9) rfl (by decide +kernel) rfl rfl (Nat.le_of_ble_eq_true rfl) dX3_lead_2 (by rw [eS_2]; rfl) (fun H locs hI => ?_)
  refine lv_aload_n hx hb dX3_lead_5 rfl (lv_at hl 0 rfl) ?_
  refine lv_iload_n hx hb dX3_lead_6 rfl (lv_at hl 1 rfl) ?_
  obtain ⟨r_7, S_7, hf_7, hf⟩ := zB2_s hf
  refine z_callV (w2 := (wM cy ad S_7)) C 1 (kX3_isLine l zq D cy ad a1 S_2 S_7 r_7 hf_7) gX3_lead_X3_isLine rfl (by decide +kernel) ⟨by decide, by decide⟩ hI 0 rfl rfl rfl hl.1 rfl (Nat.le_of_ble_eq_true rfl) dX3_lead_7 ⟨by decide, by decide⟩ (st2 := [.int r_7]) rfl (fun H locs hI => ?_)
  refine lv_if_eq (tgt := 22) hx hb dX3_lead_10 (by decide) (fun c_10 => ?_) (fun c_10 => ?_)
  · replace hf := zIt c_10 hf
    refine lv_iconst (v := -1) hx hb dX3_lead_22 (by decide) ?_
    refine lv_goto (tgt := 53) hx hb dX3_lead_23 (by decide) ?_
    obtain ⟨h1, h2⟩ := zP2 hf
    rw [hQ]
    exact z_iret C (by rw [h2]; exact hI) (by rw [h1]) dX3_lead_53
  · replace hf := zIf c_10 hf
    refine lv_iload_n hx hb dX3_lead_13 rfl (lv_at hl 2 rfl) ?_
    refine lv_iconst (v := 0) hx hb dX3_lead_14 (by decide) ?_
    refine lv_iconst (v := 1) hx hb dX3_lead_15 (by decide) ?_
    obtain ⟨r_16, hf_16, hf⟩ := zB1_s hf
    refine z_callS C 3 (kX3_in l zq D a2 (0 : Int32) (1 : Int32) r_16 hf_16) gX3_lead_X3_in rfl (by decide +kernel) ⟨by decide, by decide⟩ hI rfl hl.1 rfl (Nat.le_of_ble_eq_true rfl) dX3_lead_16 ⟨by decide, by decide⟩ (st2 := [.int r_16]) rfl (fun H locs hI => ?_)
    refine lv_if_ne (tgt := 26) hx hb dX3_lead_19 (by decide) (fun c_19 => ?_) (fun c_19 => ?_)
    · replace hf := zIf c_19 hf
      refine lv_iload_n hx hb dX3_lead_26 rfl (lv_at hl 2 rfl) ?_
      refine lv_if_ne (tgt := 43) hx hb dX3_lead_27 (by decide) (fun c_27 => ?_) (fun c_27 => ?_)
      · replace hf := zIf c_27 hf
        refine lv_aload_n hx hb dX3_lead_43 rfl (lv_at hl 0 rfl) ?_
        refine lv_aload_n hx hb dX3_lead_44 rfl (lv_at hl 0 rfl) ?_
        refine va_get (D := D) (ci := 3) (v := .ref (ad 3)) (C := RX3) (T := TX3) (N := 27) hx hb hts hiX3 hown hK hI.1 0 rfl rfl 14 (by decide) (hts (.fieldLink RX3 20 "NoughtSumsModel" "line" "[J") (by decide +kernel)) (fun _ h9 => h9) rfl dX3_lead_45 ?_
        refine lv_iload_n hx hb dX3_lead_48 rfl (lv_at hl 1 rfl) ?_
        obtain ⟨g_49, hf⟩ := zGI_s hf
        refine va_lald (f := (m_line S_7)) hx hb hK hI.1 3 2 rfl rfl g_49 dX3_lead_49 ?_
        obtain ⟨r_50, S_50, hf_50, hf⟩ := zB2_s hf
        refine z_callV (w2 := (wM cy ad S_50)) C 1 (kX3_leadOf l zq D cy ad ((m_line S_7) a1.toNatClampNeg) S_7 S_50 r_50 hf_50) gX3_lead_X3_leadOf rfl (by decide +kernel) ⟨by decide, by decide⟩ hI 0 rfl rfl rfl hl.1 rfl (Nat.le_of_ble_eq_true rfl) dX3_lead_50 ⟨by decide, by decide⟩ (st2 := [.int r_50]) rfl (fun H locs hI => ?_)
        obtain ⟨h1, h2⟩ := zP2 hf
        rw [hQ]
        exact z_iret C (by rw [h2]; exact hI) (by rw [h1]) dX3_lead_53
      · replace hf := zIt c_27 hf
        refine lv_aload_n hx hb dX3_lead_30 rfl (lv_at hl 0 rfl) ?_
        refine lv_aload_n hx hb dX3_lead_31 rfl (lv_at hl 0 rfl) ?_
        refine va_get (D := D) (ci := 3) (v := .ref (ad 3)) (C := RX3) (T := TX3) (N := 27) hx hb hts hiX3 hown hK hI.1 0 rfl rfl 14 (by decide) (hts (.fieldLink RX3 20 "NoughtSumsModel" "line" "[J") (by decide +kernel)) (fun _ h9 => h9) rfl dX3_lead_32 ?_
        refine lv_iload_n hx hb dX3_lead_35 rfl (lv_at hl 1 rfl) ?_
        obtain ⟨g_36, hf⟩ := zGI_s hf
        refine va_lald (f := (m_line S_7)) hx hb hK hI.1 3 2 rfl rfl g_36 dX3_lead_36 ?_
        obtain ⟨r_37, S_37, hf_37, hf⟩ := zB2_s hf
        refine z_callV (w2 := (wM cy ad S_37)) C 1 (kX3_degreeOf l zq D cy ad ((m_line S_7) a1.toNatClampNeg) S_7 S_37 r_37 hf_37) gX3_lead_X3_degreeOf rfl (by decide +kernel) ⟨by decide, by decide⟩ hI 0 rfl rfl rfl hl.1 rfl (Nat.le_of_ble_eq_true rfl) dX3_lead_37 ⟨by decide, by decide⟩ (st2 := [.int r_37]) rfl (fun H locs hI => ?_)
        refine lv_goto (tgt := 53) hx hb dX3_lead_40 (by decide) ?_
        obtain ⟨h1, h2⟩ := zP2 hf
        rw [hQ]
        exact z_iret C (by rw [h2]; exact hI) (by rw [h1]) dX3_lead_53
    · replace hf := zIt c_19 hf
      refine lv_iconst (v := -1) hx hb dX3_lead_22 (by decide) ?_
      refine lv_goto (tgt := 53) hx hb dX3_lead_23 (by decide) ?_
      obtain ⟨h1, h2⟩ := zP2 hf
      rw [hQ]
      exact z_iret C (by rw [h2]; exact hI) (by rw [h1]) dX3_lead_53

def fX3_both (a1 : Int32) (a2 : Int32) (a3 : Int32) (S : MS) : Option (Int64 × MS) :=
(zL (m_thrown_u S (0 : Int32)) (fun S_2 =>
(zB2 (fX3_isLine a1 S_2) (fun r_7 S_7 =>
(if r_7 = 0 then some ((0 : Int64), S_7) else
(zB2 (fX3_isLine a2 S_7) (fun r_15 S_15 =>
(if r_15 = 0 then some ((0 : Int64), S_15) else
(zB1 (fX3_in a3 (0 : Int32) (1 : Int32)) (fun r_24 =>
(if r_24 = 0 then some ((0 : Int64), S_15) else
(if a3 = 0 then (zGI a1 32
((zGI a2 32
((zB1 (fX3_multiplied ((m_line S_15) a1.toNatClampNeg) ((m_line S_15) a2.toNatClampNeg)) (fun r_50 =>
some (r_50, S_15))))))) else
(zGI a1 32
((zGI a2 32
(some ((((m_line S_15) a1.toNatClampNeg) ^^^ ((m_line S_15) a2.toNatClampNeg)), S_15)))))))))))))))))
set_option maxHeartbeats 4000000 in
set_option maxRecDepth 100000 in
theorem kX3_both (l : Launch) (zq : Nat → Nat) (D : va_G) (cy : Nat → ClassId) (ad : Nat → Nat) (a1 : Int32) (a2 : Int32) (a3 : Int32) (S S' : MS) (r : Int64) (hf : fX3_both a1 a2 a3 S = some (r, S')) : zMet l yX3_both wsX3_both 3 73 zq D (tM cy) (wM cy ad S) [.ref (ad 0), .int a1, .int a2, .int a3] (some (.long r)) (wM cy ad S') := by
  refine zMet.of cX3_both 4 (some .long) (by decide) rfl (Nat.le_of_ble_eq_true rfl) ?_
  intro p e s m args below meth c A ls C hl hI
  have hl : lv_has ls 4 [(0, .ref (ad 0)), (1, .int a1), (2, .int a2), (3, .int a3)] := hl
  have C : zC p s m args meth c cX3_both 4 (some .long) RX3 wsX3_both D (tM cy) zq A := C
  obtain ⟨hx, hb, hml, hown, hts, hret, hlk, hK, hX, hA⟩ := id C
  have hiX3 : ∀ w ∈ wsX30, w ∈ wsX3_both := by decide +kernel
  obtain ⟨Q, hQ⟩ : ∃ Q, Q = MQ below (zQ D (tM cy) (wM cy ad S') (some (.long r)) A) args s 0 0 A := ⟨_, rfl⟩
  rw [← hQ]
  unfold fX3_both at hf
  refine lv_aload_n hx hb dX3_both_0 rfl (lv_at hl 0 rfl) ?_
  refine lv_iconst (v := 0) hx hb dX3_both_1 (by decide) ?_
  obtain ⟨S_2, eS_2, hf⟩ := zL_e hf
  refine z_put (D := D) (ci := 3) (v := .int (0 : Int32)) (ty := .int) (C := RX3) (T := TX3) (N := 27) (w2 := (wM cy ad S_2)) hx hb hts hiX3 tyX3 tyX3_ok nmX3 hown hK hI 0 rfl rfl 0 (by decide) (hts (.fieldLink RX3 56 "NoughtSumsModel" "thrown" "I") (by decide +kernel)) (fun _ h9 => h9) rfl (by decide +kernel) rfl rfl (Nat.le_of_ble_eq_true rfl) dX3_both_2 (by rw [eS_2]; rfl) (fun H locs hI => ?_)
  refine lv_aload_n hx hb dX3_both_5 rfl (lv_at hl 0 rfl) ?_
  refine lv_iload_n hx hb dX3_both_6 rfl (lv_at hl 1 rfl) ?_
  obtain ⟨r_7, S_7, hf_7, hf⟩ := zB2_s hf
  refine z_callV (w2 := (wM cy ad S_7)) C 1 (kX3_isLine l zq D cy ad a1 S_2 S_7 r_7 hf_7) gX3_both_X3_isLine rfl (by decide +kernel) ⟨by decide, by decide⟩ hI 0 rfl rfl rfl hl.1 rfl (Nat.le_of_ble_eq_true rfl) dX3_both_7 ⟨by decide, by decide⟩ (st2 := [.int r_7]) rfl (fun H locs hI => ?_)
  refine lv_if_eq (tgt := 30) hx hb dX3_both_10 (by decide) (fun c_10 => ?_) (fun c_10 => ?_)
  · replace hf := zIt c_10 hf
    refine lv_lconst (v := 0) hx hb dX3_both_30 (by decide) ?_
    refine lv_goto (tgt := 69) hx hb dX3_both_31 (by decide) ?_
    obtain ⟨h1, h2⟩ := zP2 hf
    rw [hQ]
    exact z_lret C (by rw [h2]; exact hI) (by rw [h1]) dX3_both_69
  · replace hf := zIf c_10 hf
    refine lv_aload_n hx hb dX3_both_13 rfl (lv_at hl 0 rfl) ?_
    refine lv_iload_n hx hb dX3_both_14 rfl (lv_at hl 2 rfl) ?_
    obtain ⟨r_15, S_15, hf_15, hf⟩ := zB2_s hf
    refine z_callV (w2 := (wM cy ad S_15)) C 1 (kX3_isLine l zq D cy ad a2 S_7 S_15 r_15 hf_15) gX3_both_X3_isLine rfl (by decide +kernel) ⟨by decide, by decide⟩ hI 0 rfl rfl rfl hl.1 rfl (Nat.le_of_ble_eq_true rfl) dX3_both_15 ⟨by decide, by decide⟩ (st2 := [.int r_15]) rfl (fun H locs hI => ?_)
    refine lv_if_eq (tgt := 30) hx hb dX3_both_18 (by decide) (fun c_18 => ?_) (fun c_18 => ?_)
    · replace hf := zIt c_18 hf
      refine lv_lconst (v := 0) hx hb dX3_both_30 (by decide) ?_
      refine lv_goto (tgt := 69) hx hb dX3_both_31 (by decide) ?_
      obtain ⟨h1, h2⟩ := zP2 hf
      rw [hQ]
      exact z_lret C (by rw [h2]; exact hI) (by rw [h1]) dX3_both_69
    · replace hf := zIf c_18 hf
      refine lv_iload_n hx hb dX3_both_21 rfl (lv_at hl 3 rfl) ?_
      refine lv_iconst (v := 0) hx hb dX3_both_22 (by decide) ?_
      refine lv_iconst (v := 1) hx hb dX3_both_23 (by decide) ?_
      obtain ⟨r_24, hf_24, hf⟩ := zB1_s hf
      refine z_callS C 3 (kX3_in l zq D a3 (0 : Int32) (1 : Int32) r_24 hf_24) gX3_both_X3_in rfl (by decide +kernel) ⟨by decide, by decide⟩ hI rfl hl.1 rfl (Nat.le_of_ble_eq_true rfl) dX3_both_24 ⟨by decide, by decide⟩ (st2 := [.int r_24]) rfl (fun H locs hI => ?_)
      refine lv_if_ne (tgt := 34) hx hb dX3_both_27 (by decide) (fun c_27 => ?_) (fun c_27 => ?_)
      · replace hf := zIf c_27 hf
        refine lv_iload_n hx hb dX3_both_34 rfl (lv_at hl 3 rfl) ?_
        refine lv_if_ne (tgt := 56) hx hb dX3_both_35 (by decide) (fun c_35 => ?_) (fun c_35 => ?_)
        · replace hf := zIf c_35 hf
          refine lv_aload_n hx hb dX3_both_56 rfl (lv_at hl 0 rfl) ?_
          refine va_get (D := D) (ci := 3) (v := .ref (ad 3)) (C := RX3) (T := TX3) (N := 27) hx hb hts hiX3 hown hK hI.1 0 rfl rfl 14 (by decide) (hts (.fieldLink RX3 20 "NoughtSumsModel" "line" "[J") (by decide +kernel)) (fun _ h9 => h9) rfl dX3_both_57 ?_
          refine lv_iload_n hx hb dX3_both_60 rfl (lv_at hl 1 rfl) ?_
          obtain ⟨g_61, hf⟩ := zGI_s hf
          refine va_lald (f := (m_line S_15)) hx hb hK hI.1 3 2 rfl rfl g_61 dX3_both_61 ?_
          refine lv_aload_n hx hb dX3_both_62 rfl (lv_at hl 0 rfl) ?_
          refine va_get (D := D) (ci := 3) (v := .ref (ad 3)) (C := RX3) (T := TX3) (N := 27) hx hb hts hiX3 hown hK hI.1 0 rfl rfl 14 (by decide) (hts (.fieldLink RX3 20 "NoughtSumsModel" "line" "[J") (by decide +kernel)) (fun _ h9 => h9) rfl dX3_both_63 ?_
          refine lv_iload_n hx hb dX3_both_66 rfl (lv_at hl 2 rfl) ?_
          obtain ⟨g_67, hf⟩ := zGI_s hf
          refine va_lald (f := (m_line S_15)) hx hb hK hI.1 3 2 rfl rfl g_67 dX3_both_67 ?_
          refine lv_lxor hx hb dX3_both_68 ?_
          obtain ⟨h1, h2⟩ := zP2 hf
          rw [hQ]
          exact z_lret C (by rw [h2]; exact hI) (by rw [h1]) dX3_both_69
        · replace hf := zIt c_35 hf
          refine lv_aload_n hx hb dX3_both_38 rfl (lv_at hl 0 rfl) ?_
          refine va_get (D := D) (ci := 3) (v := .ref (ad 3)) (C := RX3) (T := TX3) (N := 27) hx hb hts hiX3 hown hK hI.1 0 rfl rfl 14 (by decide) (hts (.fieldLink RX3 20 "NoughtSumsModel" "line" "[J") (by decide +kernel)) (fun _ h9 => h9) rfl dX3_both_39 ?_
          refine lv_iload_n hx hb dX3_both_42 rfl (lv_at hl 1 rfl) ?_
          obtain ⟨g_43, hf⟩ := zGI_s hf
          refine va_lald (f := (m_line S_15)) hx hb hK hI.1 3 2 rfl rfl g_43 dX3_both_43 ?_
          refine lv_aload_n hx hb dX3_both_44 rfl (lv_at hl 0 rfl) ?_
          refine va_get (D := D) (ci := 3) (v := .ref (ad 3)) (C := RX3) (T := TX3) (N := 27) hx hb hts hiX3 hown hK hI.1 0 rfl rfl 14 (by decide) (hts (.fieldLink RX3 20 "NoughtSumsModel" "line" "[J") (by decide +kernel)) (fun _ h9 => h9) rfl dX3_both_45 ?_
          refine lv_iload_n hx hb dX3_both_48 rfl (lv_at hl 2 rfl) ?_
          obtain ⟨g_49, hf⟩ := zGI_s hf
          refine va_lald (f := (m_line S_15)) hx hb hK hI.1 3 2 rfl rfl g_49 dX3_both_49 ?_
          obtain ⟨r_50, hf_50, hf⟩ := zB1_s hf
          refine z_callS C 2 (kX3_multiplied l zq D ((m_line S_15) a1.toNatClampNeg) ((m_line S_15) a2.toNatClampNeg) r_50 hf_50) gX3_both_X3_multiplied rfl (by decide +kernel) ⟨by decide, by decide⟩ hI rfl hl.1 rfl (Nat.le_of_ble_eq_true rfl) dX3_both_50 ⟨by decide, by decide⟩ (st2 := [.long r_50]) rfl (fun H locs hI => ?_)
          refine lv_goto (tgt := 69) hx hb dX3_both_53 (by decide) ?_
          obtain ⟨h1, h2⟩ := zP2 hf
          rw [hQ]
          exact z_lret C (by rw [h2]; exact hI) (by rw [h1]) dX3_both_69
      · replace hf := zIt c_27 hf
        refine lv_lconst (v := 0) hx hb dX3_both_30 (by decide) ?_
        refine lv_goto (tgt := 69) hx hb dX3_both_31 (by decide) ?_
        obtain ⟨h1, h2⟩ := zP2 hf
        rw [hQ]
        exact z_lret C (by rw [h2]; exact hI) (by rw [h1]) dX3_both_69

def fX3_with_b102 (k39 : Int32 → Int32 → Int32 → Int64 → Int32 → MS → Option (Int64 × MS)) (v1 : Int32) (v2 : Int32) (v3 : Int32) (v4 : Int64) (v6 : Int32) (S : MS) : Option (Int64 × MS) :=
k39 v1 v2 v3 v4 (v6 + (1 : Int32)) S

def fX3_with_b87 (k39 : Int32 → Int32 → Int32 → Int64 → Int32 → MS → Option (Int64 × MS)) (v1 : Int32) (v2 : Int32) (v3 : Int32) (v4 : Int64) (v6 : Int32) (S : MS) : Option (Int64 × MS) :=
(zL (v4 ^^^ ((1 : Int64) <<< ((v6 &&& (((1 : Int32) <<< (v2 &&& 31)) ^^^ (-1 : Int32))).toInt64 &&& 63))) (fun n_100 =>
fX3_with_b102 k39 v1 v2 v3 n_100 v6 S))

def fX3_with_b61 (k39 : Int32 → Int32 → Int32 → Int64 → Int32 → MS → Option (Int64 × MS)) (v1 : Int32) (v2 : Int32) (v3 : Int32) (v4 : Int64) (v6 : Int32) (u0 : Int32) (S : MS) : Option (Int64 × MS) :=
(zGI v1 32
((zB1 (fX3_has ((m_line S) v1.toNatClampNeg) v6) (fun r_71 =>
(if r_71 = 0 then fX3_with_b102 k39 v1 v2 v3 v4 v6 S else
(if v3 = (1 : Int32) then fX3_with_b87 k39 v1 v2 v3 v4 v6 S else
(if u0 = 0 then fX3_with_b87 k39 v1 v2 v3 v4 v6 S else
fX3_with_b102 k39 v1 v2 v3 v4 v6 S)))))))

def fX3_with_b39 (k39 : Int32 → Int32 → Int32 → Int64 → Int32 → MS → Option (Int64 × MS)) (v1 : Int32) (v2 : Int32) (v3 : Int32) (v4 : Int64) (v6 : Int32) (S : MS) : Option (Int64 × MS) :=
(if (64 : Int32) ≤ v6 then some (v4, S) else
(if ((v6 >>> (v2 &&& 31)) &&& (1 : Int32)) = (1 : Int32) then fX3_with_b61 k39 v1 v2 v3 v4 v6 (1 : Int32) S else
fX3_with_b61 k39 v1 v2 v3 v4 v6 (0 : Int32) S))
def fX3_with_b39L : Nat → Int32 → Int32 → Int32 → Int64 → Int32 → MS → Option (Int64 × MS)
  | 0, _, _, _, _, _, _ => none
  | n + 1, v1, v2, v3, v4, v6, S => fX3_with_b39 (fX3_with_b39L n) v1 v2 v3 v4 v6 S

def fX3_with (a1 : Int32) (a2 : Int32) (a3 : Int32) (S : MS) : Option (Int64 × MS) :=
(zL (m_thrown_u S (0 : Int32)) (fun S_2 =>
(zB2 (fX3_isLine a1 S_2) (fun r_7 S_7 =>
(if r_7 = 0 then some ((0 : Int64), S_7) else
(zB1 (fX3_in a2 (0 : Int32) (5 : Int32)) (fun r_16 =>
(if r_16 = 0 then some ((0 : Int64), S_7) else
(zB1 (fX3_in a3 (0 : Int32) (1 : Int32)) (fun r_25 =>
(if r_25 = 0 then some ((0 : Int64), S_7) else
fX3_with_b39L zF a1 a2 a3 (0 : Int64) (0 : Int32) S_7)))))))))))
set_option maxHeartbeats 4000000 in
set_option maxRecDepth 100000 in
theorem kX3_with (l : Launch) (zq : Nat → Nat) (D : va_G) (cy : Nat → ClassId) (ad : Nat → Nat) (a1 : Int32) (a2 : Int32) (a3 : Int32) (S S' : MS) (r : Int64) (hf : fX3_with a1 a2 a3 S = some (r, S')) : zMet l yX3_with wsX3_with 2 43 zq D (tM cy) (wM cy ad S) [.ref (ad 0), .int a1, .int a2, .int a3] (some (.long r)) (wM cy ad S') := by
  refine zMet.of cX3_with 8 (some .long) (by decide) rfl (Nat.le_of_ble_eq_true rfl) ?_
  intro p e s m args below meth c A ls C hl hI
  have hl : lv_has ls 8 [(0, .ref (ad 0)), (1, .int a1), (2, .int a2), (3, .int a3)] := hl
  have C : zC p s m args meth c cX3_with 8 (some .long) RX3 wsX3_with D (tM cy) zq A := C
  obtain ⟨hx, hb, hml, hown, hts, hret, hlk, hK, hX, hA⟩ := id C
  have hiX3 : ∀ w ∈ wsX30, w ∈ wsX3_with := by decide +kernel
  obtain ⟨Q, hQ⟩ : ∃ Q, Q = MQ below (zQ D (tM cy) (wM cy ad S') (some (.long r)) A) args s 0 0 A := ⟨_, rfl⟩
  rw [← hQ]
  have hb102 : ∀ (k39 : Int32 → Int32 → Int32 → Int64 → Int32 → MS → Option (Int64 × MS)) (hk39 : ∀ (v1 : Int32) (v2 : Int32) (v3 : Int32) (v4 : Int64) (v6 : Int32) (S : MS) (H : Heap) (locs : List Loc) (ls : Array Slot), k39 v1 v2 v3 v4 v6 S = some (r, S') → zI D A s H locs (wM cy ad S) → lv_has ls 8 [(0, .ref (ad 0)), (1, .int v1), (2, .int v2), (3, .int v3), (4, .long v4), (6, .int v6)] → W p l e { frames := 2, cells := 0, slots := 0, locals := 43 } s m args below meth c H locs 0 0 Q (F0 m 39 ls [])), ∀ (v1 : Int32) (v2 : Int32) (v3 : Int32) (v4 : Int64) (v6 : Int32) (S : MS) (H : Heap) (locs : List Loc) (ls : Array Slot), fX3_with_b102 k39 v1 v2 v3 v4 v6 S = some (r, S') → zI D A s H locs (wM cy ad S) → lv_has ls 8 [(0, .ref (ad 0)), (1, .int v1), (2, .int v2), (3, .int v3), (4, .long v4), (6, .int v6)] → W p l e { frames := 2, cells := 0, slots := 0, locals := 43 } s m args below meth c H locs 0 0 Q (F0 m 102 ls []) := by
    intro k39 hk39 v1 v2 v3 v4 v6 S H locs ls hf hI hl
    unfold fX3_with_b102 at hf
    refine lv_iinc (v := (v6 + (1 : Int32))) (lv' := [(6, .int (v6 + (1 : Int32))), (0, .ref (ad 0)), (1, .int v1), (2, .int v2), (3, .int v3), (4, .long v4)]) hx hb dX3_with_102 hl (k := 5) rfl rfl (by decide) rfl (fun ls hl => ?_)
    refine lv_goto (tgt := 39) hx hb dX3_with_105 (by decide) ?_
    exact hk39 v1 v2 v3 v4 (v6 + (1 : Int32)) S _ _ _ hf hI (lv_sub hl [1, 2, 3, 4, 5, 0] rfl)
  have hb87 : ∀ (k39 : Int32 → Int32 → Int32 → Int64 → Int32 → MS → Option (Int64 × MS)) (hk39 : ∀ (v1 : Int32) (v2 : Int32) (v3 : Int32) (v4 : Int64) (v6 : Int32) (S : MS) (H : Heap) (locs : List Loc) (ls : Array Slot), k39 v1 v2 v3 v4 v6 S = some (r, S') → zI D A s H locs (wM cy ad S) → lv_has ls 8 [(0, .ref (ad 0)), (1, .int v1), (2, .int v2), (3, .int v3), (4, .long v4), (6, .int v6)] → W p l e { frames := 2, cells := 0, slots := 0, locals := 43 } s m args below meth c H locs 0 0 Q (F0 m 39 ls [])), ∀ (v1 : Int32) (v2 : Int32) (v3 : Int32) (v4 : Int64) (v6 : Int32) (S : MS) (H : Heap) (locs : List Loc) (ls : Array Slot), fX3_with_b87 k39 v1 v2 v3 v4 v6 S = some (r, S') → zI D A s H locs (wM cy ad S) → lv_has ls 8 [(0, .ref (ad 0)), (1, .int v1), (2, .int v2), (3, .int v3), (4, .long v4), (6, .int v6)] → W p l e { frames := 2, cells := 0, slots := 0, locals := 43 } s m args below meth c H locs 0 0 Q (F0 m 87 ls []) := by
    intro k39 hk39 v1 v2 v3 v4 v6 S H locs ls hf hI hl
    unfold fX3_with_b87 at hf
    refine lv_lload hx hb dX3_with_87 (lv_at hl 4 rfl) ?_
    refine lv_lconst (v := 1) hx hb dX3_with_89 (by decide) ?_
    refine lv_iload hx hb dX3_with_90 (lv_at hl 5 rfl) ?_
    refine lv_iconst (v := 1) hx hb dX3_with_92 (by decide) ?_
    refine lv_iload_n hx hb dX3_with_93 rfl (lv_at hl 2 rfl) ?_
    refine lv_ishl hx hb dX3_with_94 ?_
    refine lv_iconst (v := -1) hx hb dX3_with_95 (by decide) ?_
    refine lv_ixor hx hb dX3_with_96 ?_
    refine lv_iand hx hb dX3_with_97 ?_
    refine lv_lshl hx hb dX3_with_98 rfl ?_
    refine lv_lxor hx hb dX3_with_99 ?_
    refine lv_topl (fun n_100 e_100 => ?_)
    replace hf := zL_s hf e_100
    refine lv_lstore (lv' := [(4, .long n_100), (0, .ref (ad 0)), (1, .int v1), (2, .int v2), (3, .int v3), (6, .int v6)]) hx hb dX3_with_100 hl (by decide) rfl (fun ls hl => ?_)
    exact hb102 k39 hk39 v1 v2 v3 n_100 v6 S _ _ _ hf hI (lv_sub hl [1, 2, 3, 4, 0, 5] rfl)
  have hb61 : ∀ (k39 : Int32 → Int32 → Int32 → Int64 → Int32 → MS → Option (Int64 × MS)) (hk39 : ∀ (v1 : Int32) (v2 : Int32) (v3 : Int32) (v4 : Int64) (v6 : Int32) (S : MS) (H : Heap) (locs : List Loc) (ls : Array Slot), k39 v1 v2 v3 v4 v6 S = some (r, S') → zI D A s H locs (wM cy ad S) → lv_has ls 8 [(0, .ref (ad 0)), (1, .int v1), (2, .int v2), (3, .int v3), (4, .long v4), (6, .int v6)] → W p l e { frames := 2, cells := 0, slots := 0, locals := 43 } s m args below meth c H locs 0 0 Q (F0 m 39 ls [])), ∀ (v1 : Int32) (v2 : Int32) (v3 : Int32) (v4 : Int64) (v6 : Int32) (u0 : Int32) (S : MS) (H : Heap) (locs : List Loc) (ls : Array Slot), fX3_with_b61 k39 v1 v2 v3 v4 v6 u0 S = some (r, S') → zI D A s H locs (wM cy ad S) → lv_has ls 8 [(0, .ref (ad 0)), (1, .int v1), (2, .int v2), (3, .int v3), (4, .long v4), (6, .int v6)] → W p l e { frames := 2, cells := 0, slots := 0, locals := 43 } s m args below meth c H locs 0 0 Q (F0 m 61 ls [.int u0]) := by
    intro k39 hk39 v1 v2 v3 v4 v6 u0 S H locs ls hf hI hl
    unfold fX3_with_b61 at hf
    refine lv_istore (lv' := [(7, .int u0), (0, .ref (ad 0)), (1, .int v1), (2, .int v2), (3, .int v3), (4, .long v4), (6, .int v6)]) hx hb dX3_with_61 hl (by decide) rfl (fun ls hl => ?_)
    refine lv_aload_n hx hb dX3_with_63 rfl (lv_at hl 1 rfl) ?_
    refine va_get (D := D) (ci := 3) (v := .ref (ad 3)) (C := RX3) (T := TX3) (N := 27) hx hb hts hiX3 hown hK hI.1 0 rfl rfl 14 (by decide) (hts (.fieldLink RX3 20 "NoughtSumsModel" "line" "[J") (by decide +kernel)) (fun _ h9 => h9) rfl dX3_with_64 ?_
    refine lv_iload_n hx hb dX3_with_67 rfl (lv_at hl 2 rfl) ?_
    obtain ⟨g_68, hf⟩ := zGI_s hf
    refine va_lald (f := (m_line S)) hx hb hK hI.1 3 2 rfl rfl g_68 dX3_with_68 ?_
    refine lv_iload hx hb dX3_with_69 (lv_at hl 6 rfl) ?_
    obtain ⟨r_71, hf_71, hf⟩ := zB1_s hf
    refine z_callS C 2 (kX3_has l zq D ((m_line S) v1.toNatClampNeg) v6 r_71 hf_71) gX3_with_X3_has rfl (by decide +kernel) ⟨by decide, by decide⟩ hI rfl hl.1 rfl (Nat.le_of_ble_eq_true rfl) dX3_with_71 ⟨by decide, by decide⟩ (st2 := [.int r_71]) rfl (fun H locs hI => ?_)
    refine lv_if_eq (tgt := 102) hx hb dX3_with_74 (by decide) (fun c_74 => ?_) (fun c_74 => ?_)
    · replace hf := zIt c_74 hf
      exact hb102 k39 hk39 v1 v2 v3 v4 v6 S _ _ _ hf hI (lv_sub hl [1, 2, 3, 4, 5, 6] rfl)
    · replace hf := zIf c_74 hf
      refine lv_iload_n hx hb dX3_with_77 rfl (lv_at hl 4 rfl) ?_
      refine lv_iconst (v := 1) hx hb dX3_with_78 (by decide) ?_
      refine lv_icmp_eq (tgt := 87) hx hb dX3_with_79 (by decide) (fun c_79 => ?_) (fun c_79 => ?_)
      · replace hf := zIt c_79 hf
        exact hb87 k39 hk39 v1 v2 v3 v4 v6 S _ _ _ hf hI (lv_sub hl [1, 2, 3, 4, 5, 6] rfl)
      · replace hf := zIf c_79 hf
        refine lv_iload hx hb dX3_with_82 (lv_at hl 0 rfl) ?_
        refine lv_if_ne (tgt := 102) hx hb dX3_with_84 (by decide) (fun c_84 => ?_) (fun c_84 => ?_)
        · replace hf := zIf c_84 hf
          exact hb102 k39 hk39 v1 v2 v3 v4 v6 S _ _ _ hf hI (lv_sub hl [1, 2, 3, 4, 5, 6] rfl)
        · replace hf := zIt c_84 hf
          exact hb87 k39 hk39 v1 v2 v3 v4 v6 S _ _ _ hf hI (lv_sub hl [1, 2, 3, 4, 5, 6] rfl)
  have hb39 : ∀ (n : Nat), ∀ (v1 : Int32) (v2 : Int32) (v3 : Int32) (v4 : Int64) (v6 : Int32) (S : MS) (H : Heap) (locs : List Loc) (ls : Array Slot), fX3_with_b39L n v1 v2 v3 v4 v6 S = some (r, S') → zI D A s H locs (wM cy ad S) → lv_has ls 8 [(0, .ref (ad 0)), (1, .int v1), (2, .int v2), (3, .int v3), (4, .long v4), (6, .int v6)] → W p l e { frames := 2, cells := 0, slots := 0, locals := 43 } s m args below meth c H locs 0 0 Q (F0 m 39 ls []) := by
    intro n
    induction n with
    | zero => intro v1 v2 v3 v4 v6 S H locs ls hf; cases (show (none : Option (Int64 × MS)) = some (r, S') from hf)
    | succ n ih =>
      intro v1 v2 v3 v4 v6 S H locs ls hf hI hl
      have hf : fX3_with_b39 (fX3_with_b39L n) v1 v2 v3 v4 v6 S = some (r, S') := hf
      unfold fX3_with_b39 at hf
      refine lv_iload hx hb dX3_with_39 (lv_at hl 5 rfl) ?_
      refine lv_bipush (v := 64) hx hb dX3_with_41 (by decide) ?_
      refine lv_icmp_ge (tgt := 108) hx hb dX3_with_43 (by decide) (fun c_43 => ?_) (fun c_43 => ?_)
      · replace hf := zIt c_43 hf
        refine lv_lload hx hb dX3_with_108 (lv_at hl 4 rfl) ?_
        obtain ⟨h1, h2⟩ := zP2 hf
        rw [hQ]
        exact z_lret C (by rw [h2]; exact hI) (by rw [h1]) dX3_with_110
      · replace hf := zIf c_43 hf
        refine lv_iload hx hb dX3_with_46 (lv_at hl 5 rfl) ?_
        refine lv_iload_n hx hb dX3_with_48 rfl (lv_at hl 2 rfl) ?_
        refine lv_ishr hx hb dX3_with_49 ?_
        refine lv_iconst (v := 1) hx hb dX3_with_50 (by decide) ?_
        refine lv_iand hx hb dX3_with_51 ?_
        refine lv_iconst (v := 1) hx hb dX3_with_52 (by decide) ?_
        refine lv_icmp_ne (tgt := 60) hx hb dX3_with_53 (by decide) (fun c_53 => ?_) (fun c_53 => ?_)
        · replace hf := zIf c_53 hf
          refine lv_iconst (v := 0) hx hb dX3_with_60 (by decide) ?_
          exact hb61 (fX3_with_b39L n) ih v1 v2 v3 v4 v6 (0 : Int32) S _ _ _ hf hI (lv_sub hl [0, 1, 2, 3, 4, 5] rfl)
        · replace hf := zIt c_53 hf
          refine lv_iconst (v := 1) hx hb dX3_with_56 (by decide) ?_
          refine lv_goto (tgt := 61) hx hb dX3_with_57 (by decide) ?_
          exact hb61 (fX3_with_b39L n) ih v1 v2 v3 v4 v6 (1 : Int32) S _ _ _ hf hI (lv_sub hl [0, 1, 2, 3, 4, 5] rfl)
  unfold fX3_with at hf
  refine lv_aload_n hx hb dX3_with_0 rfl (lv_at hl 0 rfl) ?_
  refine lv_iconst (v := 0) hx hb dX3_with_1 (by decide) ?_
  obtain ⟨S_2, eS_2, hf⟩ := zL_e hf
  refine z_put (D := D) (ci := 3) (v := .int (0 : Int32)) (ty := .int) (C := RX3) (T := TX3) (N := 27) (w2 := (wM cy ad S_2)) hx hb hts hiX3 tyX3 tyX3_ok nmX3 hown hK hI 0 rfl rfl 0 (by decide) (hts (.fieldLink RX3 56 "NoughtSumsModel" "thrown" "I") (by decide +kernel)) (fun _ h9 => h9) rfl (by decide +kernel) rfl rfl (Nat.le_of_ble_eq_true rfl) dX3_with_2 (by rw [eS_2]; rfl) (fun H locs hI => ?_)
  refine lv_aload_n hx hb dX3_with_5 rfl (lv_at hl 0 rfl) ?_
  refine lv_iload_n hx hb dX3_with_6 rfl (lv_at hl 1 rfl) ?_
  obtain ⟨r_7, S_7, hf_7, hf⟩ := zB2_s hf
  refine z_callV (w2 := (wM cy ad S_7)) C 1 (kX3_isLine l zq D cy ad a1 S_2 S_7 r_7 hf_7) gX3_with_X3_isLine rfl (by decide +kernel) ⟨by decide, by decide⟩ hI 0 rfl rfl rfl hl.1 rfl (Nat.le_of_ble_eq_true rfl) dX3_with_7 ⟨by decide, by decide⟩ (st2 := [.int r_7]) rfl (fun H locs hI => ?_)
  refine lv_if_eq (tgt := 31) hx hb dX3_with_10 (by decide) (fun c_10 => ?_) (fun c_10 => ?_)
  · replace hf := zIt c_10 hf
    refine lv_lconst (v := 0) hx hb dX3_with_31 (by decide) ?_
    obtain ⟨h1, h2⟩ := zP2 hf
    rw [hQ]
    exact z_lret C (by rw [h2]; exact hI) (by rw [h1]) dX3_with_32
  · replace hf := zIf c_10 hf
    refine lv_iload_n hx hb dX3_with_13 rfl (lv_at hl 2 rfl) ?_
    refine lv_iconst (v := 0) hx hb dX3_with_14 (by decide) ?_
    refine lv_iconst (v := 5) hx hb dX3_with_15 (by decide) ?_
    obtain ⟨r_16, hf_16, hf⟩ := zB1_s hf
    refine z_callS C 3 (kX3_in l zq D a2 (0 : Int32) (5 : Int32) r_16 hf_16) gX3_with_X3_in rfl (by decide +kernel) ⟨by decide, by decide⟩ hI rfl hl.1 rfl (Nat.le_of_ble_eq_true rfl) dX3_with_16 ⟨by decide, by decide⟩ (st2 := [.int r_16]) rfl (fun H locs hI => ?_)
    refine lv_if_eq (tgt := 31) hx hb dX3_with_19 (by decide) (fun c_19 => ?_) (fun c_19 => ?_)
    · replace hf := zIt c_19 hf
      refine lv_lconst (v := 0) hx hb dX3_with_31 (by decide) ?_
      obtain ⟨h1, h2⟩ := zP2 hf
      rw [hQ]
      exact z_lret C (by rw [h2]; exact hI) (by rw [h1]) dX3_with_32
    · replace hf := zIf c_19 hf
      refine lv_iload_n hx hb dX3_with_22 rfl (lv_at hl 3 rfl) ?_
      refine lv_iconst (v := 0) hx hb dX3_with_23 (by decide) ?_
      refine lv_iconst (v := 1) hx hb dX3_with_24 (by decide) ?_
      obtain ⟨r_25, hf_25, hf⟩ := zB1_s hf
      refine z_callS C 3 (kX3_in l zq D a3 (0 : Int32) (1 : Int32) r_25 hf_25) gX3_with_X3_in rfl (by decide +kernel) ⟨by decide, by decide⟩ hI rfl hl.1 rfl (Nat.le_of_ble_eq_true rfl) dX3_with_25 ⟨by decide, by decide⟩ (st2 := [.int r_25]) rfl (fun H locs hI => ?_)
      refine lv_if_ne (tgt := 33) hx hb dX3_with_28 (by decide) (fun c_28 => ?_) (fun c_28 => ?_)
      · replace hf := zIf c_28 hf
        refine lv_lconst (v := 0) hx hb dX3_with_33 (by decide) ?_
        refine lv_lstore (lv' := [(4, .long (0 : Int64)), (0, .ref (ad 0)), (1, .int a1), (2, .int a2), (3, .int a3)]) hx hb dX3_with_34 hl (by decide) rfl (fun ls hl => ?_)
        refine lv_iconst (v := 0) hx hb dX3_with_36 (by decide) ?_
        refine lv_istore (lv' := [(6, .int (0 : Int32)), (4, .long (0 : Int64)), (0, .ref (ad 0)), (1, .int a1), (2, .int a2), (3, .int a3)]) hx hb dX3_with_37 hl (by decide) rfl (fun ls hl => ?_)
        exact hb39 zF a1 a2 a3 (0 : Int64) (0 : Int32) S_7 _ _ _ hf hI (lv_sub hl [2, 3, 4, 5, 1, 0] rfl)
      · replace hf := zIt c_28 hf
        refine lv_lconst (v := 0) hx hb dX3_with_31 (by decide) ?_
        obtain ⟨h1, h2⟩ := zP2 hf
        rw [hQ]
        exact z_lret C (by rw [h2]; exact hI) (by rw [h1]) dX3_with_32

def fX3_leftOf (a1 : Int64) (S : MS) : Option (Int64 × MS) :=
(zB1 (fX3_values a1) (fun r_2 =>
(zB2 (fX3_bears (r_2 &&& (m_common S)) S) (fun r_10 S_10 =>
some ((m_rests S_10), S_10)))))
set_option maxHeartbeats 4000000 in
set_option maxRecDepth 100000 in
theorem kX3_leftOf (l : Launch) (zq : Nat → Nat) (D : va_G) (cy : Nat → ClassId) (ad : Nat → Nat) (a1 : Int64) (S S' : MS) (r : Int64) (hf : fX3_leftOf a1 S = some (r, S')) : zMet l yX3_leftOf wsX3_leftOf 2 49 zq D (tM cy) (wM cy ad S) [.ref (ad 0), .long a1] (some (.long r)) (wM cy ad S') := by
  refine zMet.of cX3_leftOf 3 (some .long) (by decide) rfl (Nat.le_of_ble_eq_true rfl) ?_
  intro p e s m args below meth c A ls C hl hI
  have hl : lv_has ls 3 [(0, .ref (ad 0)), (1, .long a1)] := hl
  have C : zC p s m args meth c cX3_leftOf 3 (some .long) RX3 wsX3_leftOf D (tM cy) zq A := C
  obtain ⟨hx, hb, hml, hown, hts, hret, hlk, hK, hX, hA⟩ := id C
  have hiX3 : ∀ w ∈ wsX30, w ∈ wsX3_leftOf := by decide +kernel
  obtain ⟨Q, hQ⟩ : ∃ Q, Q = MQ below (zQ D (tM cy) (wM cy ad S') (some (.long r)) A) args s 0 0 A := ⟨_, rfl⟩
  rw [← hQ]
  unfold fX3_leftOf at hf
  refine lv_aload_n hx hb dX3_leftOf_0 rfl (lv_at hl 0 rfl) ?_
  refine lv_lload_n hx hb dX3_leftOf_1 rfl (lv_at hl 1 rfl) ?_
  obtain ⟨r_2, hf_2, hf⟩ := zB1_s hf
  refine z_callS C 1 (kX3_values l zq D a1 r_2 hf_2) gX3_leftOf_X3_values rfl (by decide +kernel) ⟨by decide, by decide⟩ hI rfl hl.1 rfl (Nat.le_of_ble_eq_true rfl) dX3_leftOf_2 ⟨by decide, by decide⟩ (st2 := [.long r_2, .ref (ad 0)]) rfl (fun H locs hI => ?_)
  refine lv_aload_n hx hb dX3_leftOf_5 rfl (lv_at hl 0 rfl) ?_
  refine va_get (D := D) (ci := 3) (v := .long (m_common S)) (C := RX3) (T := TX3) (N := 27) hx hb hts hiX3 hown hK hI.1 0 rfl rfl 18 (by decide) (hts (.fieldLink RX3 169 "NoughtSumsModel" "common" "J") (by decide +kernel)) (fun _ h9 => h9) rfl dX3_leftOf_6 ?_
  refine lv_land hx hb dX3_leftOf_9 ?_
  obtain ⟨r_10, S_10, hf_10, hf⟩ := zB2_s hf
  refine z_callV (w2 := (wM cy ad S_10)) C 1 (kX3_bears l zq D cy ad (r_2 &&& (m_common S)) S S_10 r_10 hf_10) gX3_leftOf_X3_bears rfl (by decide +kernel) ⟨by decide, by decide⟩ hI 0 rfl rfl rfl hl.1 rfl (Nat.le_of_ble_eq_true rfl) dX3_leftOf_10 ⟨by decide, by decide⟩ (st2 := [.long r_10]) rfl (fun H locs hI => ?_)
  refine lv_pop2_2 hx hb dX3_leftOf_13 rfl ?_
  refine lv_aload_n hx hb dX3_leftOf_14 rfl (lv_at hl 0 rfl) ?_
  refine va_get (D := D) (ci := 3) (v := .long (m_rests S_10)) (C := RX3) (T := TX3) (N := 27) hx hb hts hiX3 hown hK hI.1 0 rfl rfl 23 (by decide) (hts (.fieldLink RX3 160 "NoughtSumsModel" "rests" "J") (by decide +kernel)) (fun _ h9 => h9) rfl dX3_leftOf_15 ?_
  obtain ⟨h1, h2⟩ := zP2 hf
  rw [hQ]
  exact z_lret C (by rw [h2]; exact hI) (by rw [h1]) dX3_leftOf_18

def fX3_common  (S : MS) : Option (Int64 × MS) :=
(zL (m_thrown_u S (0 : Int32)) (fun S_2 =>
some ((m_common S_2), S_2)))
set_option maxHeartbeats 4000000 in
set_option maxRecDepth 100000 in
theorem kX3_common (l : Launch) (zq : Nat → Nat) (D : va_G) (cy : Nat → ClassId) (ad : Nat → Nat)  (S S' : MS) (r : Int64) (hf : fX3_common S = some (r, S')) : zMet l yX3_common wsX3_common 0 0 zq D (tM cy) (wM cy ad S) [.ref (ad 0)] (some (.long r)) (wM cy ad S') := by
  refine zMet.of cX3_common 1 (some .long) (by decide) rfl (Nat.le_of_ble_eq_true rfl) ?_
  intro p e s m args below meth c A ls C hl hI
  have hl : lv_has ls 1 [(0, .ref (ad 0))] := hl
  have C : zC p s m args meth c cX3_common 1 (some .long) RX3 wsX3_common D (tM cy) zq A := C
  obtain ⟨hx, hb, hml, hown, hts, hret, hlk, hK, hX, hA⟩ := id C
  have hiX3 : ∀ w ∈ wsX30, w ∈ wsX3_common := by decide +kernel
  obtain ⟨Q, hQ⟩ : ∃ Q, Q = MQ below (zQ D (tM cy) (wM cy ad S') (some (.long r)) A) args s 0 0 A := ⟨_, rfl⟩
  rw [← hQ]
  unfold fX3_common at hf
  refine lv_aload_n hx hb dX3_common_0 rfl (lv_at hl 0 rfl) ?_
  refine lv_iconst (v := 0) hx hb dX3_common_1 (by decide) ?_
  obtain ⟨S_2, eS_2, hf⟩ := zL_e hf
  refine z_put (D := D) (ci := 3) (v := .int (0 : Int32)) (ty := .int) (C := RX3) (T := TX3) (N := 27) (w2 := (wM cy ad S_2)) hx hb hts hiX3 tyX3 tyX3_ok nmX3 hown hK hI 0 rfl rfl 0 (by decide) (hts (.fieldLink RX3 56 "NoughtSumsModel" "thrown" "I") (by decide +kernel)) (fun _ h9 => h9) rfl (by decide +kernel) rfl rfl (Nat.le_of_ble_eq_true rfl) dX3_common_2 (by rw [eS_2]; rfl) (fun H locs hI => ?_)
  refine lv_aload_n hx hb dX3_common_5 rfl (lv_at hl 0 rfl) ?_
  refine va_get (D := D) (ci := 3) (v := .long (m_common S_2)) (C := RX3) (T := TX3) (N := 27) hx hb hts hiX3 hown hK hI.1 0 rfl rfl 18 (by decide) (hts (.fieldLink RX3 169 "NoughtSumsModel" "common" "J") (by decide +kernel)) (fun _ h9 => h9) rfl dX3_common_6 ?_
  obtain ⟨h1, h2⟩ := zP2 hf
  rw [hQ]
  exact z_lret C (by rw [h2]; exact hI) (by rw [h1]) dX3_common_9

def fX3_follows (a1 : Int32) (S : MS) : Option (Int32 × MS) :=
(zL (m_thrown_u S (0 : Int32)) (fun S_2 =>
(zB2 (fX3_isLine a1 S_2) (fun r_7 S_7 =>
(if r_7 = 0 then some ((-1 : Int32), S_7) else
(zGI a1 32
((zB2 (fX3_isFollowing ((m_line S_7) a1.toNatClampNeg) S_7) (fun r_24 S_24 =>
(if r_24 = 0 then some ((0 : Int32), S_24) else
some ((1 : Int32), S_24)))))))))))
set_option maxHeartbeats 4000000 in
set_option maxRecDepth 100000 in
theorem kX3_follows (l : Launch) (zq : Nat → Nat) (D : va_G) (cy : Nat → ClassId) (ad : Nat → Nat) (a1 : Int32) (S S' : MS) (r : Int32) (hf : fX3_follows a1 S = some (r, S')) : zMet l yX3_follows wsX3_follows 3 71 zq D (tM cy) (wM cy ad S) [.ref (ad 0), .int a1] (some (.int r)) (wM cy ad S') := by
  refine zMet.of cX3_follows 2 (some .int) (by decide) rfl (Nat.le_of_ble_eq_true rfl) ?_
  intro p e s m args below meth c A ls C hl hI
  have hl : lv_has ls 2 [(0, .ref (ad 0)), (1, .int a1)] := hl
  have C : zC p s m args meth c cX3_follows 2 (some .int) RX3 wsX3_follows D (tM cy) zq A := C
  obtain ⟨hx, hb, hml, hown, hts, hret, hlk, hK, hX, hA⟩ := id C
  have hiX3 : ∀ w ∈ wsX30, w ∈ wsX3_follows := by decide +kernel
  obtain ⟨Q, hQ⟩ : ∃ Q, Q = MQ below (zQ D (tM cy) (wM cy ad S') (some (.int r)) A) args s 0 0 A := ⟨_, rfl⟩
  rw [← hQ]
  unfold fX3_follows at hf
  refine lv_aload_n hx hb dX3_follows_0 rfl (lv_at hl 0 rfl) ?_
  refine lv_iconst (v := 0) hx hb dX3_follows_1 (by decide) ?_
  obtain ⟨S_2, eS_2, hf⟩ := zL_e hf
  refine z_put (D := D) (ci := 3) (v := .int (0 : Int32)) (ty := .int) (C := RX3) (T := TX3) (N := 27) (w2 := (wM cy ad S_2)) hx hb hts hiX3 tyX3 tyX3_ok nmX3 hown hK hI 0 rfl rfl 0 (by decide) (hts (.fieldLink RX3 56 "NoughtSumsModel" "thrown" "I") (by decide +kernel)) (fun _ h9 => h9) rfl (by decide +kernel) rfl rfl (Nat.le_of_ble_eq_true rfl) dX3_follows_2 (by rw [eS_2]; rfl) (fun H locs hI => ?_)
  refine lv_aload_n hx hb dX3_follows_5 rfl (lv_at hl 0 rfl) ?_
  refine lv_iload_n hx hb dX3_follows_6 rfl (lv_at hl 1 rfl) ?_
  obtain ⟨r_7, S_7, hf_7, hf⟩ := zB2_s hf
  refine z_callV (w2 := (wM cy ad S_7)) C 1 (kX3_isLine l zq D cy ad a1 S_2 S_7 r_7 hf_7) gX3_follows_X3_isLine rfl (by decide +kernel) ⟨by decide, by decide⟩ hI 0 rfl rfl rfl hl.1 rfl (Nat.le_of_ble_eq_true rfl) dX3_follows_7 ⟨by decide, by decide⟩ (st2 := [.int r_7]) rfl (fun H locs hI => ?_)
  refine lv_if_ne (tgt := 17) hx hb dX3_follows_10 (by decide) (fun c_10 => ?_) (fun c_10 => ?_)
  · replace hf := zIf c_10 hf
    refine lv_aload_n hx hb dX3_follows_17 rfl (lv_at hl 0 rfl) ?_
    refine lv_aload_n hx hb dX3_follows_18 rfl (lv_at hl 0 rfl) ?_
    refine va_get (D := D) (ci := 3) (v := .ref (ad 3)) (C := RX3) (T := TX3) (N := 27) hx hb hts hiX3 hown hK hI.1 0 rfl rfl 14 (by decide) (hts (.fieldLink RX3 20 "NoughtSumsModel" "line" "[J") (by decide +kernel)) (fun _ h9 => h9) rfl dX3_follows_19 ?_
    refine lv_iload_n hx hb dX3_follows_22 rfl (lv_at hl 1 rfl) ?_
    obtain ⟨g_23, hf⟩ := zGI_s hf
    refine va_lald (f := (m_line S_7)) hx hb hK hI.1 3 2 rfl rfl g_23 dX3_follows_23 ?_
    obtain ⟨r_24, S_24, hf_24, hf⟩ := zB2_s hf
    refine z_callV (w2 := (wM cy ad S_24)) C 1 (kX3_isFollowing l zq D cy ad ((m_line S_7) a1.toNatClampNeg) S_7 S_24 r_24 hf_24) gX3_follows_X3_isFollowing rfl (by decide +kernel) ⟨by decide, by decide⟩ hI 0 rfl rfl rfl hl.1 rfl (Nat.le_of_ble_eq_true rfl) dX3_follows_24 ⟨by decide, by decide⟩ (st2 := [.int r_24]) rfl (fun H locs hI => ?_)
    refine lv_if_eq (tgt := 34) hx hb dX3_follows_27 (by decide) (fun c_27 => ?_) (fun c_27 => ?_)
    · replace hf := zIt c_27 hf
      refine lv_iconst (v := 0) hx hb dX3_follows_34 (by decide) ?_
      obtain ⟨h1, h2⟩ := zP2 hf
      rw [hQ]
      exact z_iret C (by rw [h2]; exact hI) (by rw [h1]) dX3_follows_35
    · replace hf := zIf c_27 hf
      refine lv_iconst (v := 1) hx hb dX3_follows_30 (by decide) ?_
      refine lv_goto (tgt := 35) hx hb dX3_follows_31 (by decide) ?_
      obtain ⟨h1, h2⟩ := zP2 hf
      rw [hQ]
      exact z_iret C (by rw [h2]; exact hI) (by rw [h1]) dX3_follows_35
  · replace hf := zIt c_10 hf
    refine lv_iconst (v := -1) hx hb dX3_follows_13 (by decide) ?_
    refine lv_goto (tgt := 35) hx hb dX3_follows_14 (by decide) ?_
    obtain ⟨h1, h2⟩ := zP2 hf
    rw [hQ]
    exact z_iret C (by rw [h2]; exact hI) (by rw [h1]) dX3_follows_35

def fX3_standing  (S : MS) : Option (Int64 × MS) :=
(zL (m_thrown_u S (0 : Int32)) (fun S_2 =>
some ((m_standing S_2), S_2)))
set_option maxHeartbeats 4000000 in
set_option maxRecDepth 100000 in
theorem kX3_standing (l : Launch) (zq : Nat → Nat) (D : va_G) (cy : Nat → ClassId) (ad : Nat → Nat)  (S S' : MS) (r : Int64) (hf : fX3_standing S = some (r, S')) : zMet l yX3_standing wsX3_standing 0 0 zq D (tM cy) (wM cy ad S) [.ref (ad 0)] (some (.long r)) (wM cy ad S') := by
  refine zMet.of cX3_standing 1 (some .long) (by decide) rfl (Nat.le_of_ble_eq_true rfl) ?_
  intro p e s m args below meth c A ls C hl hI
  have hl : lv_has ls 1 [(0, .ref (ad 0))] := hl
  have C : zC p s m args meth c cX3_standing 1 (some .long) RX3 wsX3_standing D (tM cy) zq A := C
  obtain ⟨hx, hb, hml, hown, hts, hret, hlk, hK, hX, hA⟩ := id C
  have hiX3 : ∀ w ∈ wsX30, w ∈ wsX3_standing := by decide +kernel
  obtain ⟨Q, hQ⟩ : ∃ Q, Q = MQ below (zQ D (tM cy) (wM cy ad S') (some (.long r)) A) args s 0 0 A := ⟨_, rfl⟩
  rw [← hQ]
  unfold fX3_standing at hf
  refine lv_aload_n hx hb dX3_standing_0 rfl (lv_at hl 0 rfl) ?_
  refine lv_iconst (v := 0) hx hb dX3_standing_1 (by decide) ?_
  obtain ⟨S_2, eS_2, hf⟩ := zL_e hf
  refine z_put (D := D) (ci := 3) (v := .int (0 : Int32)) (ty := .int) (C := RX3) (T := TX3) (N := 27) (w2 := (wM cy ad S_2)) hx hb hts hiX3 tyX3 tyX3_ok nmX3 hown hK hI 0 rfl rfl 0 (by decide) (hts (.fieldLink RX3 56 "NoughtSumsModel" "thrown" "I") (by decide +kernel)) (fun _ h9 => h9) rfl (by decide +kernel) rfl rfl (Nat.le_of_ble_eq_true rfl) dX3_standing_2 (by rw [eS_2]; rfl) (fun H locs hI => ?_)
  refine lv_aload_n hx hb dX3_standing_5 rfl (lv_at hl 0 rfl) ?_
  refine va_get (D := D) (ci := 3) (v := .long (m_standing S_2)) (C := RX3) (T := TX3) (N := 27) hx hb hts hiX3 hown hK hI.1 0 rfl rfl 19 (by decide) (hts (.fieldLink RX3 172 "NoughtSumsModel" "standing" "J") (by decide +kernel)) (fun _ h9 => h9) rfl dX3_standing_6 ?_
  obtain ⟨h1, h2⟩ := zP2 hf
  rw [hQ]
  exact z_lret C (by rw [h2]; exact hI) (by rw [h1]) dX3_standing_9

def fX3_left (a1 : Int32) (S : MS) : Option (Int64 × MS) :=
(zL (m_thrown_u S (0 : Int32)) (fun S_2 =>
(zB2 (fX3_isLine a1 S_2) (fun r_7 S_7 =>
(if r_7 = 0 then some ((0 : Int64), S_7) else
(zGI a1 32
((zB2 (fX3_leftOf ((m_line S_7) a1.toNatClampNeg) S_7) (fun r_20 S_20 =>
some (r_20, S_20))))))))))
set_option maxHeartbeats 4000000 in
set_option maxRecDepth 100000 in
theorem kX3_left (l : Launch) (zq : Nat → Nat) (D : va_G) (cy : Nat → ClassId) (ad : Nat → Nat) (a1 : Int32) (S S' : MS) (r : Int64) (hf : fX3_left a1 S = some (r, S')) : zMet l yX3_left wsX3_left 3 71 zq D (tM cy) (wM cy ad S) [.ref (ad 0), .int a1] (some (.long r)) (wM cy ad S') := by
  refine zMet.of cX3_left 2 (some .long) (by decide) rfl (Nat.le_of_ble_eq_true rfl) ?_
  intro p e s m args below meth c A ls C hl hI
  have hl : lv_has ls 2 [(0, .ref (ad 0)), (1, .int a1)] := hl
  have C : zC p s m args meth c cX3_left 2 (some .long) RX3 wsX3_left D (tM cy) zq A := C
  obtain ⟨hx, hb, hml, hown, hts, hret, hlk, hK, hX, hA⟩ := id C
  have hiX3 : ∀ w ∈ wsX30, w ∈ wsX3_left := by decide +kernel
  obtain ⟨Q, hQ⟩ : ∃ Q, Q = MQ below (zQ D (tM cy) (wM cy ad S') (some (.long r)) A) args s 0 0 A := ⟨_, rfl⟩
  rw [← hQ]
  unfold fX3_left at hf
  refine lv_aload_n hx hb dX3_left_0 rfl (lv_at hl 0 rfl) ?_
  refine lv_iconst (v := 0) hx hb dX3_left_1 (by decide) ?_
  obtain ⟨S_2, eS_2, hf⟩ := zL_e hf
  refine z_put (D := D) (ci := 3) (v := .int (0 : Int32)) (ty := .int) (C := RX3) (T := TX3) (N := 27) (w2 := (wM cy ad S_2)) hx hb hts hiX3 tyX3 tyX3_ok nmX3 hown hK hI 0 rfl rfl 0 (by decide) (hts (.fieldLink RX3 56 "NoughtSumsModel" "thrown" "I") (by decide +kernel)) (fun _ h9 => h9) rfl (by decide +kernel) rfl rfl (Nat.le_of_ble_eq_true rfl) dX3_left_2 (by rw [eS_2]; rfl) (fun H locs hI => ?_)
  refine lv_aload_n hx hb dX3_left_5 rfl (lv_at hl 0 rfl) ?_
  refine lv_iload_n hx hb dX3_left_6 rfl (lv_at hl 1 rfl) ?_
  obtain ⟨r_7, S_7, hf_7, hf⟩ := zB2_s hf
  refine z_callV (w2 := (wM cy ad S_7)) C 1 (kX3_isLine l zq D cy ad a1 S_2 S_7 r_7 hf_7) gX3_left_X3_isLine rfl (by decide +kernel) ⟨by decide, by decide⟩ hI 0 rfl rfl rfl hl.1 rfl (Nat.le_of_ble_eq_true rfl) dX3_left_7 ⟨by decide, by decide⟩ (st2 := [.int r_7]) rfl (fun H locs hI => ?_)
  refine lv_if_eq (tgt := 26) hx hb dX3_left_10 (by decide) (fun c_10 => ?_) (fun c_10 => ?_)
  · replace hf := zIt c_10 hf
    refine lv_lconst (v := 0) hx hb dX3_left_26 (by decide) ?_
    obtain ⟨h1, h2⟩ := zP2 hf
    rw [hQ]
    exact z_lret C (by rw [h2]; exact hI) (by rw [h1]) dX3_left_27
  · replace hf := zIf c_10 hf
    refine lv_aload_n hx hb dX3_left_13 rfl (lv_at hl 0 rfl) ?_
    refine lv_aload_n hx hb dX3_left_14 rfl (lv_at hl 0 rfl) ?_
    refine va_get (D := D) (ci := 3) (v := .ref (ad 3)) (C := RX3) (T := TX3) (N := 27) hx hb hts hiX3 hown hK hI.1 0 rfl rfl 14 (by decide) (hts (.fieldLink RX3 20 "NoughtSumsModel" "line" "[J") (by decide +kernel)) (fun _ h9 => h9) rfl dX3_left_15 ?_
    refine lv_iload_n hx hb dX3_left_18 rfl (lv_at hl 1 rfl) ?_
    obtain ⟨g_19, hf⟩ := zGI_s hf
    refine va_lald (f := (m_line S_7)) hx hb hK hI.1 3 2 rfl rfl g_19 dX3_left_19 ?_
    obtain ⟨r_20, S_20, hf_20, hf⟩ := zB2_s hf
    refine z_callV (w2 := (wM cy ad S_20)) C 1 (kX3_leftOf l zq D cy ad ((m_line S_7) a1.toNatClampNeg) S_7 S_20 r_20 hf_20) gX3_left_X3_leftOf rfl (by decide +kernel) ⟨by decide, by decide⟩ hI 0 rfl rfl rfl hl.1 rfl (Nat.le_of_ble_eq_true rfl) dX3_left_20 ⟨by decide, by decide⟩ (st2 := [.long r_20]) rfl (fun H locs hI => ?_)
    refine lv_goto (tgt := 27) hx hb dX3_left_23 (by decide) ?_
    obtain ⟨h1, h2⟩ := zP2 hf
    rw [hQ]
    exact z_lret C (by rw [h2]; exact hI) (by rw [h1]) dX3_left_27

def fX3_rest (a1 : Int64) (S : MS) : Option (Int64 × MS) :=
(zL (m_thrown_u S (0 : Int32)) (fun S_2 =>
(zB2 (fX3_leftOf a1 S_2) (fun r_7 S_7 =>
some (r_7, S_7)))))
set_option maxHeartbeats 4000000 in
set_option maxRecDepth 100000 in
theorem kX3_rest (l : Launch) (zq : Nat → Nat) (D : va_G) (cy : Nat → ClassId) (ad : Nat → Nat) (a1 : Int64) (S S' : MS) (r : Int64) (hf : fX3_rest a1 S = some (r, S')) : zMet l yX3_rest wsX3_rest 3 71 zq D (tM cy) (wM cy ad S) [.ref (ad 0), .long a1] (some (.long r)) (wM cy ad S') := by
  refine zMet.of cX3_rest 3 (some .long) (by decide) rfl (Nat.le_of_ble_eq_true rfl) ?_
  intro p e s m args below meth c A ls C hl hI
  have hl : lv_has ls 3 [(0, .ref (ad 0)), (1, .long a1)] := hl
  have C : zC p s m args meth c cX3_rest 3 (some .long) RX3 wsX3_rest D (tM cy) zq A := C
  obtain ⟨hx, hb, hml, hown, hts, hret, hlk, hK, hX, hA⟩ := id C
  have hiX3 : ∀ w ∈ wsX30, w ∈ wsX3_rest := by decide +kernel
  obtain ⟨Q, hQ⟩ : ∃ Q, Q = MQ below (zQ D (tM cy) (wM cy ad S') (some (.long r)) A) args s 0 0 A := ⟨_, rfl⟩
  rw [← hQ]
  unfold fX3_rest at hf
  refine lv_aload_n hx hb dX3_rest_0 rfl (lv_at hl 0 rfl) ?_
  refine lv_iconst (v := 0) hx hb dX3_rest_1 (by decide) ?_
  obtain ⟨S_2, eS_2, hf⟩ := zL_e hf
  refine z_put (D := D) (ci := 3) (v := .int (0 : Int32)) (ty := .int) (C := RX3) (T := TX3) (N := 27) (w2 := (wM cy ad S_2)) hx hb hts hiX3 tyX3 tyX3_ok nmX3 hown hK hI 0 rfl rfl 0 (by decide) (hts (.fieldLink RX3 56 "NoughtSumsModel" "thrown" "I") (by decide +kernel)) (fun _ h9 => h9) rfl (by decide +kernel) rfl rfl (Nat.le_of_ble_eq_true rfl) dX3_rest_2 (by rw [eS_2]; rfl) (fun H locs hI => ?_)
  refine lv_aload_n hx hb dX3_rest_5 rfl (lv_at hl 0 rfl) ?_
  refine lv_lload_n hx hb dX3_rest_6 rfl (lv_at hl 1 rfl) ?_
  obtain ⟨r_7, S_7, hf_7, hf⟩ := zB2_s hf
  refine z_callV (w2 := (wM cy ad S_7)) C 1 (kX3_leftOf l zq D cy ad a1 S_2 S_7 r_7 hf_7) gX3_rest_X3_leftOf rfl (by decide +kernel) ⟨by decide, by decide⟩ hI 0 rfl rfl rfl hl.1 rfl (Nat.le_of_ble_eq_true rfl) dX3_rest_7 ⟨by decide, by decide⟩ (st2 := [.long r_7]) rfl (fun H locs hI => ?_)
  obtain ⟨h1, h2⟩ := zP2 hf
  rw [hQ]
  exact z_lret C (by rw [h2]; exact hI) (by rw [h1]) dX3_rest_10

def fX3_isLeast_b59 (k19 : Int32 → Int32 → Int32 → MS → Option (Int32 × MS)) (v1 : Int32) (v3 : Int32) (u0 : Int32) (S : MS) : Option (Int32 × MS) :=
k19 v1 u0 (v3 + (1 : Int32)) S

def fX3_isLeast_b58 (k19 : Int32 → Int32 → Int32 → MS → Option (Int32 × MS)) (v1 : Int32) (v3 : Int32) (S : MS) : Option (Int32 × MS) :=
fX3_isLeast_b59 k19 v1 v3 (0 : Int32) S

def fX3_isLeast_b54 (k19 : Int32 → Int32 → Int32 → MS → Option (Int32 × MS)) (v1 : Int32) (v3 : Int32) (S : MS) : Option (Int32 × MS) :=
fX3_isLeast_b59 k19 v1 v3 (1 : Int32) S

def fX3_isLeast_b19 (k19 : Int32 → Int32 → Int32 → MS → Option (Int32 × MS)) (v1 : Int32) (v2 : Int32) (v3 : Int32) (S : MS) : Option (Int32 × MS) :=
(if (6 : Int32) ≤ v3 then (zG (v2 = 0 ∨ v2 = 1) (some (v2, S))) else
(if v2 = 0 then fX3_isLeast_b58 k19 v1 v3 S else
(if ((v1 >>> (v3 &&& 31)) &&& (1 : Int32)) = 0 then fX3_isLeast_b54 k19 v1 v3 S else
(zB1 (fX3_has (m_standing S) (v1 &&& (((1 : Int32) <<< (v3 &&& 31)) ^^^ (-1 : Int32)))) (fun r_48 =>
(if r_48 = 0 then fX3_isLeast_b58 k19 v1 v3 S else
fX3_isLeast_b54 k19 v1 v3 S))))))
def fX3_isLeast_b19L : Nat → Int32 → Int32 → Int32 → MS → Option (Int32 × MS)
  | 0, _, _, _, _ => none
  | n + 1, v1, v2, v3, S => fX3_isLeast_b19 (fX3_isLeast_b19L n) v1 v2 v3 S

def fX3_isLeast_b16 (v1 : Int32) (u0 : Int32) (S : MS) : Option (Int32 × MS) :=
fX3_isLeast_b19L zF v1 u0 (0 : Int32) S

def fX3_isLeast (a1 : Int32) (S : MS) : Option (Int32 × MS) :=
(zB1 (fX3_has (m_standing S) a1) (fun r_5 =>
(if r_5 = 0 then fX3_isLeast_b16 a1 (1 : Int32) S else
fX3_isLeast_b16 a1 (0 : Int32) S)))
set_option maxHeartbeats 4000000 in
set_option maxRecDepth 100000 in
theorem kX3_isLeast (l : Launch) (zq : Nat → Nat) (D : va_G) (cy : Nat → ClassId) (ad : Nat → Nat) (a1 : Int32) (S S' : MS) (r : Int32) (hf : fX3_isLeast a1 S = some (r, S')) : zMet l yX3_isLeast wsX3_isLeast 1 22 zq D (tM cy) (wM cy ad S) [.ref (ad 0), .int a1] (some (.int r)) (wM cy ad S') := by
  refine zMet.of cX3_isLeast 4 (some .boolean) (by decide) rfl (Nat.le_of_ble_eq_true rfl) ?_
  intro p e s m args below meth c A ls C hl hI
  have hl : lv_has ls 4 [(0, .ref (ad 0)), (1, .int a1)] := hl
  have C : zC p s m args meth c cX3_isLeast 4 (some .boolean) RX3 wsX3_isLeast D (tM cy) zq A := C
  obtain ⟨hx, hb, hml, hown, hts, hret, hlk, hK, hX, hA⟩ := id C
  have hiX3 : ∀ w ∈ wsX30, w ∈ wsX3_isLeast := by decide +kernel
  obtain ⟨Q, hQ⟩ : ∃ Q, Q = MQ below (zQ D (tM cy) (wM cy ad S') (some (.int r)) A) args s 0 0 A := ⟨_, rfl⟩
  rw [← hQ]
  have hb59 : ∀ (k19 : Int32 → Int32 → Int32 → MS → Option (Int32 × MS)) (hk19 : ∀ (v1 : Int32) (v2 : Int32) (v3 : Int32) (S : MS) (H : Heap) (locs : List Loc) (ls : Array Slot), k19 v1 v2 v3 S = some (r, S') → zI D A s H locs (wM cy ad S) → lv_has ls 4 [(0, .ref (ad 0)), (1, .int v1), (2, .int v2), (3, .int v3)] → W p l e { frames := 1, cells := 0, slots := 0, locals := 22 } s m args below meth c H locs 0 0 Q (F0 m 19 ls [])), ∀ (v1 : Int32) (v3 : Int32) (u0 : Int32) (S : MS) (H : Heap) (locs : List Loc) (ls : Array Slot), fX3_isLeast_b59 k19 v1 v3 u0 S = some (r, S') → zI D A s H locs (wM cy ad S) → lv_has ls 4 [(0, .ref (ad 0)), (1, .int v1), (3, .int v3)] → W p l e { frames := 1, cells := 0, slots := 0, locals := 22 } s m args below meth c H locs 0 0 Q (F0 m 59 ls [.int u0]) := by
    intro k19 hk19 v1 v3 u0 S H locs ls hf hI hl
    unfold fX3_isLeast_b59 at hf
    refine lv_istore_n (lv' := [(2, .int u0), (0, .ref (ad 0)), (1, .int v1), (3, .int v3)]) hx hb dX3_isLeast_59 rfl hl (by decide) rfl (fun ls hl => ?_)
    refine lv_iinc (v := (v3 + (1 : Int32))) (lv' := [(3, .int (v3 + (1 : Int32))), (2, .int u0), (0, .ref (ad 0)), (1, .int v1)]) hx hb dX3_isLeast_60 hl (k := 3) rfl rfl (by decide) rfl (fun ls hl => ?_)
    refine lv_goto (tgt := 19) hx hb dX3_isLeast_63 (by decide) ?_
    exact hk19 v1 u0 (v3 + (1 : Int32)) S _ _ _ hf hI (lv_sub hl [2, 3, 1, 0] rfl)
  have hb58 : ∀ (k19 : Int32 → Int32 → Int32 → MS → Option (Int32 × MS)) (hk19 : ∀ (v1 : Int32) (v2 : Int32) (v3 : Int32) (S : MS) (H : Heap) (locs : List Loc) (ls : Array Slot), k19 v1 v2 v3 S = some (r, S') → zI D A s H locs (wM cy ad S) → lv_has ls 4 [(0, .ref (ad 0)), (1, .int v1), (2, .int v2), (3, .int v3)] → W p l e { frames := 1, cells := 0, slots := 0, locals := 22 } s m args below meth c H locs 0 0 Q (F0 m 19 ls [])), ∀ (v1 : Int32) (v3 : Int32) (S : MS) (H : Heap) (locs : List Loc) (ls : Array Slot), fX3_isLeast_b58 k19 v1 v3 S = some (r, S') → zI D A s H locs (wM cy ad S) → lv_has ls 4 [(0, .ref (ad 0)), (1, .int v1), (3, .int v3)] → W p l e { frames := 1, cells := 0, slots := 0, locals := 22 } s m args below meth c H locs 0 0 Q (F0 m 58 ls []) := by
    intro k19 hk19 v1 v3 S H locs ls hf hI hl
    unfold fX3_isLeast_b58 at hf
    refine lv_iconst (v := 0) hx hb dX3_isLeast_58 (by decide) ?_
    exact hb59 k19 hk19 v1 v3 (0 : Int32) S _ _ _ hf hI (lv_sub hl [0, 1, 2] rfl)
  have hb54 : ∀ (k19 : Int32 → Int32 → Int32 → MS → Option (Int32 × MS)) (hk19 : ∀ (v1 : Int32) (v2 : Int32) (v3 : Int32) (S : MS) (H : Heap) (locs : List Loc) (ls : Array Slot), k19 v1 v2 v3 S = some (r, S') → zI D A s H locs (wM cy ad S) → lv_has ls 4 [(0, .ref (ad 0)), (1, .int v1), (2, .int v2), (3, .int v3)] → W p l e { frames := 1, cells := 0, slots := 0, locals := 22 } s m args below meth c H locs 0 0 Q (F0 m 19 ls [])), ∀ (v1 : Int32) (v3 : Int32) (S : MS) (H : Heap) (locs : List Loc) (ls : Array Slot), fX3_isLeast_b54 k19 v1 v3 S = some (r, S') → zI D A s H locs (wM cy ad S) → lv_has ls 4 [(0, .ref (ad 0)), (1, .int v1), (3, .int v3)] → W p l e { frames := 1, cells := 0, slots := 0, locals := 22 } s m args below meth c H locs 0 0 Q (F0 m 54 ls []) := by
    intro k19 hk19 v1 v3 S H locs ls hf hI hl
    unfold fX3_isLeast_b54 at hf
    refine lv_iconst (v := 1) hx hb dX3_isLeast_54 (by decide) ?_
    refine lv_goto (tgt := 59) hx hb dX3_isLeast_55 (by decide) ?_
    exact hb59 k19 hk19 v1 v3 (1 : Int32) S _ _ _ hf hI (lv_sub hl [0, 1, 2] rfl)
  have hb19 : ∀ (n : Nat), ∀ (v1 : Int32) (v2 : Int32) (v3 : Int32) (S : MS) (H : Heap) (locs : List Loc) (ls : Array Slot), fX3_isLeast_b19L n v1 v2 v3 S = some (r, S') → zI D A s H locs (wM cy ad S) → lv_has ls 4 [(0, .ref (ad 0)), (1, .int v1), (2, .int v2), (3, .int v3)] → W p l e { frames := 1, cells := 0, slots := 0, locals := 22 } s m args below meth c H locs 0 0 Q (F0 m 19 ls []) := by
    intro n
    induction n with
    | zero => intro v1 v2 v3 S H locs ls hf; cases (show (none : Option (Int32 × MS)) = some (r, S') from hf)
    | succ n ih =>
      intro v1 v2 v3 S H locs ls hf hI hl
      have hf : fX3_isLeast_b19 (fX3_isLeast_b19L n) v1 v2 v3 S = some (r, S') := hf
      unfold fX3_isLeast_b19 at hf
      refine lv_iload_n hx hb dX3_isLeast_19 rfl (lv_at hl 3 rfl) ?_
      refine lv_bipush (v := 6) hx hb dX3_isLeast_20 (by decide) ?_
      refine lv_icmp_ge (tgt := 66) hx hb dX3_isLeast_22 (by decide) (fun c_22 => ?_) (fun c_22 => ?_)
      · replace hf := zIt c_22 hf
        refine lv_iload_n hx hb dX3_isLeast_66 rfl (lv_at hl 2 rfl) ?_
        obtain ⟨g_67, hf⟩ := zG_s hf
        obtain ⟨h1, h2⟩ := zP2 hf
        rw [hQ]
        exact z_zret C (by rw [h2]; exact hI) (by rw [h1]) (zNarB g_67) dX3_isLeast_67
      · replace hf := zIf c_22 hf
        refine lv_iload_n hx hb dX3_isLeast_25 rfl (lv_at hl 2 rfl) ?_
        refine lv_if_eq (tgt := 58) hx hb dX3_isLeast_26 (by decide) (fun c_26 => ?_) (fun c_26 => ?_)
        · replace hf := zIt c_26 hf
          exact hb58 (fX3_isLeast_b19L n) ih v1 v3 S _ _ _ hf hI (lv_sub hl [0, 1, 3] rfl)
        · replace hf := zIf c_26 hf
          refine lv_iload_n hx hb dX3_isLeast_29 rfl (lv_at hl 1 rfl) ?_
          refine lv_iload_n hx hb dX3_isLeast_30 rfl (lv_at hl 3 rfl) ?_
          refine lv_ishr hx hb dX3_isLeast_31 ?_
          refine lv_iconst (v := 1) hx hb dX3_isLeast_32 (by decide) ?_
          refine lv_iand hx hb dX3_isLeast_33 ?_
          refine lv_if_eq (tgt := 54) hx hb dX3_isLeast_34 (by decide) (fun c_34 => ?_) (fun c_34 => ?_)
          · replace hf := zIt c_34 hf
            exact hb54 (fX3_isLeast_b19L n) ih v1 v3 S _ _ _ hf hI (lv_sub hl [0, 1, 3] rfl)
          · replace hf := zIf c_34 hf
            refine lv_aload_n hx hb dX3_isLeast_37 rfl (lv_at hl 0 rfl) ?_
            refine va_get (D := D) (ci := 3) (v := .long (m_standing S)) (C := RX3) (T := TX3) (N := 27) hx hb hts hiX3 hown hK hI.1 0 rfl rfl 19 (by decide) (hts (.fieldLink RX3 172 "NoughtSumsModel" "standing" "J") (by decide +kernel)) (fun _ h9 => h9) rfl dX3_isLeast_38 ?_
            refine lv_iload_n hx hb dX3_isLeast_41 rfl (lv_at hl 1 rfl) ?_
            refine lv_iconst (v := 1) hx hb dX3_isLeast_42 (by decide) ?_
            refine lv_iload_n hx hb dX3_isLeast_43 rfl (lv_at hl 3 rfl) ?_
            refine lv_ishl hx hb dX3_isLeast_44 ?_
            refine lv_iconst (v := -1) hx hb dX3_isLeast_45 (by decide) ?_
            refine lv_ixor hx hb dX3_isLeast_46 ?_
            refine lv_iand hx hb dX3_isLeast_47 ?_
            obtain ⟨r_48, hf_48, hf⟩ := zB1_s hf
            refine z_callS C 2 (kX3_has l zq D (m_standing S) (v1 &&& (((1 : Int32) <<< (v3 &&& 31)) ^^^ (-1 : Int32))) r_48 hf_48) gX3_isLeast_X3_has rfl (by decide +kernel) ⟨by decide, by decide⟩ hI rfl hl.1 rfl (Nat.le_of_ble_eq_true rfl) dX3_isLeast_48 ⟨by decide, by decide⟩ (st2 := [.int r_48]) rfl (fun H locs hI => ?_)
            refine lv_if_eq (tgt := 58) hx hb dX3_isLeast_51 (by decide) (fun c_51 => ?_) (fun c_51 => ?_)
            · replace hf := zIt c_51 hf
              exact hb58 (fX3_isLeast_b19L n) ih v1 v3 S _ _ _ hf hI (lv_sub hl [0, 1, 3] rfl)
            · replace hf := zIf c_51 hf
              exact hb54 (fX3_isLeast_b19L n) ih v1 v3 S _ _ _ hf hI (lv_sub hl [0, 1, 3] rfl)
  have hb16 : ∀ (v1 : Int32) (u0 : Int32) (S : MS) (H : Heap) (locs : List Loc) (ls : Array Slot), fX3_isLeast_b16 v1 u0 S = some (r, S') → zI D A s H locs (wM cy ad S) → lv_has ls 4 [(0, .ref (ad 0)), (1, .int v1)] → W p l e { frames := 1, cells := 0, slots := 0, locals := 22 } s m args below meth c H locs 0 0 Q (F0 m 16 ls [.int u0]) := by
    intro v1 u0 S H locs ls hf hI hl
    unfold fX3_isLeast_b16 at hf
    refine lv_istore_n (lv' := [(2, .int u0), (0, .ref (ad 0)), (1, .int v1)]) hx hb dX3_isLeast_16 rfl hl (by decide) rfl (fun ls hl => ?_)
    refine lv_iconst (v := 0) hx hb dX3_isLeast_17 (by decide) ?_
    refine lv_istore_n (lv' := [(3, .int (0 : Int32)), (2, .int u0), (0, .ref (ad 0)), (1, .int v1)]) hx hb dX3_isLeast_18 rfl hl (by decide) rfl (fun ls hl => ?_)
    exact hb19 zF v1 u0 (0 : Int32) S _ _ _ hf hI (lv_sub hl [2, 3, 1, 0] rfl)
  unfold fX3_isLeast at hf
  refine lv_aload_n hx hb dX3_isLeast_0 rfl (lv_at hl 0 rfl) ?_
  refine va_get (D := D) (ci := 3) (v := .long (m_standing S)) (C := RX3) (T := TX3) (N := 27) hx hb hts hiX3 hown hK hI.1 0 rfl rfl 19 (by decide) (hts (.fieldLink RX3 172 "NoughtSumsModel" "standing" "J") (by decide +kernel)) (fun _ h9 => h9) rfl dX3_isLeast_1 ?_
  refine lv_iload_n hx hb dX3_isLeast_4 rfl (lv_at hl 1 rfl) ?_
  obtain ⟨r_5, hf_5, hf⟩ := zB1_s hf
  refine z_callS C 2 (kX3_has l zq D (m_standing S) a1 r_5 hf_5) gX3_isLeast_X3_has rfl (by decide +kernel) ⟨by decide, by decide⟩ hI rfl hl.1 rfl (Nat.le_of_ble_eq_true rfl) dX3_isLeast_5 ⟨by decide, by decide⟩ (st2 := [.int r_5]) rfl (fun H locs hI => ?_)
  refine lv_if_ne (tgt := 15) hx hb dX3_isLeast_8 (by decide) (fun c_8 => ?_) (fun c_8 => ?_)
  · replace hf := zIf c_8 hf
    refine lv_iconst (v := 0) hx hb dX3_isLeast_15 (by decide) ?_
    exact hb16 a1 (0 : Int32) S _ _ _ hf hI (lv_sub hl [0, 1] rfl)
  · replace hf := zIt c_8 hf
    refine lv_iconst (v := 1) hx hb dX3_isLeast_11 (by decide) ?_
    refine lv_goto (tgt := 16) hx hb dX3_isLeast_12 (by decide) ?_
    exact hb16 a1 (1 : Int32) S _ _ _ hf hI (lv_sub hl [0, 1] rfl)

def fX3_base_b54 (k9 : Int32 → Int32 → Int32 → MS → Option (Int64 × MS)) (v1 : Int32) (v2 : Int32) (v3 : Int32) (S : MS) : Option (Int64 × MS) :=
k9 v1 v2 (v3 + (1 : Int32)) S

def fX3_base_b9 (k9 : Int32 → Int32 → Int32 → MS → Option (Int64 × MS)) (v1 : Int32) (v2 : Int32) (v3 : Int32) (S : MS) : Option (Int64 × MS) :=
(if (64 : Int32) ≤ v3 then some ((0 : Int64), S) else
(zGI v3 64
((zB2 (fX3_isLeast ((m_order S) v3.toNatClampNeg) S) (fun r_26 S_26 =>
(if r_26 = 0 then fX3_base_b54 k9 v1 v2 v3 S_26 else
(if v2 = v1 then (zB2 (fX3_leftOf ((1 : Int64) <<< (((m_order S) v3.toNatClampNeg).toInt64 &&& 63)) S_26) (fun r_46 S_46 =>
some ((((1 : Int64) <<< (((m_order S) v3.toNatClampNeg).toInt64 &&& 63)) ^^^ r_46), S_46))) else
fX3_base_b54 k9 v1 (v2 + (1 : Int32)) v3 S_26)))))))
def fX3_base_b9L : Nat → Int32 → Int32 → Int32 → MS → Option (Int64 × MS)
  | 0, _, _, _, _ => none
  | n + 1, v1, v2, v3, S => fX3_base_b9 (fX3_base_b9L n) v1 v2 v3 S

def fX3_base (a1 : Int32) (S : MS) : Option (Int64 × MS) :=
(zL (m_thrown_u S (0 : Int32)) (fun S_2 =>
fX3_base_b9L zF a1 (0 : Int32) (0 : Int32) S_2))
set_option maxHeartbeats 4000000 in
set_option maxRecDepth 100000 in
theorem kX3_base (l : Launch) (zq : Nat → Nat) (D : va_G) (cy : Nat → ClassId) (ad : Nat → Nat) (a1 : Int32) (S S' : MS) (r : Int64) (hf : fX3_base a1 S = some (r, S')) : zMet l yX3_base wsX3_base 3 71 zq D (tM cy) (wM cy ad S) [.ref (ad 0), .int a1] (some (.long r)) (wM cy ad S') := by
  refine zMet.of cX3_base 5 (some .long) (by decide) rfl (Nat.le_of_ble_eq_true rfl) ?_
  intro p e s m args below meth c A ls C hl hI
  have hl : lv_has ls 5 [(0, .ref (ad 0)), (1, .int a1)] := hl
  have C : zC p s m args meth c cX3_base 5 (some .long) RX3 wsX3_base D (tM cy) zq A := C
  obtain ⟨hx, hb, hml, hown, hts, hret, hlk, hK, hX, hA⟩ := id C
  have hiX3 : ∀ w ∈ wsX30, w ∈ wsX3_base := by decide +kernel
  obtain ⟨Q, hQ⟩ : ∃ Q, Q = MQ below (zQ D (tM cy) (wM cy ad S') (some (.long r)) A) args s 0 0 A := ⟨_, rfl⟩
  rw [← hQ]
  have hb54 : ∀ (k9 : Int32 → Int32 → Int32 → MS → Option (Int64 × MS)) (hk9 : ∀ (v1 : Int32) (v2 : Int32) (v3 : Int32) (S : MS) (H : Heap) (locs : List Loc) (ls : Array Slot), k9 v1 v2 v3 S = some (r, S') → zI D A s H locs (wM cy ad S) → lv_has ls 5 [(0, .ref (ad 0)), (1, .int v1), (2, .int v2), (3, .int v3)] → W p l e { frames := 3, cells := 0, slots := 0, locals := 71 } s m args below meth c H locs 0 0 Q (F0 m 9 ls [])), ∀ (v1 : Int32) (v2 : Int32) (v3 : Int32) (S : MS) (H : Heap) (locs : List Loc) (ls : Array Slot), fX3_base_b54 k9 v1 v2 v3 S = some (r, S') → zI D A s H locs (wM cy ad S) → lv_has ls 5 [(0, .ref (ad 0)), (1, .int v1), (2, .int v2), (3, .int v3)] → W p l e { frames := 3, cells := 0, slots := 0, locals := 71 } s m args below meth c H locs 0 0 Q (F0 m 54 ls []) := by
    intro k9 hk9 v1 v2 v3 S H locs ls hf hI hl
    unfold fX3_base_b54 at hf
    refine lv_iinc (v := (v3 + (1 : Int32))) (lv' := [(3, .int (v3 + (1 : Int32))), (0, .ref (ad 0)), (1, .int v1), (2, .int v2)]) hx hb dX3_base_54 hl (k := 3) rfl rfl (by decide) rfl (fun ls hl => ?_)
    refine lv_goto (tgt := 9) hx hb dX3_base_57 (by decide) ?_
    exact hk9 v1 v2 (v3 + (1 : Int32)) S _ _ _ hf hI (lv_sub hl [1, 2, 3, 0] rfl)
  have hb9 : ∀ (n : Nat), ∀ (v1 : Int32) (v2 : Int32) (v3 : Int32) (S : MS) (H : Heap) (locs : List Loc) (ls : Array Slot), fX3_base_b9L n v1 v2 v3 S = some (r, S') → zI D A s H locs (wM cy ad S) → lv_has ls 5 [(0, .ref (ad 0)), (1, .int v1), (2, .int v2), (3, .int v3)] → W p l e { frames := 3, cells := 0, slots := 0, locals := 71 } s m args below meth c H locs 0 0 Q (F0 m 9 ls []) := by
    intro n
    induction n with
    | zero => intro v1 v2 v3 S H locs ls hf; cases (show (none : Option (Int64 × MS)) = some (r, S') from hf)
    | succ n ih =>
      intro v1 v2 v3 S H locs ls hf hI hl
      have hf : fX3_base_b9 (fX3_base_b9L n) v1 v2 v3 S = some (r, S') := hf
      unfold fX3_base_b9 at hf
      refine lv_iload_n hx hb dX3_base_9 rfl (lv_at hl 3 rfl) ?_
      refine lv_bipush (v := 64) hx hb dX3_base_10 (by decide) ?_
      refine lv_icmp_ge (tgt := 60) hx hb dX3_base_12 (by decide) (fun c_12 => ?_) (fun c_12 => ?_)
      · replace hf := zIt c_12 hf
        refine lv_lconst (v := 0) hx hb dX3_base_60 (by decide) ?_
        obtain ⟨h1, h2⟩ := zP2 hf
        rw [hQ]
        exact z_lret C (by rw [h2]; exact hI) (by rw [h1]) dX3_base_61
      · replace hf := zIf c_12 hf
        refine lv_aload_n hx hb dX3_base_15 rfl (lv_at hl 0 rfl) ?_
        refine va_get (D := D) (ci := 3) (v := .ref (ad 1)) (C := RX3) (T := TX3) (N := 27) hx hb hts hiX3 hown hK hI.1 0 rfl rfl 2 (by decide) (hts (.fieldLink RX3 7 "NoughtSumsModel" "order" "[I") (by decide +kernel)) (fun _ h9 => h9) rfl dX3_base_16 ?_
        refine lv_iload_n hx hb dX3_base_19 rfl (lv_at hl 3 rfl) ?_
        obtain ⟨g_20, hf⟩ := zGI_s hf
        refine va_iald (f := (m_order S)) hx hb hK hI.1 1 0 rfl rfl g_20 dX3_base_20 ?_
        refine lv_istore (lv' := [(4, .int ((m_order S) v3.toNatClampNeg)), (0, .ref (ad 0)), (1, .int v1), (2, .int v2), (3, .int v3)]) hx hb dX3_base_21 hl (by decide) rfl (fun ls hl => ?_)
        refine lv_aload_n hx hb dX3_base_23 rfl (lv_at hl 1 rfl) ?_
        refine lv_iload hx hb dX3_base_24 (lv_at hl 0 rfl) ?_
        obtain ⟨r_26, S_26, hf_26, hf⟩ := zB2_s hf
        refine z_callV (w2 := (wM cy ad S_26)) C 1 (kX3_isLeast l zq D cy ad ((m_order S) v3.toNatClampNeg) S S_26 r_26 hf_26) gX3_base_X3_isLeast rfl (by decide +kernel) ⟨by decide, by decide⟩ hI 0 rfl rfl rfl hl.1 rfl (Nat.le_of_ble_eq_true rfl) dX3_base_26 ⟨by decide, by decide⟩ (st2 := [.int r_26]) rfl (fun H locs hI => ?_)
        refine lv_if_eq (tgt := 54) hx hb dX3_base_29 (by decide) (fun c_29 => ?_) (fun c_29 => ?_)
        · replace hf := zIt c_29 hf
          exact hb54 (fX3_base_b9L n) ih v1 v2 v3 S_26 _ _ _ hf hI (lv_sub hl [1, 2, 3, 4] rfl)
        · replace hf := zIf c_29 hf
          refine lv_iload_n hx hb dX3_base_32 rfl (lv_at hl 3 rfl) ?_
          refine lv_iload_n hx hb dX3_base_33 rfl (lv_at hl 2 rfl) ?_
          refine lv_icmp_ne (tgt := 51) hx hb dX3_base_34 (by decide) (fun c_34 => ?_) (fun c_34 => ?_)
          · replace hf := zIf c_34 hf
            refine lv_iinc (v := (v2 + (1 : Int32))) (lv' := [(2, .int (v2 + (1 : Int32))), (4, .int ((m_order S) v3.toNatClampNeg)), (0, .ref (ad 0)), (1, .int v1), (3, .int v3)]) hx hb dX3_base_51 hl (k := 3) rfl rfl (by decide) rfl (fun ls hl => ?_)
            exact hb54 (fX3_base_b9L n) ih v1 (v2 + (1 : Int32)) v3 S_26 _ _ _ hf hI (lv_sub hl [2, 3, 0, 4] rfl)
          · replace hf := zIt c_34 hf
            refine lv_lconst (v := 1) hx hb dX3_base_37 (by decide) ?_
            refine lv_iload hx hb dX3_base_38 (lv_at hl 0 rfl) ?_
            refine lv_lshl hx hb dX3_base_40 rfl ?_
            refine lv_aload_n hx hb dX3_base_41 rfl (lv_at hl 1 rfl) ?_
            refine lv_lconst (v := 1) hx hb dX3_base_42 (by decide) ?_
            refine lv_iload hx hb dX3_base_43 (lv_at hl 0 rfl) ?_
            refine lv_lshl hx hb dX3_base_45 rfl ?_
            obtain ⟨r_46, S_46, hf_46, hf⟩ := zB2_s hf
            refine z_callV (w2 := (wM cy ad S_46)) C 1 (kX3_leftOf l zq D cy ad ((1 : Int64) <<< (((m_order S) v3.toNatClampNeg).toInt64 &&& 63)) S_26 S_46 r_46 hf_46) gX3_base_X3_leftOf rfl (by decide +kernel) ⟨by decide, by decide⟩ hI 0 rfl rfl rfl hl.1 rfl (Nat.le_of_ble_eq_true rfl) dX3_base_46 ⟨by decide, by decide⟩ (st2 := [.long r_46, .long ((1 : Int64) <<< (((m_order S) v3.toNatClampNeg).toInt64 &&& 63))]) rfl (fun H locs hI => ?_)
            refine lv_lxor hx hb dX3_base_49 ?_
            obtain ⟨h1, h2⟩ := zP2 hf
            rw [hQ]
            exact z_lret C (by rw [h2]; exact hI) (by rw [h1]) dX3_base_50
  unfold fX3_base at hf
  refine lv_aload_n hx hb dX3_base_0 rfl (lv_at hl 0 rfl) ?_
  refine lv_iconst (v := 0) hx hb dX3_base_1 (by decide) ?_
  obtain ⟨S_2, eS_2, hf⟩ := zL_e hf
  refine z_put (D := D) (ci := 3) (v := .int (0 : Int32)) (ty := .int) (C := RX3) (T := TX3) (N := 27) (w2 := (wM cy ad S_2)) hx hb hts hiX3 tyX3 tyX3_ok nmX3 hown hK hI 0 rfl rfl 0 (by decide) (hts (.fieldLink RX3 56 "NoughtSumsModel" "thrown" "I") (by decide +kernel)) (fun _ h9 => h9) rfl (by decide +kernel) rfl rfl (Nat.le_of_ble_eq_true rfl) dX3_base_2 (by rw [eS_2]; rfl) (fun H locs hI => ?_)
  refine lv_iconst (v := 0) hx hb dX3_base_5 (by decide) ?_
  refine lv_istore_n (lv' := [(2, .int (0 : Int32)), (0, .ref (ad 0)), (1, .int a1)]) hx hb dX3_base_6 rfl hl (by decide) rfl (fun ls hl => ?_)
  refine lv_iconst (v := 0) hx hb dX3_base_7 (by decide) ?_
  refine lv_istore_n (lv' := [(3, .int (0 : Int32)), (2, .int (0 : Int32)), (0, .ref (ad 0)), (1, .int a1)]) hx hb dX3_base_8 rfl hl (by decide) rfl (fun ls hl => ?_)
  exact hb9 zF a1 (0 : Int32) (0 : Int32) S_2 _ _ _ hf hI (lv_sub hl [2, 3, 1, 0] rfl)

def fX3_reduced_b51 (k6 : Int64 → Int32 → MS → Option (Int64 × MS)) (v5 : Int32) (u0 : Int64) (u1 : Int64) (S : MS) : Option (Int64 × MS) :=
k6 (u1 ^^^ u0) (v5 + (-1 : Int32)) S

def fX3_reduced_b50 (k6 : Int64 → Int32 → MS → Option (Int64 × MS)) (v5 : Int32) (u0 : Int64) (S : MS) : Option (Int64 × MS) :=
fX3_reduced_b51 k6 v5 (0 : Int64) u0 S

def fX3_reduced_b6 (k6 : Int64 → Int32 → MS → Option (Int64 × MS)) (v3 : Int64) (v5 : Int32) (S : MS) : Option (Int64 × MS) :=
(if v5 < 0 then some (v3, S) else
(zGI v5 64
((zB1 (fX3_has v3 ((m_order S) v5.toNatClampNeg)) (fun r_24 =>
(if r_24 = 0 then fX3_reduced_b50 k6 v5 v3 S else
(zGI ((m_order S) v5.toNatClampNeg) 64
((if ((m_isLed S) ((m_order S) v5.toNatClampNeg).toNatClampNeg) = 0 then fX3_reduced_b50 k6 v5 v3 S else
(zGI ((m_order S) v5.toNatClampNeg) 64
(fX3_reduced_b51 k6 v5 ((m_led S) ((m_order S) v5.toNatClampNeg).toNatClampNeg) v3 S)))))))))))
def fX3_reduced_b6L : Nat → Int64 → Int32 → MS → Option (Int64 × MS)
  | 0, _, _, _ => none
  | n + 1, v3, v5, S => fX3_reduced_b6 (fX3_reduced_b6L n) v3 v5 S

def fX3_reduced (a1 : Int64) (S : MS) : Option (Int64 × MS) :=
fX3_reduced_b6L zF a1 (63 : Int32) S
set_option maxHeartbeats 4000000 in
set_option maxRecDepth 100000 in
theorem kX3_reduced (l : Launch) (zq : Nat → Nat) (D : va_G) (cy : Nat → ClassId) (ad : Nat → Nat) (a1 : Int64) (S S' : MS) (r : Int64) (hf : fX3_reduced a1 S = some (r, S')) : zMet l yX3_reduced wsX3_reduced 1 22 zq D (tM cy) (wM cy ad S) [.ref (ad 0), .long a1] (some (.long r)) (wM cy ad S') := by
  refine zMet.of cX3_reduced 7 (some .long) (by decide) rfl (Nat.le_of_ble_eq_true rfl) ?_
  intro p e s m args below meth c A ls C hl hI
  have hl : lv_has ls 7 [(0, .ref (ad 0)), (1, .long a1)] := hl
  have C : zC p s m args meth c cX3_reduced 7 (some .long) RX3 wsX3_reduced D (tM cy) zq A := C
  obtain ⟨hx, hb, hml, hown, hts, hret, hlk, hK, hX, hA⟩ := id C
  have hiX3 : ∀ w ∈ wsX30, w ∈ wsX3_reduced := by decide +kernel
  obtain ⟨Q, hQ⟩ : ∃ Q, Q = MQ below (zQ D (tM cy) (wM cy ad S') (some (.long r)) A) args s 0 0 A := ⟨_, rfl⟩
  rw [← hQ]
  have hb51 : ∀ (k6 : Int64 → Int32 → MS → Option (Int64 × MS)) (hk6 : ∀ (v3 : Int64) (v5 : Int32) (S : MS) (H : Heap) (locs : List Loc) (ls : Array Slot), k6 v3 v5 S = some (r, S') → zI D A s H locs (wM cy ad S) → lv_has ls 7 [(0, .ref (ad 0)), (3, .long v3), (5, .int v5)] → W p l e { frames := 1, cells := 0, slots := 0, locals := 22 } s m args below meth c H locs 0 0 Q (F0 m 6 ls [])), ∀ (v5 : Int32) (u0 : Int64) (u1 : Int64) (S : MS) (H : Heap) (locs : List Loc) (ls : Array Slot), fX3_reduced_b51 k6 v5 u0 u1 S = some (r, S') → zI D A s H locs (wM cy ad S) → lv_has ls 7 [(0, .ref (ad 0)), (5, .int v5)] → W p l e { frames := 1, cells := 0, slots := 0, locals := 22 } s m args below meth c H locs 0 0 Q (F0 m 51 ls [.long u0, .long u1]) := by
    intro k6 hk6 v5 u0 u1 S H locs ls hf hI hl
    unfold fX3_reduced_b51 at hf
    refine lv_lxor hx hb dX3_reduced_51 ?_
    refine lv_lstore_n (lv' := [(3, .long (u1 ^^^ u0)), (0, .ref (ad 0)), (5, .int v5)]) hx hb dX3_reduced_52 rfl hl (by decide) rfl (fun ls hl => ?_)
    refine lv_iinc (v := (v5 + (-1 : Int32))) (lv' := [(5, .int (v5 + (-1 : Int32))), (3, .long (u1 ^^^ u0)), (0, .ref (ad 0))]) hx hb dX3_reduced_53 hl (k := 2) rfl rfl (by decide) rfl (fun ls hl => ?_)
    refine lv_goto (tgt := 6) hx hb dX3_reduced_56 (by decide) ?_
    exact hk6 (u1 ^^^ u0) (v5 + (-1 : Int32)) S _ _ _ hf hI (lv_sub hl [2, 1, 0] rfl)
  have hb50 : ∀ (k6 : Int64 → Int32 → MS → Option (Int64 × MS)) (hk6 : ∀ (v3 : Int64) (v5 : Int32) (S : MS) (H : Heap) (locs : List Loc) (ls : Array Slot), k6 v3 v5 S = some (r, S') → zI D A s H locs (wM cy ad S) → lv_has ls 7 [(0, .ref (ad 0)), (3, .long v3), (5, .int v5)] → W p l e { frames := 1, cells := 0, slots := 0, locals := 22 } s m args below meth c H locs 0 0 Q (F0 m 6 ls [])), ∀ (v5 : Int32) (u0 : Int64) (S : MS) (H : Heap) (locs : List Loc) (ls : Array Slot), fX3_reduced_b50 k6 v5 u0 S = some (r, S') → zI D A s H locs (wM cy ad S) → lv_has ls 7 [(0, .ref (ad 0)), (5, .int v5)] → W p l e { frames := 1, cells := 0, slots := 0, locals := 22 } s m args below meth c H locs 0 0 Q (F0 m 50 ls [.long u0]) := by
    intro k6 hk6 v5 u0 S H locs ls hf hI hl
    unfold fX3_reduced_b50 at hf
    refine lv_lconst (v := 0) hx hb dX3_reduced_50 (by decide) ?_
    exact hb51 k6 hk6 v5 (0 : Int64) u0 S _ _ _ hf hI (lv_sub hl [0, 1] rfl)
  have hb6 : ∀ (n : Nat), ∀ (v3 : Int64) (v5 : Int32) (S : MS) (H : Heap) (locs : List Loc) (ls : Array Slot), fX3_reduced_b6L n v3 v5 S = some (r, S') → zI D A s H locs (wM cy ad S) → lv_has ls 7 [(0, .ref (ad 0)), (3, .long v3), (5, .int v5)] → W p l e { frames := 1, cells := 0, slots := 0, locals := 22 } s m args below meth c H locs 0 0 Q (F0 m 6 ls []) := by
    intro n
    induction n with
    | zero => intro v3 v5 S H locs ls hf; cases (show (none : Option (Int64 × MS)) = some (r, S') from hf)
    | succ n ih =>
      intro v3 v5 S H locs ls hf hI hl
      have hf : fX3_reduced_b6 (fX3_reduced_b6L n) v3 v5 S = some (r, S') := hf
      unfold fX3_reduced_b6 at hf
      refine lv_iload hx hb dX3_reduced_6 (lv_at hl 2 rfl) ?_
      refine lv_if_lt (tgt := 59) hx hb dX3_reduced_8 (by decide) (fun c_8 => ?_) (fun c_8 => ?_)
      · replace hf := zIt c_8 hf
        refine lv_lload_n hx hb dX3_reduced_59 rfl (lv_at hl 1 rfl) ?_
        obtain ⟨h1, h2⟩ := zP2 hf
        rw [hQ]
        exact z_lret C (by rw [h2]; exact hI) (by rw [h1]) dX3_reduced_60
      · replace hf := zIf c_8 hf
        refine lv_aload_n hx hb dX3_reduced_11 rfl (lv_at hl 0 rfl) ?_
        refine va_get (D := D) (ci := 3) (v := .ref (ad 1)) (C := RX3) (T := TX3) (N := 27) hx hb hts hiX3 hown hK hI.1 0 rfl rfl 2 (by decide) (hts (.fieldLink RX3 7 "NoughtSumsModel" "order" "[I") (by decide +kernel)) (fun _ h9 => h9) rfl dX3_reduced_12 ?_
        refine lv_iload hx hb dX3_reduced_15 (lv_at hl 2 rfl) ?_
        obtain ⟨g_17, hf⟩ := zGI_s hf
        refine va_iald (f := (m_order S)) hx hb hK hI.1 1 0 rfl rfl g_17 dX3_reduced_17 ?_
        refine lv_istore (lv' := [(6, .int ((m_order S) v5.toNatClampNeg)), (0, .ref (ad 0)), (3, .long v3), (5, .int v5)]) hx hb dX3_reduced_18 hl (by decide) rfl (fun ls hl => ?_)
        refine lv_lload_n hx hb dX3_reduced_20 rfl (lv_at hl 2 rfl) ?_
        refine lv_lload_n hx hb dX3_reduced_21 rfl (lv_at hl 2 rfl) ?_
        refine lv_iload hx hb dX3_reduced_22 (lv_at hl 0 rfl) ?_
        obtain ⟨r_24, hf_24, hf⟩ := zB1_s hf
        refine z_callS C 2 (kX3_has l zq D v3 ((m_order S) v5.toNatClampNeg) r_24 hf_24) gX3_reduced_X3_has rfl (by decide +kernel) ⟨by decide, by decide⟩ hI rfl hl.1 rfl (Nat.le_of_ble_eq_true rfl) dX3_reduced_24 ⟨by decide, by decide⟩ (st2 := [.int r_24, .long v3]) rfl (fun H locs hI => ?_)
        refine lv_if_eq (tgt := 50) hx hb dX3_reduced_27 (by decide) (fun c_27 => ?_) (fun c_27 => ?_)
        · replace hf := zIt c_27 hf
          exact hb50 (fX3_reduced_b6L n) ih v5 v3 S _ _ _ hf hI (lv_sub hl [1, 3] rfl)
        · replace hf := zIf c_27 hf
          refine lv_aload_n hx hb dX3_reduced_30 rfl (lv_at hl 1 rfl) ?_
          refine va_get (D := D) (ci := 3) (v := .ref (ad 10)) (C := RX3) (T := TX3) (N := 27) hx hb hts hiX3 hown hK hI.1 0 rfl rfl 25 (by decide) (hts (.fieldLink RX3 42 "NoughtSumsModel" "isLed" "[Z") (by decide +kernel)) (fun _ h9 => h9) rfl dX3_reduced_31 ?_
          refine lv_iload hx hb dX3_reduced_34 (lv_at hl 0 rfl) ?_
          obtain ⟨g_36, hf⟩ := zGI_s hf
          refine va_zald (f := (m_isLed S)) hx hb hK hI.1 10 9 rfl rfl g_36 dX3_reduced_36 ?_
          refine lv_if_eq (tgt := 50) hx hb dX3_reduced_37 (by decide) (fun c_37 => ?_) (fun c_37 => ?_)
          · replace hf := zIt c_37 hf
            exact hb50 (fX3_reduced_b6L n) ih v5 v3 S _ _ _ hf hI (lv_sub hl [1, 3] rfl)
          · replace hf := zIf c_37 hf
            refine lv_aload_n hx hb dX3_reduced_40 rfl (lv_at hl 1 rfl) ?_
            refine va_get (D := D) (ci := 3) (v := .ref (ad 9)) (C := RX3) (T := TX3) (N := 27) hx hb hts hiX3 hown hK hI.1 0 rfl rfl 24 (by decide) (hts (.fieldLink RX3 39 "NoughtSumsModel" "led" "[J") (by decide +kernel)) (fun _ h9 => h9) rfl dX3_reduced_41 ?_
            refine lv_iload hx hb dX3_reduced_44 (lv_at hl 0 rfl) ?_
            obtain ⟨g_46, hf⟩ := zGI_s hf
            refine va_lald (f := (m_led S)) hx hb hK hI.1 9 8 rfl rfl g_46 dX3_reduced_46 ?_
            refine lv_goto (tgt := 51) hx hb dX3_reduced_47 (by decide) ?_
            exact hb51 (fX3_reduced_b6L n) ih v5 ((m_led S) ((m_order S) v5.toNatClampNeg).toNatClampNeg) v3 S _ _ _ hf hI (lv_sub hl [1, 3] rfl)
  unfold fX3_reduced at hf
  refine lv_lload_n hx hb dX3_reduced_0 rfl (lv_at hl 1 rfl) ?_
  refine lv_lstore_n (lv' := [(3, .long a1), (0, .ref (ad 0)), (1, .long a1)]) hx hb dX3_reduced_1 rfl hl (by decide) rfl (fun ls hl => ?_)
  refine lv_bipush (v := 63) hx hb dX3_reduced_2 (by decide) ?_
  refine lv_istore (lv' := [(5, .int (63 : Int32)), (3, .long a1), (0, .ref (ad 0)), (1, .long a1)]) hx hb dX3_reduced_4 hl (by decide) rfl (fun ls hl => ?_)
  exact hb6 zF a1 (63 : Int32) S _ _ _ hf hI (lv_sub hl [2, 1, 0] rfl)

def fX3_joins (a1 : Int64) (S : MS) : Option (Int32 × MS) :=
(zB2 (fX3_reduced a1 S) (fun r_2 S_2 =>
(if (lg_cmp r_2 (0 : Int64)) = 0 then some ((0 : Int32), S_2) else
(zB2 (fX3_leadOf r_2 S_2) (fun r_16 S_16 =>
(zGI r_16 64
(zL (m_led_u S_16 (vp_updL (m_led S_16) r_16.toNatClampNeg r_2)) (fun S_28 =>
(zGI r_16 64
(zL (m_isLed_u S_28 (upd (m_isLed S_28) r_16.toNatClampNeg (vp_nar .boolean (1 : Int32)))) (fun S_36 =>
some ((1 : Int32), S_36))))))))))))
set_option maxHeartbeats 4000000 in
set_option maxRecDepth 100000 in
theorem kX3_joins (l : Launch) (zq : Nat → Nat) (D : va_G) (cy : Nat → ClassId) (ad : Nat → Nat) (a1 : Int64) (S S' : MS) (r : Int32) (hf : fX3_joins a1 S = some (r, S')) : zMet l yX3_joins wsX3_joins 2 48 zq D (tM cy) (wM cy ad S) [.ref (ad 0), .long a1] (some (.int r)) (wM cy ad S') := by
  refine zMet.of cX3_joins 6 (some .boolean) (by decide) rfl (Nat.le_of_ble_eq_true rfl) ?_
  intro p e s m args below meth c A ls C hl hI
  have hl : lv_has ls 6 [(0, .ref (ad 0)), (1, .long a1)] := hl
  have C : zC p s m args meth c cX3_joins 6 (some .boolean) RX3 wsX3_joins D (tM cy) zq A := C
  obtain ⟨hx, hb, hml, hown, hts, hret, hlk, hK, hX, hA⟩ := id C
  have hiX3 : ∀ w ∈ wsX30, w ∈ wsX3_joins := by decide +kernel
  obtain ⟨Q, hQ⟩ : ∃ Q, Q = MQ below (zQ D (tM cy) (wM cy ad S') (some (.int r)) A) args s 0 0 A := ⟨_, rfl⟩
  rw [← hQ]
  unfold fX3_joins at hf
  refine lv_aload_n hx hb dX3_joins_0 rfl (lv_at hl 0 rfl) ?_
  refine lv_lload_n hx hb dX3_joins_1 rfl (lv_at hl 1 rfl) ?_
  obtain ⟨r_2, S_2, hf_2, hf⟩ := zB2_s hf
  refine z_callV (w2 := (wM cy ad S_2)) C 1 (kX3_reduced l zq D cy ad a1 S S_2 r_2 hf_2) gX3_joins_X3_reduced rfl (by decide +kernel) ⟨by decide, by decide⟩ hI 0 rfl rfl rfl hl.1 rfl (Nat.le_of_ble_eq_true rfl) dX3_joins_2 ⟨by decide, by decide⟩ (st2 := [.long r_2]) rfl (fun H locs hI => ?_)
  refine lv_lstore_n (lv' := [(3, .long r_2), (0, .ref (ad 0)), (1, .long a1)]) hx hb dX3_joins_5 rfl hl (by decide) rfl (fun ls hl => ?_)
  refine lv_lload_n hx hb dX3_joins_6 rfl (lv_at hl 0 rfl) ?_
  refine lv_lconst (v := 0) hx hb dX3_joins_7 (by decide) ?_
  refine W.lcmp hx hb dX3_joins_8 ?_
  refine lv_if_ne (tgt := 14) hx hb dX3_joins_9 (by decide) (fun c_9 => ?_) (fun c_9 => ?_)
  · replace hf := zIf c_9 hf
    refine lv_aload_n hx hb dX3_joins_14 rfl (lv_at hl 1 rfl) ?_
    refine lv_lload_n hx hb dX3_joins_15 rfl (lv_at hl 0 rfl) ?_
    obtain ⟨r_16, S_16, hf_16, hf⟩ := zB2_s hf
    refine z_callV (w2 := (wM cy ad S_16)) C 1 (kX3_leadOf l zq D cy ad r_2 S_2 S_16 r_16 hf_16) gX3_joins_X3_leadOf rfl (by decide +kernel) ⟨by decide, by decide⟩ hI 0 rfl rfl rfl hl.1 rfl (Nat.le_of_ble_eq_true rfl) dX3_joins_16 ⟨by decide, by decide⟩ (st2 := [.int r_16]) rfl (fun H locs hI => ?_)
    refine lv_istore (lv' := [(5, .int r_16), (3, .long r_2), (0, .ref (ad 0)), (1, .long a1)]) hx hb dX3_joins_19 hl (by decide) rfl (fun ls hl => ?_)
    refine lv_aload_n hx hb dX3_joins_21 rfl (lv_at hl 2 rfl) ?_
    refine va_get (D := D) (ci := 3) (v := .ref (ad 9)) (C := RX3) (T := TX3) (N := 27) hx hb hts hiX3 hown hK hI.1 0 rfl rfl 24 (by decide) (hts (.fieldLink RX3 39 "NoughtSumsModel" "led" "[J") (by decide +kernel)) (fun _ h9 => h9) rfl dX3_joins_22 ?_
    refine lv_iload hx hb dX3_joins_25 (lv_at hl 0 rfl) ?_
    refine lv_lload_n hx hb dX3_joins_27 rfl (lv_at hl 1 rfl) ?_
    obtain ⟨g_28, hf⟩ := zGI_s hf
    obtain ⟨S_28, eS_28, hf⟩ := zL_e hf
    refine z_last (f := (m_led S_16)) (w2 := (wM cy ad S_28)) hx hb hK hI 9 8 rfl rfl g_28 dX3_joins_28 (by rw [eS_28]; rfl) (fun H locs hI => ?_)
    refine lv_aload_n hx hb dX3_joins_29 rfl (lv_at hl 2 rfl) ?_
    refine va_get (D := D) (ci := 3) (v := .ref (ad 10)) (C := RX3) (T := TX3) (N := 27) hx hb hts hiX3 hown hK hI.1 0 rfl rfl 25 (by decide) (hts (.fieldLink RX3 42 "NoughtSumsModel" "isLed" "[Z") (by decide +kernel)) (fun _ h9 => h9) rfl dX3_joins_30 ?_
    refine lv_iload hx hb dX3_joins_33 (lv_at hl 0 rfl) ?_
    refine lv_iconst (v := 1) hx hb dX3_joins_35 (by decide) ?_
    obtain ⟨g_36, hf⟩ := zGI_s hf
    obtain ⟨S_36, eS_36, hf⟩ := zL_e hf
    refine z_zast (f := (m_isLed S_28)) (w2 := (wM cy ad S_36)) hx hb hK hI 10 9 rfl rfl g_36 dX3_joins_36 (by rw [eS_36]; rfl) (fun H locs hI => ?_)
    refine lv_iconst (v := 1) hx hb dX3_joins_37 (by decide) ?_
    obtain ⟨h1, h2⟩ := zP2 hf
    rw [hQ]
    exact z_zret C (by rw [h2]; exact hI) (by rw [h1]) rfl dX3_joins_38
  · replace hf := zIt c_9 hf
    refine lv_iconst (v := 0) hx hb dX3_joins_12 (by decide) ?_
    obtain ⟨h1, h2⟩ := zP2 hf
    rw [hQ]
    exact z_zret C (by rw [h2]; exact hI) (by rw [h1]) rfl dX3_joins_13

def fX3_forgets_b2 (k2 : Int32 → MS → Option MS) (v1 : Int32) (S : MS) : Option MS :=
(if (64 : Int32) ≤ v1 then some S else
(zGI v1 64
(zL (m_isLed_u S (upd (m_isLed S) v1.toNatClampNeg (vp_nar .boolean (0 : Int32)))) (fun S_14 =>
(zGI v1 64
(zL (m_isDone_u S_14 (upd (m_isDone S_14) v1.toNatClampNeg (vp_nar .boolean (0 : Int32)))) (fun S_21 =>
k2 (v1 + (1 : Int32)) S_21)))))))
def fX3_forgets_b2L : Nat → Int32 → MS → Option MS
  | 0, _, _ => none
  | n + 1, v1, S => fX3_forgets_b2 (fX3_forgets_b2L n) v1 S

def fX3_forgets  (S : MS) : Option MS :=
fX3_forgets_b2L zF (0 : Int32) S
set_option maxHeartbeats 4000000 in
set_option maxRecDepth 100000 in
theorem kX3_forgets (l : Launch) (zq : Nat → Nat) (D : va_G) (cy : Nat → ClassId) (ad : Nat → Nat)  (S S' : MS) (hf : fX3_forgets S = some S') : zMet l yX3_forgets wsX3_forgets 0 0 zq D (tM cy) (wM cy ad S) [.ref (ad 0)] none (wM cy ad S') := by
  refine zMet.of cX3_forgets 2 none (by decide) rfl (Nat.le_of_ble_eq_true rfl) ?_
  intro p e s m args below meth c A ls C hl hI
  have hl : lv_has ls 2 [(0, .ref (ad 0))] := hl
  have C : zC p s m args meth c cX3_forgets 2 none RX3 wsX3_forgets D (tM cy) zq A := C
  obtain ⟨hx, hb, hml, hown, hts, hret, hlk, hK, hX, hA⟩ := id C
  have hiX3 : ∀ w ∈ wsX30, w ∈ wsX3_forgets := by decide +kernel
  obtain ⟨Q, hQ⟩ : ∃ Q, Q = MQ below (zQ D (tM cy) (wM cy ad S') none A) args s 0 0 A := ⟨_, rfl⟩
  rw [← hQ]
  have hb2 : ∀ (n : Nat), ∀ (v1 : Int32) (S : MS) (H : Heap) (locs : List Loc) (ls : Array Slot), fX3_forgets_b2L n v1 S = some S' → zI D A s H locs (wM cy ad S) → lv_has ls 2 [(0, .ref (ad 0)), (1, .int v1)] → W p l e { frames := 0, cells := 0, slots := 0, locals := 0 } s m args below meth c H locs 0 0 Q (F0 m 2 ls []) := by
    intro n
    induction n with
    | zero => intro v1 S H locs ls hf; cases (show (none : Option MS) = some S' from hf)
    | succ n ih =>
      intro v1 S H locs ls hf hI hl
      have hf : fX3_forgets_b2 (fX3_forgets_b2L n) v1 S = some S' := hf
      unfold fX3_forgets_b2 at hf
      refine lv_iload_n hx hb dX3_forgets_2 rfl (lv_at hl 1 rfl) ?_
      refine lv_bipush (v := 64) hx hb dX3_forgets_3 (by decide) ?_
      refine lv_icmp_ge (tgt := 28) hx hb dX3_forgets_5 (by decide) (fun c_5 => ?_) (fun c_5 => ?_)
      · replace hf := zIt c_5 hf
        have h2 := zP1 hf
        rw [hQ]
        exact z_vret C (by rw [h2]; exact hI) rfl dX3_forgets_28
      · replace hf := zIf c_5 hf
        refine lv_aload_n hx hb dX3_forgets_8 rfl (lv_at hl 0 rfl) ?_
        refine va_get (D := D) (ci := 3) (v := .ref (ad 10)) (C := RX3) (T := TX3) (N := 27) hx hb hts hiX3 hown hK hI.1 0 rfl rfl 25 (by decide) (hts (.fieldLink RX3 42 "NoughtSumsModel" "isLed" "[Z") (by decide +kernel)) (fun _ h9 => h9) rfl dX3_forgets_9 ?_
        refine lv_iload_n hx hb dX3_forgets_12 rfl (lv_at hl 1 rfl) ?_
        refine lv_iconst (v := 0) hx hb dX3_forgets_13 (by decide) ?_
        obtain ⟨g_14, hf⟩ := zGI_s hf
        obtain ⟨S_14, eS_14, hf⟩ := zL_e hf
        refine z_zast (f := (m_isLed S)) (w2 := (wM cy ad S_14)) hx hb hK hI 10 9 rfl rfl g_14 dX3_forgets_14 (by rw [eS_14]; rfl) (fun H locs hI => ?_)
        refine lv_aload_n hx hb dX3_forgets_15 rfl (lv_at hl 0 rfl) ?_
        refine va_get (D := D) (ci := 3) (v := .ref (ad 11)) (C := RX3) (T := TX3) (N := 27) hx hb hts hiX3 hown hK hI.1 0 rfl rfl 26 (by decide) (hts (.fieldLink RX3 46 "NoughtSumsModel" "isDone" "[Z") (by decide +kernel)) (fun _ h9 => h9) rfl dX3_forgets_16 ?_
        refine lv_iload_n hx hb dX3_forgets_19 rfl (lv_at hl 1 rfl) ?_
        refine lv_iconst (v := 0) hx hb dX3_forgets_20 (by decide) ?_
        obtain ⟨g_21, hf⟩ := zGI_s hf
        obtain ⟨S_21, eS_21, hf⟩ := zL_e hf
        refine z_zast (f := (m_isDone S_14)) (w2 := (wM cy ad S_21)) hx hb hK hI 11 10 rfl rfl g_21 dX3_forgets_21 (by rw [eS_21]; rfl) (fun H locs hI => ?_)
        refine lv_iinc (v := (v1 + (1 : Int32))) (lv' := [(1, .int (v1 + (1 : Int32))), (0, .ref (ad 0))]) hx hb dX3_forgets_22 hl (k := 1) rfl rfl (by decide) rfl (fun ls hl => ?_)
        refine lv_goto (tgt := 2) hx hb dX3_forgets_25 (by decide) ?_
        exact ih (v1 + (1 : Int32)) S_21 _ _ _ hf hI (lv_sub hl [1, 0] rfl)
  unfold fX3_forgets at hf
  refine lv_iconst (v := 0) hx hb dX3_forgets_0 (by decide) ?_
  refine lv_istore_n (lv' := [(1, .int (0 : Int32)), (0, .ref (ad 0))]) hx hb dX3_forgets_1 rfl hl (by decide) rfl (fun ls hl => ?_)
  exact hb2 zF (0 : Int32) S _ _ _ hf hI (lv_sub hl [1, 0] rfl)

def fX3_atOnce_b89 (k6 : Int64 → Int32 → MS → Option (Int32 × MS)) (k15 : Int64 → Int32 → Int32 → MS → Option (Int32 × MS)) (v1 : Int64) (v3 : Int32) (v4 : Int32) (S : MS) : Option (Int32 × MS) :=
k15 v1 v3 (v4 + (1 : Int32)) S

def fX3_atOnce_b83 (k6 : Int64 → Int32 → MS → Option (Int32 × MS)) (k15 : Int64 → Int32 → Int32 → MS → Option (Int32 × MS)) (k40 : Int64 → Int32 → Int32 → Int32 → Int32 → MS → Option (Int32 × MS)) (v1 : Int64) (v3 : Int32) (v4 : Int32) (v5 : Int32) (v6 : Int32) (S : MS) : Option (Int32 × MS) :=
k40 v1 v3 v4 v5 (v6 + (1 : Int32)) S

def fX3_atOnce_b40 (k6 : Int64 → Int32 → MS → Option (Int32 × MS)) (k15 : Int64 → Int32 → Int32 → MS → Option (Int32 × MS)) (k40 : Int64 → Int32 → Int32 → Int32 → Int32 → MS → Option (Int32 × MS)) (v1 : Int64) (v3 : Int32) (v4 : Int32) (v5 : Int32) (v6 : Int32) (S : MS) : Option (Int32 × MS) :=
(if (64 : Int32) ≤ v6 then fX3_atOnce_b89 k6 k15 v1 v3 v4 S else
(if v5 = (-9 : Int32) then fX3_atOnce_b89 k6 k15 v1 v3 v4 S else
(zB1 (fX3_letters v6) (fun r_56 =>
(if (r_56 + v5) = v3 then (zGI v4 32
((zB1 (fX3_raised ((m_line S) v4.toNatClampNeg) v6) (fun r_76 =>
(zB2 (fX3_joins r_76 S) (fun r_79 S_79 =>
fX3_atOnce_b83 k6 k15 k40 v1 v3 v4 v5 v6 S_79)))))) else
fX3_atOnce_b83 k6 k15 k40 v1 v3 v4 v5 v6 S)))))
def fX3_atOnce_b40L (k6 : Int64 → Int32 → MS → Option (Int32 × MS)) (k15 : Int64 → Int32 → Int32 → MS → Option (Int32 × MS)) : Nat → Int64 → Int32 → Int32 → Int32 → Int32 → MS → Option (Int32 × MS)
  | 0, _, _, _, _, _, _ => none
  | n + 1, v1, v3, v4, v5, v6, S => fX3_atOnce_b40 k6 k15 (fX3_atOnce_b40L k6 k15 n) v1 v3 v4 v5 v6 S

def fX3_atOnce_b15 (k6 : Int64 → Int32 → MS → Option (Int32 × MS)) (k15 : Int64 → Int32 → Int32 → MS → Option (Int32 × MS)) (v1 : Int64) (v3 : Int32) (v4 : Int32) (S : MS) : Option (Int32 × MS) :=
(if (m_given S) ≤ v4 then (zB2 (fX3_reduced v1 S) (fun r_97 S_97 =>
(if (lg_cmp r_97 (0 : Int64)) = 0 then some (v3, S_97) else
k6 v1 (v3 + (1 : Int32)) S_97))) else
(zGI v4 32
((zB2 (fX3_degreeOf ((m_line S) v4.toNatClampNeg) S) (fun r_32 S_32 =>
fX3_atOnce_b40L k6 k15 zF v1 v3 v4 r_32 (0 : Int32) S_32)))))
def fX3_atOnce_b15L (k6 : Int64 → Int32 → MS → Option (Int32 × MS)) : Nat → Int64 → Int32 → Int32 → MS → Option (Int32 × MS)
  | 0, _, _, _, _ => none
  | n + 1, v1, v3, v4, S => fX3_atOnce_b15 k6 (fX3_atOnce_b15L k6 n) v1 v3 v4 S

def fX3_atOnce_b6 (k6 : Int64 → Int32 → MS → Option (Int32 × MS)) (v1 : Int64) (v3 : Int32) (S : MS) : Option (Int32 × MS) :=
(if (13 : Int32) ≤ v3 then some ((-9 : Int32), S) else
fX3_atOnce_b15L k6 zF v1 v3 (0 : Int32) S)
def fX3_atOnce_b6L : Nat → Int64 → Int32 → MS → Option (Int32 × MS)
  | 0, _, _, _ => none
  | n + 1, v1, v3, S => fX3_atOnce_b6 (fX3_atOnce_b6L n) v1 v3 S

def fX3_atOnce (a1 : Int64) (S : MS) : Option (Int32 × MS) :=
(zB1 (fX3_forgets S) (fun S_1 =>
fX3_atOnce_b6L zF a1 (0 : Int32) S_1))
set_option maxHeartbeats 4000000 in
set_option maxRecDepth 100000 in
theorem kX3_atOnce (l : Launch) (zq : Nat → Nat) (D : va_G) (cy : Nat → ClassId) (ad : Nat → Nat) (a1 : Int64) (S S' : MS) (r : Int32) (hf : fX3_atOnce a1 S = some (r, S')) : zMet l yX3_atOnce wsX3_atOnce 3 73 zq D (tM cy) (wM cy ad S) [.ref (ad 0), .long a1] (some (.int r)) (wM cy ad S') := by
  refine zMet.of cX3_atOnce 7 (some .int) (by decide) rfl (Nat.le_of_ble_eq_true rfl) ?_
  intro p e s m args below meth c A ls C hl hI
  have hl : lv_has ls 7 [(0, .ref (ad 0)), (1, .long a1)] := hl
  have C : zC p s m args meth c cX3_atOnce 7 (some .int) RX3 wsX3_atOnce D (tM cy) zq A := C
  obtain ⟨hx, hb, hml, hown, hts, hret, hlk, hK, hX, hA⟩ := id C
  have hiX3 : ∀ w ∈ wsX30, w ∈ wsX3_atOnce := by decide +kernel
  obtain ⟨Q, hQ⟩ : ∃ Q, Q = MQ below (zQ D (tM cy) (wM cy ad S') (some (.int r)) A) args s 0 0 A := ⟨_, rfl⟩
  rw [← hQ]
  have hb89 : ∀ (k6 : Int64 → Int32 → MS → Option (Int32 × MS)) (hk6 : ∀ (v1 : Int64) (v3 : Int32) (S : MS) (H : Heap) (locs : List Loc) (ls : Array Slot), k6 v1 v3 S = some (r, S') → zI D A s H locs (wM cy ad S) → lv_has ls 7 [(0, .ref (ad 0)), (1, .long v1), (3, .int v3)] → W p l e { frames := 3, cells := 0, slots := 0, locals := 73 } s m args below meth c H locs 0 0 Q (F0 m 6 ls [])) (k15 : Int64 → Int32 → Int32 → MS → Option (Int32 × MS)) (hk15 : ∀ (v1 : Int64) (v3 : Int32) (v4 : Int32) (S : MS) (H : Heap) (locs : List Loc) (ls : Array Slot), k15 v1 v3 v4 S = some (r, S') → zI D A s H locs (wM cy ad S) → lv_has ls 7 [(0, .ref (ad 0)), (1, .long v1), (3, .int v3), (4, .int v4)] → W p l e { frames := 3, cells := 0, slots := 0, locals := 73 } s m args below meth c H locs 0 0 Q (F0 m 15 ls [])), ∀ (v1 : Int64) (v3 : Int32) (v4 : Int32) (S : MS) (H : Heap) (locs : List Loc) (ls : Array Slot), fX3_atOnce_b89 k6 k15 v1 v3 v4 S = some (r, S') → zI D A s H locs (wM cy ad S) → lv_has ls 7 [(0, .ref (ad 0)), (1, .long v1), (3, .int v3), (4, .int v4)] → W p l e { frames := 3, cells := 0, slots := 0, locals := 73 } s m args below meth c H locs 0 0 Q (F0 m 89 ls []) := by
    intro k6 hk6 k15 hk15 v1 v3 v4 S H locs ls hf hI hl
    unfold fX3_atOnce_b89 at hf
    refine lv_iinc (v := (v4 + (1 : Int32))) (lv' := [(4, .int (v4 + (1 : Int32))), (0, .ref (ad 0)), (1, .long v1), (3, .int v3)]) hx hb dX3_atOnce_89 hl (k := 3) rfl rfl (by decide) rfl (fun ls hl => ?_)
    refine lv_goto (tgt := 15) hx hb dX3_atOnce_92 (by decide) ?_
    exact hk15 v1 v3 (v4 + (1 : Int32)) S _ _ _ hf hI (lv_sub hl [1, 2, 3, 0] rfl)
  have hb83 : ∀ (k6 : Int64 → Int32 → MS → Option (Int32 × MS)) (hk6 : ∀ (v1 : Int64) (v3 : Int32) (S : MS) (H : Heap) (locs : List Loc) (ls : Array Slot), k6 v1 v3 S = some (r, S') → zI D A s H locs (wM cy ad S) → lv_has ls 7 [(0, .ref (ad 0)), (1, .long v1), (3, .int v3)] → W p l e { frames := 3, cells := 0, slots := 0, locals := 73 } s m args below meth c H locs 0 0 Q (F0 m 6 ls [])) (k15 : Int64 → Int32 → Int32 → MS → Option (Int32 × MS)) (hk15 : ∀ (v1 : Int64) (v3 : Int32) (v4 : Int32) (S : MS) (H : Heap) (locs : List Loc) (ls : Array Slot), k15 v1 v3 v4 S = some (r, S') → zI D A s H locs (wM cy ad S) → lv_has ls 7 [(0, .ref (ad 0)), (1, .long v1), (3, .int v3), (4, .int v4)] → W p l e { frames := 3, cells := 0, slots := 0, locals := 73 } s m args below meth c H locs 0 0 Q (F0 m 15 ls [])) (k40 : Int64 → Int32 → Int32 → Int32 → Int32 → MS → Option (Int32 × MS)) (hk40 : ∀ (v1 : Int64) (v3 : Int32) (v4 : Int32) (v5 : Int32) (v6 : Int32) (S : MS) (H : Heap) (locs : List Loc) (ls : Array Slot), k40 v1 v3 v4 v5 v6 S = some (r, S') → zI D A s H locs (wM cy ad S) → lv_has ls 7 [(0, .ref (ad 0)), (1, .long v1), (3, .int v3), (4, .int v4), (5, .int v5), (6, .int v6)] → W p l e { frames := 3, cells := 0, slots := 0, locals := 73 } s m args below meth c H locs 0 0 Q (F0 m 40 ls [])), ∀ (v1 : Int64) (v3 : Int32) (v4 : Int32) (v5 : Int32) (v6 : Int32) (S : MS) (H : Heap) (locs : List Loc) (ls : Array Slot), fX3_atOnce_b83 k6 k15 k40 v1 v3 v4 v5 v6 S = some (r, S') → zI D A s H locs (wM cy ad S) → lv_has ls 7 [(0, .ref (ad 0)), (1, .long v1), (3, .int v3), (4, .int v4), (5, .int v5), (6, .int v6)] → W p l e { frames := 3, cells := 0, slots := 0, locals := 73 } s m args below meth c H locs 0 0 Q (F0 m 83 ls []) := by
    intro k6 hk6 k15 hk15 k40 hk40 v1 v3 v4 v5 v6 S H locs ls hf hI hl
    unfold fX3_atOnce_b83 at hf
    refine lv_iinc (v := (v6 + (1 : Int32))) (lv' := [(6, .int (v6 + (1 : Int32))), (0, .ref (ad 0)), (1, .long v1), (3, .int v3), (4, .int v4), (5, .int v5)]) hx hb dX3_atOnce_83 hl (k := 5) rfl rfl (by decide) rfl (fun ls hl => ?_)
    refine lv_goto (tgt := 40) hx hb dX3_atOnce_86 (by decide) ?_
    exact hk40 v1 v3 v4 v5 (v6 + (1 : Int32)) S _ _ _ hf hI (lv_sub hl [1, 2, 3, 4, 5, 0] rfl)
  have hb40 : ∀ (k6 : Int64 → Int32 → MS → Option (Int32 × MS)) (hk6 : ∀ (v1 : Int64) (v3 : Int32) (S : MS) (H : Heap) (locs : List Loc) (ls : Array Slot), k6 v1 v3 S = some (r, S') → zI D A s H locs (wM cy ad S) → lv_has ls 7 [(0, .ref (ad 0)), (1, .long v1), (3, .int v3)] → W p l e { frames := 3, cells := 0, slots := 0, locals := 73 } s m args below meth c H locs 0 0 Q (F0 m 6 ls [])) (k15 : Int64 → Int32 → Int32 → MS → Option (Int32 × MS)) (hk15 : ∀ (v1 : Int64) (v3 : Int32) (v4 : Int32) (S : MS) (H : Heap) (locs : List Loc) (ls : Array Slot), k15 v1 v3 v4 S = some (r, S') → zI D A s H locs (wM cy ad S) → lv_has ls 7 [(0, .ref (ad 0)), (1, .long v1), (3, .int v3), (4, .int v4)] → W p l e { frames := 3, cells := 0, slots := 0, locals := 73 } s m args below meth c H locs 0 0 Q (F0 m 15 ls [])) (n : Nat), ∀ (v1 : Int64) (v3 : Int32) (v4 : Int32) (v5 : Int32) (v6 : Int32) (S : MS) (H : Heap) (locs : List Loc) (ls : Array Slot), fX3_atOnce_b40L k6 k15 n v1 v3 v4 v5 v6 S = some (r, S') → zI D A s H locs (wM cy ad S) → lv_has ls 7 [(0, .ref (ad 0)), (1, .long v1), (3, .int v3), (4, .int v4), (5, .int v5), (6, .int v6)] → W p l e { frames := 3, cells := 0, slots := 0, locals := 73 } s m args below meth c H locs 0 0 Q (F0 m 40 ls []) := by
    intro k6 hk6 k15 hk15 n
    induction n with
    | zero => intro v1 v3 v4 v5 v6 S H locs ls hf; cases (show (none : Option (Int32 × MS)) = some (r, S') from hf)
    | succ n ih =>
      intro v1 v3 v4 v5 v6 S H locs ls hf hI hl
      have hf : fX3_atOnce_b40 k6 k15 (fX3_atOnce_b40L k6 k15 n) v1 v3 v4 v5 v6 S = some (r, S') := hf
      unfold fX3_atOnce_b40 at hf
      refine lv_iload hx hb dX3_atOnce_40 (lv_at hl 5 rfl) ?_
      refine lv_bipush (v := 64) hx hb dX3_atOnce_42 (by decide) ?_
      refine lv_icmp_ge (tgt := 89) hx hb dX3_atOnce_44 (by decide) (fun c_44 => ?_) (fun c_44 => ?_)
      · replace hf := zIt c_44 hf
        exact hb89 k6 hk6 k15 hk15 v1 v3 v4 S _ _ _ hf hI (lv_sub hl [0, 1, 2, 3] rfl)
      · replace hf := zIf c_44 hf
        refine lv_iload hx hb dX3_atOnce_47 (lv_at hl 4 rfl) ?_
        refine lv_bipush (v := -9) hx hb dX3_atOnce_49 (by decide) ?_
        refine lv_icmp_eq (tgt := 89) hx hb dX3_atOnce_51 (by decide) (fun c_51 => ?_) (fun c_51 => ?_)
        · replace hf := zIt c_51 hf
          exact hb89 k6 hk6 k15 hk15 v1 v3 v4 S _ _ _ hf hI (lv_sub hl [0, 1, 2, 3] rfl)
        · replace hf := zIf c_51 hf
          refine lv_iload hx hb dX3_atOnce_54 (lv_at hl 5 rfl) ?_
          obtain ⟨r_56, hf_56, hf⟩ := zB1_s hf
          refine z_callS C 1 (kX3_letters l zq D v6 r_56 hf_56) gX3_atOnce_X3_letters rfl (by decide +kernel) ⟨by decide, by decide⟩ hI rfl hl.1 rfl (Nat.le_of_ble_eq_true rfl) dX3_atOnce_56 ⟨by decide, by decide⟩ (st2 := [.int r_56]) rfl (fun H locs hI => ?_)
          refine lv_iload hx hb dX3_atOnce_59 (lv_at hl 4 rfl) ?_
          refine lv_iadd hx hb dX3_atOnce_61 ?_
          refine lv_iload_n hx hb dX3_atOnce_62 rfl (lv_at hl 2 rfl) ?_
          refine lv_icmp_ne (tgt := 83) hx hb dX3_atOnce_63 (by decide) (fun c_63 => ?_) (fun c_63 => ?_)
          · replace hf := zIf c_63 hf
            exact hb83 k6 hk6 k15 hk15 (fX3_atOnce_b40L k6 k15 n) ih v1 v3 v4 v5 v6 S _ _ _ hf hI (lv_sub hl [0, 1, 2, 3, 4, 5] rfl)
          · replace hf := zIt c_63 hf
            refine lv_aload_n hx hb dX3_atOnce_66 rfl (lv_at hl 0 rfl) ?_
            refine lv_aload_n hx hb dX3_atOnce_67 rfl (lv_at hl 0 rfl) ?_
            refine va_get (D := D) (ci := 3) (v := .ref (ad 3)) (C := RX3) (T := TX3) (N := 27) hx hb hts hiX3 hown hK hI.1 0 rfl rfl 14 (by decide) (hts (.fieldLink RX3 20 "NoughtSumsModel" "line" "[J") (by decide +kernel)) (fun _ h9 => h9) rfl dX3_atOnce_68 ?_
            refine lv_iload hx hb dX3_atOnce_71 (lv_at hl 3 rfl) ?_
            obtain ⟨g_73, hf⟩ := zGI_s hf
            refine va_lald (f := (m_line S)) hx hb hK hI.1 3 2 rfl rfl g_73 dX3_atOnce_73 ?_
            refine lv_iload hx hb dX3_atOnce_74 (lv_at hl 5 rfl) ?_
            obtain ⟨r_76, hf_76, hf⟩ := zB1_s hf
            refine z_callS C 2 (kX3_raised l zq D ((m_line S) v4.toNatClampNeg) v6 r_76 hf_76) gX3_atOnce_X3_raised rfl (by decide +kernel) ⟨by decide, by decide⟩ hI rfl hl.1 rfl (Nat.le_of_ble_eq_true rfl) dX3_atOnce_76 ⟨by decide, by decide⟩ (st2 := [.long r_76, .ref (ad 0)]) rfl (fun H locs hI => ?_)
            obtain ⟨r_79, S_79, hf_79, hf⟩ := zB2_s hf
            refine z_callV (w2 := (wM cy ad S_79)) C 1 (kX3_joins l zq D cy ad r_76 S S_79 r_79 hf_79) gX3_atOnce_X3_joins rfl (by decide +kernel) ⟨by decide, by decide⟩ hI 0 rfl rfl rfl hl.1 rfl (Nat.le_of_ble_eq_true rfl) dX3_atOnce_79 ⟨by decide, by decide⟩ (st2 := [.int r_79]) rfl (fun H locs hI => ?_)
            refine lv_pop hx hb dX3_atOnce_82 rfl ?_
            exact hb83 k6 hk6 k15 hk15 (fX3_atOnce_b40L k6 k15 n) ih v1 v3 v4 v5 v6 S_79 _ _ _ hf hI (lv_sub hl [0, 1, 2, 3, 4, 5] rfl)
  have hb15 : ∀ (k6 : Int64 → Int32 → MS → Option (Int32 × MS)) (hk6 : ∀ (v1 : Int64) (v3 : Int32) (S : MS) (H : Heap) (locs : List Loc) (ls : Array Slot), k6 v1 v3 S = some (r, S') → zI D A s H locs (wM cy ad S) → lv_has ls 7 [(0, .ref (ad 0)), (1, .long v1), (3, .int v3)] → W p l e { frames := 3, cells := 0, slots := 0, locals := 73 } s m args below meth c H locs 0 0 Q (F0 m 6 ls [])) (n : Nat), ∀ (v1 : Int64) (v3 : Int32) (v4 : Int32) (S : MS) (H : Heap) (locs : List Loc) (ls : Array Slot), fX3_atOnce_b15L k6 n v1 v3 v4 S = some (r, S') → zI D A s H locs (wM cy ad S) → lv_has ls 7 [(0, .ref (ad 0)), (1, .long v1), (3, .int v3), (4, .int v4)] → W p l e { frames := 3, cells := 0, slots := 0, locals := 73 } s m args below meth c H locs 0 0 Q (F0 m 15 ls []) := by
    intro k6 hk6 n
    induction n with
    | zero => intro v1 v3 v4 S H locs ls hf; cases (show (none : Option (Int32 × MS)) = some (r, S') from hf)
    | succ n ih =>
      intro v1 v3 v4 S H locs ls hf hI hl
      have hf : fX3_atOnce_b15 k6 (fX3_atOnce_b15L k6 n) v1 v3 v4 S = some (r, S') := hf
      unfold fX3_atOnce_b15 at hf
      refine lv_iload hx hb dX3_atOnce_15 (lv_at hl 3 rfl) ?_
      refine lv_aload_n hx hb dX3_atOnce_17 rfl (lv_at hl 0 rfl) ?_
      refine va_get (D := D) (ci := 3) (v := .int (m_given S)) (C := RX3) (T := TX3) (N := 27) hx hb hts hiX3 hown hK hI.1 0 rfl rfl 10 (by decide) (hts (.fieldLink RX3 129 "NoughtSumsModel" "given" "I") (by decide +kernel)) (fun _ h9 => h9) rfl dX3_atOnce_18 ?_
      refine lv_icmp_ge (tgt := 95) hx hb dX3_atOnce_21 (by decide) (fun c_21 => ?_) (fun c_21 => ?_)
      · replace hf := zIt c_21 hf
        refine lv_aload_n hx hb dX3_atOnce_95 rfl (lv_at hl 0 rfl) ?_
        refine lv_lload_n hx hb dX3_atOnce_96 rfl (lv_at hl 1 rfl) ?_
        obtain ⟨r_97, S_97, hf_97, hf⟩ := zB2_s hf
        refine z_callV (w2 := (wM cy ad S_97)) C 1 (kX3_reduced l zq D cy ad v1 S S_97 r_97 hf_97) gX3_atOnce_X3_reduced rfl (by decide +kernel) ⟨by decide, by decide⟩ hI 0 rfl rfl rfl hl.1 rfl (Nat.le_of_ble_eq_true rfl) dX3_atOnce_97 ⟨by decide, by decide⟩ (st2 := [.long r_97]) rfl (fun H locs hI => ?_)
        refine lv_lconst (v := 0) hx hb dX3_atOnce_100 (by decide) ?_
        refine W.lcmp hx hb dX3_atOnce_101 ?_
        refine lv_if_ne (tgt := 107) hx hb dX3_atOnce_102 (by decide) (fun c_102 => ?_) (fun c_102 => ?_)
        · replace hf := zIf c_102 hf
          refine lv_iinc (v := (v3 + (1 : Int32))) (lv' := [(3, .int (v3 + (1 : Int32))), (0, .ref (ad 0)), (1, .long v1), (4, .int v4)]) hx hb dX3_atOnce_107 hl (k := 2) rfl rfl (by decide) rfl (fun ls hl => ?_)
          refine lv_goto (tgt := 6) hx hb dX3_atOnce_110 (by decide) ?_
          exact hk6 v1 (v3 + (1 : Int32)) S_97 _ _ _ hf hI (lv_sub hl [1, 2, 0] rfl)
        · replace hf := zIt c_102 hf
          refine lv_iload_n hx hb dX3_atOnce_105 rfl (lv_at hl 2 rfl) ?_
          obtain ⟨h1, h2⟩ := zP2 hf
          rw [hQ]
          exact z_iret C (by rw [h2]; exact hI) (by rw [h1]) dX3_atOnce_106
      · replace hf := zIf c_21 hf
        refine lv_aload_n hx hb dX3_atOnce_24 rfl (lv_at hl 0 rfl) ?_
        refine lv_aload_n hx hb dX3_atOnce_25 rfl (lv_at hl 0 rfl) ?_
        refine va_get (D := D) (ci := 3) (v := .ref (ad 3)) (C := RX3) (T := TX3) (N := 27) hx hb hts hiX3 hown hK hI.1 0 rfl rfl 14 (by decide) (hts (.fieldLink RX3 20 "NoughtSumsModel" "line" "[J") (by decide +kernel)) (fun _ h9 => h9) rfl dX3_atOnce_26 ?_
        refine lv_iload hx hb dX3_atOnce_29 (lv_at hl 3 rfl) ?_
        obtain ⟨g_31, hf⟩ := zGI_s hf
        refine va_lald (f := (m_line S)) hx hb hK hI.1 3 2 rfl rfl g_31 dX3_atOnce_31 ?_
        obtain ⟨r_32, S_32, hf_32, hf⟩ := zB2_s hf
        refine z_callV (w2 := (wM cy ad S_32)) C 1 (kX3_degreeOf l zq D cy ad ((m_line S) v4.toNatClampNeg) S S_32 r_32 hf_32) gX3_atOnce_X3_degreeOf rfl (by decide +kernel) ⟨by decide, by decide⟩ hI 0 rfl rfl rfl hl.1 rfl (Nat.le_of_ble_eq_true rfl) dX3_atOnce_32 ⟨by decide, by decide⟩ (st2 := [.int r_32]) rfl (fun H locs hI => ?_)
        refine lv_istore (lv' := [(5, .int r_32), (0, .ref (ad 0)), (1, .long v1), (3, .int v3), (4, .int v4)]) hx hb dX3_atOnce_35 hl (by decide) rfl (fun ls hl => ?_)
        refine lv_iconst (v := 0) hx hb dX3_atOnce_37 (by decide) ?_
        refine lv_istore (lv' := [(6, .int (0 : Int32)), (5, .int r_32), (0, .ref (ad 0)), (1, .long v1), (3, .int v3), (4, .int v4)]) hx hb dX3_atOnce_38 hl (by decide) rfl (fun ls hl => ?_)
        exact hb40 k6 hk6 (fX3_atOnce_b15L k6 n) ih zF v1 v3 v4 r_32 (0 : Int32) S_32 _ _ _ hf hI (lv_sub hl [2, 3, 4, 5, 1, 0] rfl)
  have hb6 : ∀ (n : Nat), ∀ (v1 : Int64) (v3 : Int32) (S : MS) (H : Heap) (locs : List Loc) (ls : Array Slot), fX3_atOnce_b6L n v1 v3 S = some (r, S') → zI D A s H locs (wM cy ad S) → lv_has ls 7 [(0, .ref (ad 0)), (1, .long v1), (3, .int v3)] → W p l e { frames := 3, cells := 0, slots := 0, locals := 73 } s m args below meth c H locs 0 0 Q (F0 m 6 ls []) := by
    intro n
    induction n with
    | zero => intro v1 v3 S H locs ls hf; cases (show (none : Option (Int32 × MS)) = some (r, S') from hf)
    | succ n ih =>
      intro v1 v3 S H locs ls hf hI hl
      have hf : fX3_atOnce_b6 (fX3_atOnce_b6L n) v1 v3 S = some (r, S') := hf
      unfold fX3_atOnce_b6 at hf
      refine lv_iload_n hx hb dX3_atOnce_6 rfl (lv_at hl 2 rfl) ?_
      refine lv_bipush (v := 13) hx hb dX3_atOnce_7 (by decide) ?_
      refine lv_icmp_ge (tgt := 113) hx hb dX3_atOnce_9 (by decide) (fun c_9 => ?_) (fun c_9 => ?_)
      · replace hf := zIt c_9 hf
        refine lv_bipush (v := -9) hx hb dX3_atOnce_113 (by decide) ?_
        obtain ⟨h1, h2⟩ := zP2 hf
        rw [hQ]
        exact z_iret C (by rw [h2]; exact hI) (by rw [h1]) dX3_atOnce_115
      · replace hf := zIf c_9 hf
        refine lv_iconst (v := 0) hx hb dX3_atOnce_12 (by decide) ?_
        refine lv_istore (lv' := [(4, .int (0 : Int32)), (0, .ref (ad 0)), (1, .long v1), (3, .int v3)]) hx hb dX3_atOnce_13 hl (by decide) rfl (fun ls hl => ?_)
        exact hb15 (fX3_atOnce_b6L n) ih zF v1 v3 (0 : Int32) S _ _ _ hf hI (lv_sub hl [1, 2, 3, 0] rfl)
  unfold fX3_atOnce at hf
  refine lv_aload_n hx hb dX3_atOnce_0 rfl (lv_at hl 0 rfl) ?_
  obtain ⟨S_1, hf_1, hf⟩ := zB1_s hf
  refine z_callV (w2 := (wM cy ad S_1)) C 0 (kX3_forgets l zq D cy ad S S_1 hf_1) gX3_atOnce_X3_forgets rfl (by decide +kernel) ⟨by decide, by decide⟩ hI 0 rfl rfl rfl hl.1 rfl (Nat.le_of_ble_eq_true rfl) dX3_atOnce_1 ⟨by decide, by decide⟩ (st2 := []) rfl (fun H locs hI => ?_)
  refine lv_iconst (v := 0) hx hb dX3_atOnce_4 (by decide) ?_
  refine lv_istore_n (lv' := [(3, .int (0 : Int32)), (0, .ref (ad 0)), (1, .long a1)]) hx hb dX3_atOnce_5 rfl hl (by decide) rfl (fun ls hl => ?_)
  exact hb6 zF a1 (0 : Int32) S_1 _ _ _ hf hI (lv_sub hl [1, 2, 0] rfl)

def fX3_grown_b177 (k2 : Int64 → Int32 → MS → Option (Int32 × MS)) (k64 : Int64 → Int32 → Int32 → MS → Option (Int32 × MS)) (k75 : Int64 → Int32 → Int32 → Int32 → MS → Option (Int32 × MS)) (v1 : Int64) (v3 : Int32) (v4 : Int32) (v5 : Int32) (S : MS) : Option (Int32 × MS) :=
k75 v1 v3 v4 (v5 + (1 : Int32)) S

def fX3_grown_b140 (k2 : Int64 → Int32 → MS → Option (Int32 × MS)) (k64 : Int64 → Int32 → Int32 → MS → Option (Int32 × MS)) (k75 : Int64 → Int32 → Int32 → Int32 → MS → Option (Int32 × MS)) (k140 : Int64 → Int32 → Int32 → Int32 → Int32 → Int32 → MS → Option (Int32 × MS)) (v1 : Int64) (v3 : Int32) (v4 : Int32) (v5 : Int32) (v6 : Int32) (v7 : Int32) (S : MS) : Option (Int32 × MS) :=
(if (6 : Int32) ≤ v7 then fX3_grown_b177 k2 k64 k75 v1 v3 v4 v5 S else
(if v6 = 0 then fX3_grown_b177 k2 k64 k75 v1 v3 v4 v5 S else
(zGI v5 64
((zB1 (fX3_raised ((m_led S) v5.toNatClampNeg) ((1 : Int32) <<< (v7 &&& 31))) (fun r_164 =>
(zB2 (fX3_joins r_164 S) (fun r_167 S_167 =>
k140 v1 v3 v4 v5 v6 (v7 + (1 : Int32)) S_167))))))))
def fX3_grown_b140L (k2 : Int64 → Int32 → MS → Option (Int32 × MS)) (k64 : Int64 → Int32 → Int32 → MS → Option (Int32 × MS)) (k75 : Int64 → Int32 → Int32 → Int32 → MS → Option (Int32 × MS)) : Nat → Int64 → Int32 → Int32 → Int32 → Int32 → Int32 → MS → Option (Int32 × MS)
  | 0, _, _, _, _, _, _, _ => none
  | n + 1, v1, v3, v4, v5, v6, v7, S => fX3_grown_b140 k2 k64 k75 (fX3_grown_b140L k2 k64 k75 n) v1 v3 v4 v5 v6 v7 S

def fX3_grown_b116 (k2 : Int64 → Int32 → MS → Option (Int32 × MS)) (k64 : Int64 → Int32 → Int32 → MS → Option (Int32 × MS)) (k75 : Int64 → Int32 → Int32 → Int32 → MS → Option (Int32 × MS)) (v1 : Int64) (v3 : Int32) (v4 : Int32) (v5 : Int32) (u0 : Int32) (S : MS) : Option (Int32 × MS) :=
(zGI v5 64
((zGI v5 64
(zL (m_isDone_u S (upd (m_isDone S) v5.toNatClampNeg (vp_nar .boolean (((m_isDone S) v5.toNatClampNeg) ||| u0)))) (fun S_129 =>
fX3_grown_b140L k2 k64 k75 zF v1 v3 (v4 ||| u0) v5 u0 (0 : Int32) S_129)))))

def fX3_grown_b115 (k2 : Int64 → Int32 → MS → Option (Int32 × MS)) (k64 : Int64 → Int32 → Int32 → MS → Option (Int32 × MS)) (k75 : Int64 → Int32 → Int32 → Int32 → MS → Option (Int32 × MS)) (v1 : Int64) (v3 : Int32) (v4 : Int32) (v5 : Int32) (S : MS) : Option (Int32 × MS) :=
fX3_grown_b116 k2 k64 k75 v1 v3 v4 v5 (0 : Int32) S

def fX3_grown_b75 (k2 : Int64 → Int32 → MS → Option (Int32 × MS)) (k64 : Int64 → Int32 → Int32 → MS → Option (Int32 × MS)) (k75 : Int64 → Int32 → Int32 → Int32 → MS → Option (Int32 × MS)) (v1 : Int64) (v3 : Int32) (v4 : Int32) (v5 : Int32) (S : MS) : Option (Int32 × MS) :=
(if (64 : Int32) ≤ v5 then k64 v1 v3 v4 S else
(zGI v5 64
((if ((m_isLed S) v5.toNatClampNeg) = 0 then fX3_grown_b115 k2 k64 k75 v1 v3 v4 v5 S else
(zGI v5 64
((if ((m_isDone S) v5.toNatClampNeg) = 0 then (zB1 (fX3_letters v5) (fun r_104 =>
(if v3 ≤ r_104 then fX3_grown_b115 k2 k64 k75 v1 v3 v4 v5 S else
fX3_grown_b116 k2 k64 k75 v1 v3 v4 v5 (1 : Int32) S))) else
fX3_grown_b115 k2 k64 k75 v1 v3 v4 v5 S)))))))
def fX3_grown_b75L (k2 : Int64 → Int32 → MS → Option (Int32 × MS)) (k64 : Int64 → Int32 → Int32 → MS → Option (Int32 × MS)) : Nat → Int64 → Int32 → Int32 → Int32 → MS → Option (Int32 × MS)
  | 0, _, _, _, _, _ => none
  | n + 1, v1, v3, v4, v5, S => fX3_grown_b75 k2 k64 (fX3_grown_b75L k2 k64 n) v1 v3 v4 v5 S

def fX3_grown_b64 (k2 : Int64 → Int32 → MS → Option (Int32 × MS)) (k64 : Int64 → Int32 → Int32 → MS → Option (Int32 × MS)) (v1 : Int64) (v3 : Int32) (v4 : Int32) (S : MS) : Option (Int32 × MS) :=
(if v4 = 0 then (zB2 (fX3_reduced v1 S) (fun r_188 S_188 =>
(if (lg_cmp r_188 (0 : Int64)) = 0 then some (v3, S_188) else
k2 v1 (v3 + (1 : Int32)) S_188))) else
fX3_grown_b75L k2 k64 zF v1 v3 (0 : Int32) (0 : Int32) S)
def fX3_grown_b64L (k2 : Int64 → Int32 → MS → Option (Int32 × MS)) : Nat → Int64 → Int32 → Int32 → MS → Option (Int32 × MS)
  | 0, _, _, _, _ => none
  | n + 1, v1, v3, v4, S => fX3_grown_b64 k2 (fX3_grown_b64L k2 n) v1 v3 v4 S

def fX3_grown_b55 (k2 : Int64 → Int32 → MS → Option (Int32 × MS)) (k15 : Int64 → Int32 → Int32 → MS → Option (Int32 × MS)) (v1 : Int64) (v3 : Int32) (v4 : Int32) (S : MS) : Option (Int32 × MS) :=
k15 v1 v3 (v4 + (1 : Int32)) S

def fX3_grown_b15 (k2 : Int64 → Int32 → MS → Option (Int32 × MS)) (k15 : Int64 → Int32 → Int32 → MS → Option (Int32 × MS)) (v1 : Int64) (v3 : Int32) (v4 : Int32) (S : MS) : Option (Int32 × MS) :=
(if (m_given S) ≤ v4 then fX3_grown_b64L k2 zF v1 v3 (1 : Int32) S else
(zGI v4 32
((zB2 (fX3_degreeOf ((m_line S) v4.toNatClampNeg) S) (fun r_32 S_32 =>
(zB1 (fX3_in r_32 (0 : Int32) v3) (fun r_37 =>
(if r_37 = 0 then fX3_grown_b55 k2 k15 v1 v3 v4 S_32 else
(zGI v4 32
((zB2 (fX3_joins ((m_line S_32) v4.toNatClampNeg) S_32) (fun r_51 S_51 =>
fX3_grown_b55 k2 k15 v1 v3 v4 S_51))))))))))))
def fX3_grown_b15L (k2 : Int64 → Int32 → MS → Option (Int32 × MS)) : Nat → Int64 → Int32 → Int32 → MS → Option (Int32 × MS)
  | 0, _, _, _, _ => none
  | n + 1, v1, v3, v4, S => fX3_grown_b15 k2 (fX3_grown_b15L k2 n) v1 v3 v4 S

def fX3_grown_b2 (k2 : Int64 → Int32 → MS → Option (Int32 × MS)) (v1 : Int64) (v3 : Int32) (S : MS) : Option (Int32 × MS) :=
(if (7 : Int32) ≤ v3 then some ((-9 : Int32), S) else
(zB1 (fX3_forgets S) (fun S_9 =>
fX3_grown_b15L k2 zF v1 v3 (0 : Int32) S_9)))
def fX3_grown_b2L : Nat → Int64 → Int32 → MS → Option (Int32 × MS)
  | 0, _, _, _ => none
  | n + 1, v1, v3, S => fX3_grown_b2 (fX3_grown_b2L n) v1 v3 S

def fX3_grown (a1 : Int64) (S : MS) : Option (Int32 × MS) :=
fX3_grown_b2L zF a1 (0 : Int32) S
set_option maxHeartbeats 4000000 in
set_option maxRecDepth 100000 in
theorem kX3_grown (l : Launch) (zq : Nat → Nat) (D : va_G) (cy : Nat → ClassId) (ad : Nat → Nat) (a1 : Int64) (S S' : MS) (r : Int32) (hf : fX3_grown a1 S = some (r, S')) : zMet l yX3_grown wsX3_grown 3 73 zq D (tM cy) (wM cy ad S) [.ref (ad 0), .long a1] (some (.int r)) (wM cy ad S') := by
  refine zMet.of cX3_grown 8 (some .int) (by decide) rfl (Nat.le_of_ble_eq_true rfl) ?_
  intro p e s m args below meth c A ls C hl hI
  have hl : lv_has ls 8 [(0, .ref (ad 0)), (1, .long a1)] := hl
  have C : zC p s m args meth c cX3_grown 8 (some .int) RX3 wsX3_grown D (tM cy) zq A := C
  obtain ⟨hx, hb, hml, hown, hts, hret, hlk, hK, hX, hA⟩ := id C
  have hiX3 : ∀ w ∈ wsX30, w ∈ wsX3_grown := by decide +kernel
  obtain ⟨Q, hQ⟩ : ∃ Q, Q = MQ below (zQ D (tM cy) (wM cy ad S') (some (.int r)) A) args s 0 0 A := ⟨_, rfl⟩
  rw [← hQ]
  have hb177 : ∀ (k2 : Int64 → Int32 → MS → Option (Int32 × MS)) (hk2 : ∀ (v1 : Int64) (v3 : Int32) (S : MS) (H : Heap) (locs : List Loc) (ls : Array Slot), k2 v1 v3 S = some (r, S') → zI D A s H locs (wM cy ad S) → lv_has ls 8 [(0, .ref (ad 0)), (1, .long v1), (3, .int v3)] → W p l e { frames := 3, cells := 0, slots := 0, locals := 73 } s m args below meth c H locs 0 0 Q (F0 m 2 ls [])) (k64 : Int64 → Int32 → Int32 → MS → Option (Int32 × MS)) (hk64 : ∀ (v1 : Int64) (v3 : Int32) (v4 : Int32) (S : MS) (H : Heap) (locs : List Loc) (ls : Array Slot), k64 v1 v3 v4 S = some (r, S') → zI D A s H locs (wM cy ad S) → lv_has ls 8 [(0, .ref (ad 0)), (1, .long v1), (3, .int v3), (4, .int v4)] → W p l e { frames := 3, cells := 0, slots := 0, locals := 73 } s m args below meth c H locs 0 0 Q (F0 m 64 ls [])) (k75 : Int64 → Int32 → Int32 → Int32 → MS → Option (Int32 × MS)) (hk75 : ∀ (v1 : Int64) (v3 : Int32) (v4 : Int32) (v5 : Int32) (S : MS) (H : Heap) (locs : List Loc) (ls : Array Slot), k75 v1 v3 v4 v5 S = some (r, S') → zI D A s H locs (wM cy ad S) → lv_has ls 8 [(0, .ref (ad 0)), (1, .long v1), (3, .int v3), (4, .int v4), (5, .int v5)] → W p l e { frames := 3, cells := 0, slots := 0, locals := 73 } s m args below meth c H locs 0 0 Q (F0 m 75 ls [])), ∀ (v1 : Int64) (v3 : Int32) (v4 : Int32) (v5 : Int32) (S : MS) (H : Heap) (locs : List Loc) (ls : Array Slot), fX3_grown_b177 k2 k64 k75 v1 v3 v4 v5 S = some (r, S') → zI D A s H locs (wM cy ad S) → lv_has ls 8 [(0, .ref (ad 0)), (1, .long v1), (3, .int v3), (4, .int v4), (5, .int v5)] → W p l e { frames := 3, cells := 0, slots := 0, locals := 73 } s m args below meth c H locs 0 0 Q (F0 m 177 ls []) := by
    intro k2 hk2 k64 hk64 k75 hk75 v1 v3 v4 v5 S H locs ls hf hI hl
    unfold fX3_grown_b177 at hf
    refine lv_iinc (v := (v5 + (1 : Int32))) (lv' := [(5, .int (v5 + (1 : Int32))), (0, .ref (ad 0)), (1, .long v1), (3, .int v3), (4, .int v4)]) hx hb dX3_grown_177 hl (k := 4) rfl rfl (by decide) rfl (fun ls hl => ?_)
    refine lv_goto (tgt := 75) hx hb dX3_grown_180 (by decide) ?_
    exact hk75 v1 v3 v4 (v5 + (1 : Int32)) S _ _ _ hf hI (lv_sub hl [1, 2, 3, 4, 0] rfl)
  have hb140 : ∀ (k2 : Int64 → Int32 → MS → Option (Int32 × MS)) (hk2 : ∀ (v1 : Int64) (v3 : Int32) (S : MS) (H : Heap) (locs : List Loc) (ls : Array Slot), k2 v1 v3 S = some (r, S') → zI D A s H locs (wM cy ad S) → lv_has ls 8 [(0, .ref (ad 0)), (1, .long v1), (3, .int v3)] → W p l e { frames := 3, cells := 0, slots := 0, locals := 73 } s m args below meth c H locs 0 0 Q (F0 m 2 ls [])) (k64 : Int64 → Int32 → Int32 → MS → Option (Int32 × MS)) (hk64 : ∀ (v1 : Int64) (v3 : Int32) (v4 : Int32) (S : MS) (H : Heap) (locs : List Loc) (ls : Array Slot), k64 v1 v3 v4 S = some (r, S') → zI D A s H locs (wM cy ad S) → lv_has ls 8 [(0, .ref (ad 0)), (1, .long v1), (3, .int v3), (4, .int v4)] → W p l e { frames := 3, cells := 0, slots := 0, locals := 73 } s m args below meth c H locs 0 0 Q (F0 m 64 ls [])) (k75 : Int64 → Int32 → Int32 → Int32 → MS → Option (Int32 × MS)) (hk75 : ∀ (v1 : Int64) (v3 : Int32) (v4 : Int32) (v5 : Int32) (S : MS) (H : Heap) (locs : List Loc) (ls : Array Slot), k75 v1 v3 v4 v5 S = some (r, S') → zI D A s H locs (wM cy ad S) → lv_has ls 8 [(0, .ref (ad 0)), (1, .long v1), (3, .int v3), (4, .int v4), (5, .int v5)] → W p l e { frames := 3, cells := 0, slots := 0, locals := 73 } s m args below meth c H locs 0 0 Q (F0 m 75 ls [])) (n : Nat), ∀ (v1 : Int64) (v3 : Int32) (v4 : Int32) (v5 : Int32) (v6 : Int32) (v7 : Int32) (S : MS) (H : Heap) (locs : List Loc) (ls : Array Slot), fX3_grown_b140L k2 k64 k75 n v1 v3 v4 v5 v6 v7 S = some (r, S') → zI D A s H locs (wM cy ad S) → lv_has ls 8 [(0, .ref (ad 0)), (1, .long v1), (3, .int v3), (4, .int v4), (5, .int v5), (6, .int v6), (7, .int v7)] → W p l e { frames := 3, cells := 0, slots := 0, locals := 73 } s m args below meth c H locs 0 0 Q (F0 m 140 ls []) := by
    intro k2 hk2 k64 hk64 k75 hk75 n
    induction n with
    | zero => intro v1 v3 v4 v5 v6 v7 S H locs ls hf; cases (show (none : Option (Int32 × MS)) = some (r, S') from hf)
    | succ n ih =>
      intro v1 v3 v4 v5 v6 v7 S H locs ls hf hI hl
      have hf : fX3_grown_b140 k2 k64 k75 (fX3_grown_b140L k2 k64 k75 n) v1 v3 v4 v5 v6 v7 S = some (r, S') := hf
      unfold fX3_grown_b140 at hf
      refine lv_iload hx hb dX3_grown_140 (lv_at hl 6 rfl) ?_
      refine lv_bipush (v := 6) hx hb dX3_grown_142 (by decide) ?_
      refine lv_icmp_ge (tgt := 177) hx hb dX3_grown_144 (by decide) (fun c_144 => ?_) (fun c_144 => ?_)
      · replace hf := zIt c_144 hf
        exact hb177 k2 hk2 k64 hk64 k75 hk75 v1 v3 v4 v5 S _ _ _ hf hI (lv_sub hl [0, 1, 2, 3, 4] rfl)
      · replace hf := zIf c_144 hf
        refine lv_iload hx hb dX3_grown_147 (lv_at hl 5 rfl) ?_
        refine lv_if_eq (tgt := 177) hx hb dX3_grown_149 (by decide) (fun c_149 => ?_) (fun c_149 => ?_)
        · replace hf := zIt c_149 hf
          exact hb177 k2 hk2 k64 hk64 k75 hk75 v1 v3 v4 v5 S _ _ _ hf hI (lv_sub hl [0, 1, 2, 3, 4] rfl)
        · replace hf := zIf c_149 hf
          refine lv_aload_n hx hb dX3_grown_152 rfl (lv_at hl 0 rfl) ?_
          refine lv_aload_n hx hb dX3_grown_153 rfl (lv_at hl 0 rfl) ?_
          refine va_get (D := D) (ci := 3) (v := .ref (ad 9)) (C := RX3) (T := TX3) (N := 27) hx hb hts hiX3 hown hK hI.1 0 rfl rfl 24 (by decide) (hts (.fieldLink RX3 39 "NoughtSumsModel" "led" "[J") (by decide +kernel)) (fun _ h9 => h9) rfl dX3_grown_154 ?_
          refine lv_iload hx hb dX3_grown_157 (lv_at hl 4 rfl) ?_
          obtain ⟨g_159, hf⟩ := zGI_s hf
          refine va_lald (f := (m_led S)) hx hb hK hI.1 9 8 rfl rfl g_159 dX3_grown_159 ?_
          refine lv_iconst (v := 1) hx hb dX3_grown_160 (by decide) ?_
          refine lv_iload hx hb dX3_grown_161 (lv_at hl 6 rfl) ?_
          refine lv_ishl hx hb dX3_grown_163 ?_
          obtain ⟨r_164, hf_164, hf⟩ := zB1_s hf
          refine z_callS C 2 (kX3_raised l zq D ((m_led S) v5.toNatClampNeg) ((1 : Int32) <<< (v7 &&& 31)) r_164 hf_164) gX3_grown_X3_raised rfl (by decide +kernel) ⟨by decide, by decide⟩ hI rfl hl.1 rfl (Nat.le_of_ble_eq_true rfl) dX3_grown_164 ⟨by decide, by decide⟩ (st2 := [.long r_164, .ref (ad 0)]) rfl (fun H locs hI => ?_)
          obtain ⟨r_167, S_167, hf_167, hf⟩ := zB2_s hf
          refine z_callV (w2 := (wM cy ad S_167)) C 1 (kX3_joins l zq D cy ad r_164 S S_167 r_167 hf_167) gX3_grown_X3_joins rfl (by decide +kernel) ⟨by decide, by decide⟩ hI 0 rfl rfl rfl hl.1 rfl (Nat.le_of_ble_eq_true rfl) dX3_grown_167 ⟨by decide, by decide⟩ (st2 := [.int r_167]) rfl (fun H locs hI => ?_)
          refine lv_pop hx hb dX3_grown_170 rfl ?_
          refine lv_iinc (v := (v7 + (1 : Int32))) (lv' := [(7, .int (v7 + (1 : Int32))), (0, .ref (ad 0)), (1, .long v1), (3, .int v3), (4, .int v4), (5, .int v5), (6, .int v6)]) hx hb dX3_grown_171 hl (k := 6) rfl rfl (by decide) rfl (fun ls hl => ?_)
          refine lv_goto (tgt := 140) hx hb dX3_grown_174 (by decide) ?_
          exact ih v1 v3 v4 v5 v6 (v7 + (1 : Int32)) S_167 _ _ _ hf hI (lv_sub hl [1, 2, 3, 4, 5, 6, 0] rfl)
  have hb116 : ∀ (k2 : Int64 → Int32 → MS → Option (Int32 × MS)) (hk2 : ∀ (v1 : Int64) (v3 : Int32) (S : MS) (H : Heap) (locs : List Loc) (ls : Array Slot), k2 v1 v3 S = some (r, S') → zI D A s H locs (wM cy ad S) → lv_has ls 8 [(0, .ref (ad 0)), (1, .long v1), (3, .int v3)] → W p l e { frames := 3, cells := 0, slots := 0, locals := 73 } s m args below meth c H locs 0 0 Q (F0 m 2 ls [])) (k64 : Int64 → Int32 → Int32 → MS → Option (Int32 × MS)) (hk64 : ∀ (v1 : Int64) (v3 : Int32) (v4 : Int32) (S : MS) (H : Heap) (locs : List Loc) (ls : Array Slot), k64 v1 v3 v4 S = some (r, S') → zI D A s H locs (wM cy ad S) → lv_has ls 8 [(0, .ref (ad 0)), (1, .long v1), (3, .int v3), (4, .int v4)] → W p l e { frames := 3, cells := 0, slots := 0, locals := 73 } s m args below meth c H locs 0 0 Q (F0 m 64 ls [])) (k75 : Int64 → Int32 → Int32 → Int32 → MS → Option (Int32 × MS)) (hk75 : ∀ (v1 : Int64) (v3 : Int32) (v4 : Int32) (v5 : Int32) (S : MS) (H : Heap) (locs : List Loc) (ls : Array Slot), k75 v1 v3 v4 v5 S = some (r, S') → zI D A s H locs (wM cy ad S) → lv_has ls 8 [(0, .ref (ad 0)), (1, .long v1), (3, .int v3), (4, .int v4), (5, .int v5)] → W p l e { frames := 3, cells := 0, slots := 0, locals := 73 } s m args below meth c H locs 0 0 Q (F0 m 75 ls [])), ∀ (v1 : Int64) (v3 : Int32) (v4 : Int32) (v5 : Int32) (u0 : Int32) (S : MS) (H : Heap) (locs : List Loc) (ls : Array Slot), fX3_grown_b116 k2 k64 k75 v1 v3 v4 v5 u0 S = some (r, S') → zI D A s H locs (wM cy ad S) → lv_has ls 8 [(0, .ref (ad 0)), (1, .long v1), (3, .int v3), (4, .int v4), (5, .int v5)] → W p l e { frames := 3, cells := 0, slots := 0, locals := 73 } s m args below meth c H locs 0 0 Q (F0 m 116 ls [.int u0]) := by
    intro k2 hk2 k64 hk64 k75 hk75 v1 v3 v4 v5 u0 S H locs ls hf hI hl
    unfold fX3_grown_b116 at hf
    refine lv_istore (lv' := [(6, .int u0), (0, .ref (ad 0)), (1, .long v1), (3, .int v3), (4, .int v4), (5, .int v5)]) hx hb dX3_grown_116 hl (by decide) rfl (fun ls hl => ?_)
    refine lv_aload_n hx hb dX3_grown_118 rfl (lv_at hl 1 rfl) ?_
    refine va_get (D := D) (ci := 3) (v := .ref (ad 11)) (C := RX3) (T := TX3) (N := 27) hx hb hts hiX3 hown hK hI.1 0 rfl rfl 26 (by decide) (hts (.fieldLink RX3 46 "NoughtSumsModel" "isDone" "[Z") (by decide +kernel)) (fun _ h9 => h9) rfl dX3_grown_119 ?_
    refine lv_iload hx hb dX3_grown_122 (lv_at hl 5 rfl) ?_
    refine lv_dup2_11 hx hb dX3_grown_124 rfl rfl ?_
    obtain ⟨g_125, hf⟩ := zGI_s hf
    refine va_zald (f := (m_isDone S)) hx hb hK hI.1 11 10 rfl rfl g_125 dX3_grown_125 ?_
    refine lv_iload hx hb dX3_grown_126 (lv_at hl 0 rfl) ?_
    refine lv_ior hx hb dX3_grown_128 ?_
    obtain ⟨g_129, hf⟩ := zGI_s hf
    obtain ⟨S_129, eS_129, hf⟩ := zL_e hf
    refine z_zast (f := (m_isDone S)) (w2 := (wM cy ad S_129)) hx hb hK hI 11 10 rfl rfl g_129 dX3_grown_129 (by rw [eS_129]; rfl) (fun H locs hI => ?_)
    refine lv_iload hx hb dX3_grown_130 (lv_at hl 4 rfl) ?_
    refine lv_iload hx hb dX3_grown_132 (lv_at hl 0 rfl) ?_
    refine lv_ior hx hb dX3_grown_134 ?_
    refine lv_istore (lv' := [(4, .int (v4 ||| u0)), (6, .int u0), (0, .ref (ad 0)), (1, .long v1), (3, .int v3), (5, .int v5)]) hx hb dX3_grown_135 hl (by decide) rfl (fun ls hl => ?_)
    refine lv_iconst (v := 0) hx hb dX3_grown_137 (by decide) ?_
    refine lv_istore (lv' := [(7, .int (0 : Int32)), (4, .int (v4 ||| u0)), (6, .int u0), (0, .ref (ad 0)), (1, .long v1), (3, .int v3), (5, .int v5)]) hx hb dX3_grown_138 hl (by decide) rfl (fun ls hl => ?_)
    exact hb140 k2 hk2 k64 hk64 k75 hk75 zF v1 v3 (v4 ||| u0) v5 u0 (0 : Int32) S_129 _ _ _ hf hI (lv_sub hl [3, 4, 5, 1, 6, 2, 0] rfl)
  have hb115 : ∀ (k2 : Int64 → Int32 → MS → Option (Int32 × MS)) (hk2 : ∀ (v1 : Int64) (v3 : Int32) (S : MS) (H : Heap) (locs : List Loc) (ls : Array Slot), k2 v1 v3 S = some (r, S') → zI D A s H locs (wM cy ad S) → lv_has ls 8 [(0, .ref (ad 0)), (1, .long v1), (3, .int v3)] → W p l e { frames := 3, cells := 0, slots := 0, locals := 73 } s m args below meth c H locs 0 0 Q (F0 m 2 ls [])) (k64 : Int64 → Int32 → Int32 → MS → Option (Int32 × MS)) (hk64 : ∀ (v1 : Int64) (v3 : Int32) (v4 : Int32) (S : MS) (H : Heap) (locs : List Loc) (ls : Array Slot), k64 v1 v3 v4 S = some (r, S') → zI D A s H locs (wM cy ad S) → lv_has ls 8 [(0, .ref (ad 0)), (1, .long v1), (3, .int v3), (4, .int v4)] → W p l e { frames := 3, cells := 0, slots := 0, locals := 73 } s m args below meth c H locs 0 0 Q (F0 m 64 ls [])) (k75 : Int64 → Int32 → Int32 → Int32 → MS → Option (Int32 × MS)) (hk75 : ∀ (v1 : Int64) (v3 : Int32) (v4 : Int32) (v5 : Int32) (S : MS) (H : Heap) (locs : List Loc) (ls : Array Slot), k75 v1 v3 v4 v5 S = some (r, S') → zI D A s H locs (wM cy ad S) → lv_has ls 8 [(0, .ref (ad 0)), (1, .long v1), (3, .int v3), (4, .int v4), (5, .int v5)] → W p l e { frames := 3, cells := 0, slots := 0, locals := 73 } s m args below meth c H locs 0 0 Q (F0 m 75 ls [])), ∀ (v1 : Int64) (v3 : Int32) (v4 : Int32) (v5 : Int32) (S : MS) (H : Heap) (locs : List Loc) (ls : Array Slot), fX3_grown_b115 k2 k64 k75 v1 v3 v4 v5 S = some (r, S') → zI D A s H locs (wM cy ad S) → lv_has ls 8 [(0, .ref (ad 0)), (1, .long v1), (3, .int v3), (4, .int v4), (5, .int v5)] → W p l e { frames := 3, cells := 0, slots := 0, locals := 73 } s m args below meth c H locs 0 0 Q (F0 m 115 ls []) := by
    intro k2 hk2 k64 hk64 k75 hk75 v1 v3 v4 v5 S H locs ls hf hI hl
    unfold fX3_grown_b115 at hf
    refine lv_iconst (v := 0) hx hb dX3_grown_115 (by decide) ?_
    exact hb116 k2 hk2 k64 hk64 k75 hk75 v1 v3 v4 v5 (0 : Int32) S _ _ _ hf hI (lv_sub hl [0, 1, 2, 3, 4] rfl)
  have hb75 : ∀ (k2 : Int64 → Int32 → MS → Option (Int32 × MS)) (hk2 : ∀ (v1 : Int64) (v3 : Int32) (S : MS) (H : Heap) (locs : List Loc) (ls : Array Slot), k2 v1 v3 S = some (r, S') → zI D A s H locs (wM cy ad S) → lv_has ls 8 [(0, .ref (ad 0)), (1, .long v1), (3, .int v3)] → W p l e { frames := 3, cells := 0, slots := 0, locals := 73 } s m args below meth c H locs 0 0 Q (F0 m 2 ls [])) (k64 : Int64 → Int32 → Int32 → MS → Option (Int32 × MS)) (hk64 : ∀ (v1 : Int64) (v3 : Int32) (v4 : Int32) (S : MS) (H : Heap) (locs : List Loc) (ls : Array Slot), k64 v1 v3 v4 S = some (r, S') → zI D A s H locs (wM cy ad S) → lv_has ls 8 [(0, .ref (ad 0)), (1, .long v1), (3, .int v3), (4, .int v4)] → W p l e { frames := 3, cells := 0, slots := 0, locals := 73 } s m args below meth c H locs 0 0 Q (F0 m 64 ls [])) (n : Nat), ∀ (v1 : Int64) (v3 : Int32) (v4 : Int32) (v5 : Int32) (S : MS) (H : Heap) (locs : List Loc) (ls : Array Slot), fX3_grown_b75L k2 k64 n v1 v3 v4 v5 S = some (r, S') → zI D A s H locs (wM cy ad S) → lv_has ls 8 [(0, .ref (ad 0)), (1, .long v1), (3, .int v3), (4, .int v4), (5, .int v5)] → W p l e { frames := 3, cells := 0, slots := 0, locals := 73 } s m args below meth c H locs 0 0 Q (F0 m 75 ls []) := by
    intro k2 hk2 k64 hk64 n
    induction n with
    | zero => intro v1 v3 v4 v5 S H locs ls hf; cases (show (none : Option (Int32 × MS)) = some (r, S') from hf)
    | succ n ih =>
      intro v1 v3 v4 v5 S H locs ls hf hI hl
      have hf : fX3_grown_b75 k2 k64 (fX3_grown_b75L k2 k64 n) v1 v3 v4 v5 S = some (r, S') := hf
      unfold fX3_grown_b75 at hf
      refine lv_iload hx hb dX3_grown_75 (lv_at hl 4 rfl) ?_
      refine lv_bipush (v := 64) hx hb dX3_grown_77 (by decide) ?_
      refine lv_icmp_ge (tgt := 183) hx hb dX3_grown_79 (by decide) (fun c_79 => ?_) (fun c_79 => ?_)
      · replace hf := zIt c_79 hf
        refine lv_goto (tgt := 64) hx hb dX3_grown_183 (by decide) ?_
        exact hk64 v1 v3 v4 S _ _ _ hf hI (lv_sub hl [0, 1, 2, 3] rfl)
      · replace hf := zIf c_79 hf
        refine lv_aload_n hx hb dX3_grown_82 rfl (lv_at hl 0 rfl) ?_
        refine va_get (D := D) (ci := 3) (v := .ref (ad 10)) (C := RX3) (T := TX3) (N := 27) hx hb hts hiX3 hown hK hI.1 0 rfl rfl 25 (by decide) (hts (.fieldLink RX3 42 "NoughtSumsModel" "isLed" "[Z") (by decide +kernel)) (fun _ h9 => h9) rfl dX3_grown_83 ?_
        refine lv_iload hx hb dX3_grown_86 (lv_at hl 4 rfl) ?_
        obtain ⟨g_88, hf⟩ := zGI_s hf
        refine va_zald (f := (m_isLed S)) hx hb hK hI.1 10 9 rfl rfl g_88 dX3_grown_88 ?_
        refine lv_if_eq (tgt := 115) hx hb dX3_grown_89 (by decide) (fun c_89 => ?_) (fun c_89 => ?_)
        · replace hf := zIt c_89 hf
          exact hb115 k2 hk2 k64 hk64 (fX3_grown_b75L k2 k64 n) ih v1 v3 v4 v5 S _ _ _ hf hI (lv_sub hl [0, 1, 2, 3, 4] rfl)
        · replace hf := zIf c_89 hf
          refine lv_aload_n hx hb dX3_grown_92 rfl (lv_at hl 0 rfl) ?_
          refine va_get (D := D) (ci := 3) (v := .ref (ad 11)) (C := RX3) (T := TX3) (N := 27) hx hb hts hiX3 hown hK hI.1 0 rfl rfl 26 (by decide) (hts (.fieldLink RX3 46 "NoughtSumsModel" "isDone" "[Z") (by decide +kernel)) (fun _ h9 => h9) rfl dX3_grown_93 ?_
          refine lv_iload hx hb dX3_grown_96 (lv_at hl 4 rfl) ?_
          obtain ⟨g_98, hf⟩ := zGI_s hf
          refine va_zald (f := (m_isDone S)) hx hb hK hI.1 11 10 rfl rfl g_98 dX3_grown_98 ?_
          refine lv_if_ne (tgt := 115) hx hb dX3_grown_99 (by decide) (fun c_99 => ?_) (fun c_99 => ?_)
          · replace hf := zIf c_99 hf
            exact hb115 k2 hk2 k64 hk64 (fX3_grown_b75L k2 k64 n) ih v1 v3 v4 v5 S _ _ _ hf hI (lv_sub hl [0, 1, 2, 3, 4] rfl)
          · replace hf := zIt c_99 hf
            refine lv_iload hx hb dX3_grown_102 (lv_at hl 4 rfl) ?_
            obtain ⟨r_104, hf_104, hf⟩ := zB1_s hf
            refine z_callS C 1 (kX3_letters l zq D v5 r_104 hf_104) gX3_grown_X3_letters rfl (by decide +kernel) ⟨by decide, by decide⟩ hI rfl hl.1 rfl (Nat.le_of_ble_eq_true rfl) dX3_grown_104 ⟨by decide, by decide⟩ (st2 := [.int r_104]) rfl (fun H locs hI => ?_)
            refine lv_iload_n hx hb dX3_grown_107 rfl (lv_at hl 2 rfl) ?_
            refine lv_icmp_ge (tgt := 115) hx hb dX3_grown_108 (by decide) (fun c_108 => ?_) (fun c_108 => ?_)
            · replace hf := zIt c_108 hf
              exact hb115 k2 hk2 k64 hk64 (fX3_grown_b75L k2 k64 n) ih v1 v3 v4 v5 S _ _ _ hf hI (lv_sub hl [0, 1, 2, 3, 4] rfl)
            · replace hf := zIf c_108 hf
              refine lv_iconst (v := 1) hx hb dX3_grown_111 (by decide) ?_
              refine lv_goto (tgt := 116) hx hb dX3_grown_112 (by decide) ?_
              exact hb116 k2 hk2 k64 hk64 (fX3_grown_b75L k2 k64 n) ih v1 v3 v4 v5 (1 : Int32) S _ _ _ hf hI (lv_sub hl [0, 1, 2, 3, 4] rfl)
  have hb64 : ∀ (k2 : Int64 → Int32 → MS → Option (Int32 × MS)) (hk2 : ∀ (v1 : Int64) (v3 : Int32) (S : MS) (H : Heap) (locs : List Loc) (ls : Array Slot), k2 v1 v3 S = some (r, S') → zI D A s H locs (wM cy ad S) → lv_has ls 8 [(0, .ref (ad 0)), (1, .long v1), (3, .int v3)] → W p l e { frames := 3, cells := 0, slots := 0, locals := 73 } s m args below meth c H locs 0 0 Q (F0 m 2 ls [])) (n : Nat), ∀ (v1 : Int64) (v3 : Int32) (v4 : Int32) (S : MS) (H : Heap) (locs : List Loc) (ls : Array Slot), fX3_grown_b64L k2 n v1 v3 v4 S = some (r, S') → zI D A s H locs (wM cy ad S) → lv_has ls 8 [(0, .ref (ad 0)), (1, .long v1), (3, .int v3), (4, .int v4)] → W p l e { frames := 3, cells := 0, slots := 0, locals := 73 } s m args below meth c H locs 0 0 Q (F0 m 64 ls []) := by
    intro k2 hk2 n
    induction n with
    | zero => intro v1 v3 v4 S H locs ls hf; cases (show (none : Option (Int32 × MS)) = some (r, S') from hf)
    | succ n ih =>
      intro v1 v3 v4 S H locs ls hf hI hl
      have hf : fX3_grown_b64 k2 (fX3_grown_b64L k2 n) v1 v3 v4 S = some (r, S') := hf
      unfold fX3_grown_b64 at hf
      refine lv_iload hx hb dX3_grown_64 (lv_at hl 3 rfl) ?_
      refine lv_if_eq (tgt := 186) hx hb dX3_grown_66 (by decide) (fun c_66 => ?_) (fun c_66 => ?_)
      · replace hf := zIt c_66 hf
        refine lv_aload_n hx hb dX3_grown_186 rfl (lv_at hl 0 rfl) ?_
        refine lv_lload_n hx hb dX3_grown_187 rfl (lv_at hl 1 rfl) ?_
        obtain ⟨r_188, S_188, hf_188, hf⟩ := zB2_s hf
        refine z_callV (w2 := (wM cy ad S_188)) C 1 (kX3_reduced l zq D cy ad v1 S S_188 r_188 hf_188) gX3_grown_X3_reduced rfl (by decide +kernel) ⟨by decide, by decide⟩ hI 0 rfl rfl rfl hl.1 rfl (Nat.le_of_ble_eq_true rfl) dX3_grown_188 ⟨by decide, by decide⟩ (st2 := [.long r_188]) rfl (fun H locs hI => ?_)
        refine lv_lconst (v := 0) hx hb dX3_grown_191 (by decide) ?_
        refine W.lcmp hx hb dX3_grown_192 ?_
        refine lv_if_ne (tgt := 198) hx hb dX3_grown_193 (by decide) (fun c_193 => ?_) (fun c_193 => ?_)
        · replace hf := zIf c_193 hf
          refine lv_iinc (v := (v3 + (1 : Int32))) (lv' := [(3, .int (v3 + (1 : Int32))), (0, .ref (ad 0)), (1, .long v1), (4, .int v4)]) hx hb dX3_grown_198 hl (k := 2) rfl rfl (by decide) rfl (fun ls hl => ?_)
          refine lv_goto (tgt := 2) hx hb dX3_grown_201 (by decide) ?_
          exact hk2 v1 (v3 + (1 : Int32)) S_188 _ _ _ hf hI (lv_sub hl [1, 2, 0] rfl)
        · replace hf := zIt c_193 hf
          refine lv_iload_n hx hb dX3_grown_196 rfl (lv_at hl 2 rfl) ?_
          obtain ⟨h1, h2⟩ := zP2 hf
          rw [hQ]
          exact z_iret C (by rw [h2]; exact hI) (by rw [h1]) dX3_grown_197
      · replace hf := zIf c_66 hf
        refine lv_iconst (v := 0) hx hb dX3_grown_69 (by decide) ?_
        refine lv_istore (lv' := [(4, .int (0 : Int32)), (0, .ref (ad 0)), (1, .long v1), (3, .int v3)]) hx hb dX3_grown_70 hl (by decide) rfl (fun ls hl => ?_)
        refine lv_iconst (v := 0) hx hb dX3_grown_72 (by decide) ?_
        refine lv_istore (lv' := [(5, .int (0 : Int32)), (4, .int (0 : Int32)), (0, .ref (ad 0)), (1, .long v1), (3, .int v3)]) hx hb dX3_grown_73 hl (by decide) rfl (fun ls hl => ?_)
        exact hb75 k2 hk2 (fX3_grown_b64L k2 n) ih zF v1 v3 (0 : Int32) (0 : Int32) S _ _ _ hf hI (lv_sub hl [2, 3, 4, 1, 0] rfl)
  have hb55 : ∀ (k2 : Int64 → Int32 → MS → Option (Int32 × MS)) (hk2 : ∀ (v1 : Int64) (v3 : Int32) (S : MS) (H : Heap) (locs : List Loc) (ls : Array Slot), k2 v1 v3 S = some (r, S') → zI D A s H locs (wM cy ad S) → lv_has ls 8 [(0, .ref (ad 0)), (1, .long v1), (3, .int v3)] → W p l e { frames := 3, cells := 0, slots := 0, locals := 73 } s m args below meth c H locs 0 0 Q (F0 m 2 ls [])) (k15 : Int64 → Int32 → Int32 → MS → Option (Int32 × MS)) (hk15 : ∀ (v1 : Int64) (v3 : Int32) (v4 : Int32) (S : MS) (H : Heap) (locs : List Loc) (ls : Array Slot), k15 v1 v3 v4 S = some (r, S') → zI D A s H locs (wM cy ad S) → lv_has ls 8 [(0, .ref (ad 0)), (1, .long v1), (3, .int v3), (4, .int v4)] → W p l e { frames := 3, cells := 0, slots := 0, locals := 73 } s m args below meth c H locs 0 0 Q (F0 m 15 ls [])), ∀ (v1 : Int64) (v3 : Int32) (v4 : Int32) (S : MS) (H : Heap) (locs : List Loc) (ls : Array Slot), fX3_grown_b55 k2 k15 v1 v3 v4 S = some (r, S') → zI D A s H locs (wM cy ad S) → lv_has ls 8 [(0, .ref (ad 0)), (1, .long v1), (3, .int v3), (4, .int v4)] → W p l e { frames := 3, cells := 0, slots := 0, locals := 73 } s m args below meth c H locs 0 0 Q (F0 m 55 ls []) := by
    intro k2 hk2 k15 hk15 v1 v3 v4 S H locs ls hf hI hl
    unfold fX3_grown_b55 at hf
    refine lv_iinc (v := (v4 + (1 : Int32))) (lv' := [(4, .int (v4 + (1 : Int32))), (0, .ref (ad 0)), (1, .long v1), (3, .int v3)]) hx hb dX3_grown_55 hl (k := 3) rfl rfl (by decide) rfl (fun ls hl => ?_)
    refine lv_goto (tgt := 15) hx hb dX3_grown_58 (by decide) ?_
    exact hk15 v1 v3 (v4 + (1 : Int32)) S _ _ _ hf hI (lv_sub hl [1, 2, 3, 0] rfl)
  have hb15 : ∀ (k2 : Int64 → Int32 → MS → Option (Int32 × MS)) (hk2 : ∀ (v1 : Int64) (v3 : Int32) (S : MS) (H : Heap) (locs : List Loc) (ls : Array Slot), k2 v1 v3 S = some (r, S') → zI D A s H locs (wM cy ad S) → lv_has ls 8 [(0, .ref (ad 0)), (1, .long v1), (3, .int v3)] → W p l e { frames := 3, cells := 0, slots := 0, locals := 73 } s m args below meth c H locs 0 0 Q (F0 m 2 ls [])) (n : Nat), ∀ (v1 : Int64) (v3 : Int32) (v4 : Int32) (S : MS) (H : Heap) (locs : List Loc) (ls : Array Slot), fX3_grown_b15L k2 n v1 v3 v4 S = some (r, S') → zI D A s H locs (wM cy ad S) → lv_has ls 8 [(0, .ref (ad 0)), (1, .long v1), (3, .int v3), (4, .int v4)] → W p l e { frames := 3, cells := 0, slots := 0, locals := 73 } s m args below meth c H locs 0 0 Q (F0 m 15 ls []) := by
    intro k2 hk2 n
    induction n with
    | zero => intro v1 v3 v4 S H locs ls hf; cases (show (none : Option (Int32 × MS)) = some (r, S') from hf)
    | succ n ih =>
      intro v1 v3 v4 S H locs ls hf hI hl
      have hf : fX3_grown_b15 k2 (fX3_grown_b15L k2 n) v1 v3 v4 S = some (r, S') := hf
      unfold fX3_grown_b15 at hf
      refine lv_iload hx hb dX3_grown_15 (lv_at hl 3 rfl) ?_
      refine lv_aload_n hx hb dX3_grown_17 rfl (lv_at hl 0 rfl) ?_
      refine va_get (D := D) (ci := 3) (v := .int (m_given S)) (C := RX3) (T := TX3) (N := 27) hx hb hts hiX3 hown hK hI.1 0 rfl rfl 10 (by decide) (hts (.fieldLink RX3 129 "NoughtSumsModel" "given" "I") (by decide +kernel)) (fun _ h9 => h9) rfl dX3_grown_18 ?_
      refine lv_icmp_ge (tgt := 61) hx hb dX3_grown_21 (by decide) (fun c_21 => ?_) (fun c_21 => ?_)
      · replace hf := zIt c_21 hf
        refine lv_iconst (v := 1) hx hb dX3_grown_61 (by decide) ?_
        refine lv_istore (lv' := [(4, .int (1 : Int32)), (0, .ref (ad 0)), (1, .long v1), (3, .int v3)]) hx hb dX3_grown_62 hl (by decide) rfl (fun ls hl => ?_)
        exact hb64 k2 hk2 zF v1 v3 (1 : Int32) S _ _ _ hf hI (lv_sub hl [1, 2, 3, 0] rfl)
      · replace hf := zIf c_21 hf
        refine lv_aload_n hx hb dX3_grown_24 rfl (lv_at hl 0 rfl) ?_
        refine lv_aload_n hx hb dX3_grown_25 rfl (lv_at hl 0 rfl) ?_
        refine va_get (D := D) (ci := 3) (v := .ref (ad 3)) (C := RX3) (T := TX3) (N := 27) hx hb hts hiX3 hown hK hI.1 0 rfl rfl 14 (by decide) (hts (.fieldLink RX3 20 "NoughtSumsModel" "line" "[J") (by decide +kernel)) (fun _ h9 => h9) rfl dX3_grown_26 ?_
        refine lv_iload hx hb dX3_grown_29 (lv_at hl 3 rfl) ?_
        obtain ⟨g_31, hf⟩ := zGI_s hf
        refine va_lald (f := (m_line S)) hx hb hK hI.1 3 2 rfl rfl g_31 dX3_grown_31 ?_
        obtain ⟨r_32, S_32, hf_32, hf⟩ := zB2_s hf
        refine z_callV (w2 := (wM cy ad S_32)) C 1 (kX3_degreeOf l zq D cy ad ((m_line S) v4.toNatClampNeg) S S_32 r_32 hf_32) gX3_grown_X3_degreeOf rfl (by decide +kernel) ⟨by decide, by decide⟩ hI 0 rfl rfl rfl hl.1 rfl (Nat.le_of_ble_eq_true rfl) dX3_grown_32 ⟨by decide, by decide⟩ (st2 := [.int r_32]) rfl (fun H locs hI => ?_)
        refine lv_iconst (v := 0) hx hb dX3_grown_35 (by decide) ?_
        refine lv_iload_n hx hb dX3_grown_36 rfl (lv_at hl 2 rfl) ?_
        obtain ⟨r_37, hf_37, hf⟩ := zB1_s hf
        refine z_callS C 3 (kX3_in l zq D r_32 (0 : Int32) v3 r_37 hf_37) gX3_grown_X3_in rfl (by decide +kernel) ⟨by decide, by decide⟩ hI rfl hl.1 rfl (Nat.le_of_ble_eq_true rfl) dX3_grown_37 ⟨by decide, by decide⟩ (st2 := [.int r_37]) rfl (fun H locs hI => ?_)
        refine lv_if_eq (tgt := 55) hx hb dX3_grown_40 (by decide) (fun c_40 => ?_) (fun c_40 => ?_)
        · replace hf := zIt c_40 hf
          exact hb55 k2 hk2 (fX3_grown_b15L k2 n) ih v1 v3 v4 S_32 _ _ _ hf hI (lv_sub hl [0, 1, 2, 3] rfl)
        · replace hf := zIf c_40 hf
          refine lv_aload_n hx hb dX3_grown_43 rfl (lv_at hl 0 rfl) ?_
          refine lv_aload_n hx hb dX3_grown_44 rfl (lv_at hl 0 rfl) ?_
          refine va_get (D := D) (ci := 3) (v := .ref (ad 3)) (C := RX3) (T := TX3) (N := 27) hx hb hts hiX3 hown hK hI.1 0 rfl rfl 14 (by decide) (hts (.fieldLink RX3 20 "NoughtSumsModel" "line" "[J") (by decide +kernel)) (fun _ h9 => h9) rfl dX3_grown_45 ?_
          refine lv_iload hx hb dX3_grown_48 (lv_at hl 3 rfl) ?_
          obtain ⟨g_50, hf⟩ := zGI_s hf
          refine va_lald (f := (m_line S_32)) hx hb hK hI.1 3 2 rfl rfl g_50 dX3_grown_50 ?_
          obtain ⟨r_51, S_51, hf_51, hf⟩ := zB2_s hf
          refine z_callV (w2 := (wM cy ad S_51)) C 1 (kX3_joins l zq D cy ad ((m_line S_32) v4.toNatClampNeg) S_32 S_51 r_51 hf_51) gX3_grown_X3_joins rfl (by decide +kernel) ⟨by decide, by decide⟩ hI 0 rfl rfl rfl hl.1 rfl (Nat.le_of_ble_eq_true rfl) dX3_grown_51 ⟨by decide, by decide⟩ (st2 := [.int r_51]) rfl (fun H locs hI => ?_)
          refine lv_pop hx hb dX3_grown_54 rfl ?_
          exact hb55 k2 hk2 (fX3_grown_b15L k2 n) ih v1 v3 v4 S_51 _ _ _ hf hI (lv_sub hl [0, 1, 2, 3] rfl)
  have hb2 : ∀ (n : Nat), ∀ (v1 : Int64) (v3 : Int32) (S : MS) (H : Heap) (locs : List Loc) (ls : Array Slot), fX3_grown_b2L n v1 v3 S = some (r, S') → zI D A s H locs (wM cy ad S) → lv_has ls 8 [(0, .ref (ad 0)), (1, .long v1), (3, .int v3)] → W p l e { frames := 3, cells := 0, slots := 0, locals := 73 } s m args below meth c H locs 0 0 Q (F0 m 2 ls []) := by
    intro n
    induction n with
    | zero => intro v1 v3 S H locs ls hf; cases (show (none : Option (Int32 × MS)) = some (r, S') from hf)
    | succ n ih =>
      intro v1 v3 S H locs ls hf hI hl
      have hf : fX3_grown_b2 (fX3_grown_b2L n) v1 v3 S = some (r, S') := hf
      unfold fX3_grown_b2 at hf
      refine lv_iload_n hx hb dX3_grown_2 rfl (lv_at hl 2 rfl) ?_
      refine lv_bipush (v := 7) hx hb dX3_grown_3 (by decide) ?_
      refine lv_icmp_ge (tgt := 204) hx hb dX3_grown_5 (by decide) (fun c_5 => ?_) (fun c_5 => ?_)
      · replace hf := zIt c_5 hf
        refine lv_bipush (v := -9) hx hb dX3_grown_204 (by decide) ?_
        obtain ⟨h1, h2⟩ := zP2 hf
        rw [hQ]
        exact z_iret C (by rw [h2]; exact hI) (by rw [h1]) dX3_grown_206
      · replace hf := zIf c_5 hf
        refine lv_aload_n hx hb dX3_grown_8 rfl (lv_at hl 0 rfl) ?_
        obtain ⟨S_9, hf_9, hf⟩ := zB1_s hf
        refine z_callV (w2 := (wM cy ad S_9)) C 0 (kX3_forgets l zq D cy ad S S_9 hf_9) gX3_grown_X3_forgets rfl (by decide +kernel) ⟨by decide, by decide⟩ hI 0 rfl rfl rfl hl.1 rfl (Nat.le_of_ble_eq_true rfl) dX3_grown_9 ⟨by decide, by decide⟩ (st2 := []) rfl (fun H locs hI => ?_)
        refine lv_iconst (v := 0) hx hb dX3_grown_12 (by decide) ?_
        refine lv_istore (lv' := [(4, .int (0 : Int32)), (0, .ref (ad 0)), (1, .long v1), (3, .int v3)]) hx hb dX3_grown_13 hl (by decide) rfl (fun ls hl => ?_)
        exact hb15 (fX3_grown_b2L n) ih zF v1 v3 (0 : Int32) S_9 _ _ _ hf hI (lv_sub hl [1, 2, 3, 0] rfl)
  unfold fX3_grown at hf
  refine lv_iconst (v := 0) hx hb dX3_grown_0 (by decide) ?_
  refine lv_istore_n (lv' := [(3, .int (0 : Int32)), (0, .ref (ad 0)), (1, .long a1)]) hx hb dX3_grown_1 rfl hl (by decide) rfl (fun ls hl => ?_)
  exact hb2 zF a1 (0 : Int32) S _ _ _ hf hI (lv_sub hl [1, 2, 0] rfl)

def fX3_deep (a1 : Int32) (a2 : Int32) (S : MS) : Option (Int32 × MS) :=
(zL (m_thrown_u S (0 : Int32)) (fun S_2 =>
(zB2 (fX3_isLine a1 S_2) (fun r_7 S_7 =>
(if r_7 = 0 then some ((-1 : Int32), S_7) else
(zB1 (fX3_in a2 (0 : Int32) (1 : Int32)) (fun r_16 =>
(if r_16 = 0 then some ((-1 : Int32), S_7) else
(if a2 = 0 then (zGI a1 32
((zB2 (fX3_atOnce ((m_line S_7) a1.toNatClampNeg) S_7) (fun r_37 S_37 =>
some (r_37, S_37))))) else
(zGI a1 32
((zB2 (fX3_grown ((m_line S_7) a1.toNatClampNeg) S_7) (fun r_50 S_50 =>
some (r_50, S_50))))))))))))))
set_option maxHeartbeats 4000000 in
set_option maxRecDepth 100000 in
theorem kX3_deep (l : Launch) (zq : Nat → Nat) (D : va_G) (cy : Nat → ClassId) (ad : Nat → Nat) (a1 : Int32) (a2 : Int32) (S S' : MS) (r : Int32) (hf : fX3_deep a1 a2 S = some (r, S')) : zMet l yX3_deep wsX3_deep 4 100 zq D (tM cy) (wM cy ad S) [.ref (ad 0), .int a1, .int a2] (some (.int r)) (wM cy ad S') := by
  refine zMet.of cX3_deep 3 (some .int) (by decide) rfl (Nat.le_of_ble_eq_true rfl) ?_
  intro p e s m args below meth c A ls C hl hI
  have hl : lv_has ls 3 [(0, .ref (ad 0)), (1, .int a1), (2, .int a2)] := hl
  have C : zC p s m args meth c cX3_deep 3 (some .int) RX3 wsX3_deep D (tM cy) zq A := C
  obtain ⟨hx, hb, hml, hown, hts, hret, hlk, hK, hX, hA⟩ := id C
  have hiX3 : ∀ w ∈ wsX30, w ∈ wsX3_deep := by decide +kernel
  obtain ⟨Q, hQ⟩ : ∃ Q, Q = MQ below (zQ D (tM cy) (wM cy ad S') (some (.int r)) A) args s 0 0 A := ⟨_, rfl⟩
  rw [← hQ]
  unfold fX3_deep at hf
  refine lv_aload_n hx hb dX3_deep_0 rfl (lv_at hl 0 rfl) ?_
  refine lv_iconst (v := 0) hx hb dX3_deep_1 (by decide) ?_
  obtain ⟨S_2, eS_2, hf⟩ := zL_e hf
  refine z_put (D := D) (ci := 3) (v := .int (0 : Int32)) (ty := .int) (C := RX3) (T := TX3) (N := 27) (w2 := (wM cy ad S_2)) hx hb hts hiX3 tyX3 tyX3_ok nmX3 hown hK hI 0 rfl rfl 0 (by decide) (hts (.fieldLink RX3 56 "NoughtSumsModel" "thrown" "I") (by decide +kernel)) (fun _ h9 => h9) rfl (by decide +kernel) rfl rfl (Nat.le_of_ble_eq_true rfl) dX3_deep_2 (by rw [eS_2]; rfl) (fun H locs hI => ?_)
  refine lv_aload_n hx hb dX3_deep_5 rfl (lv_at hl 0 rfl) ?_
  refine lv_iload_n hx hb dX3_deep_6 rfl (lv_at hl 1 rfl) ?_
  obtain ⟨r_7, S_7, hf_7, hf⟩ := zB2_s hf
  refine z_callV (w2 := (wM cy ad S_7)) C 1 (kX3_isLine l zq D cy ad a1 S_2 S_7 r_7 hf_7) gX3_deep_X3_isLine rfl (by decide +kernel) ⟨by decide, by decide⟩ hI 0 rfl rfl rfl hl.1 rfl (Nat.le_of_ble_eq_true rfl) dX3_deep_7 ⟨by decide, by decide⟩ (st2 := [.int r_7]) rfl (fun H locs hI => ?_)
  refine lv_if_eq (tgt := 22) hx hb dX3_deep_10 (by decide) (fun c_10 => ?_) (fun c_10 => ?_)
  · replace hf := zIt c_10 hf
    refine lv_iconst (v := -1) hx hb dX3_deep_22 (by decide) ?_
    refine lv_goto (tgt := 53) hx hb dX3_deep_23 (by decide) ?_
    obtain ⟨h1, h2⟩ := zP2 hf
    rw [hQ]
    exact z_iret C (by rw [h2]; exact hI) (by rw [h1]) dX3_deep_53
  · replace hf := zIf c_10 hf
    refine lv_iload_n hx hb dX3_deep_13 rfl (lv_at hl 2 rfl) ?_
    refine lv_iconst (v := 0) hx hb dX3_deep_14 (by decide) ?_
    refine lv_iconst (v := 1) hx hb dX3_deep_15 (by decide) ?_
    obtain ⟨r_16, hf_16, hf⟩ := zB1_s hf
    refine z_callS C 3 (kX3_in l zq D a2 (0 : Int32) (1 : Int32) r_16 hf_16) gX3_deep_X3_in rfl (by decide +kernel) ⟨by decide, by decide⟩ hI rfl hl.1 rfl (Nat.le_of_ble_eq_true rfl) dX3_deep_16 ⟨by decide, by decide⟩ (st2 := [.int r_16]) rfl (fun H locs hI => ?_)
    refine lv_if_ne (tgt := 26) hx hb dX3_deep_19 (by decide) (fun c_19 => ?_) (fun c_19 => ?_)
    · replace hf := zIf c_19 hf
      refine lv_iload_n hx hb dX3_deep_26 rfl (lv_at hl 2 rfl) ?_
      refine lv_if_ne (tgt := 43) hx hb dX3_deep_27 (by decide) (fun c_27 => ?_) (fun c_27 => ?_)
      · replace hf := zIf c_27 hf
        refine lv_aload_n hx hb dX3_deep_43 rfl (lv_at hl 0 rfl) ?_
        refine lv_aload_n hx hb dX3_deep_44 rfl (lv_at hl 0 rfl) ?_
        refine va_get (D := D) (ci := 3) (v := .ref (ad 3)) (C := RX3) (T := TX3) (N := 27) hx hb hts hiX3 hown hK hI.1 0 rfl rfl 14 (by decide) (hts (.fieldLink RX3 20 "NoughtSumsModel" "line" "[J") (by decide +kernel)) (fun _ h9 => h9) rfl dX3_deep_45 ?_
        refine lv_iload_n hx hb dX3_deep_48 rfl (lv_at hl 1 rfl) ?_
        obtain ⟨g_49, hf⟩ := zGI_s hf
        refine va_lald (f := (m_line S_7)) hx hb hK hI.1 3 2 rfl rfl g_49 dX3_deep_49 ?_
        obtain ⟨r_50, S_50, hf_50, hf⟩ := zB2_s hf
        refine z_callV (w2 := (wM cy ad S_50)) C 1 (kX3_grown l zq D cy ad ((m_line S_7) a1.toNatClampNeg) S_7 S_50 r_50 hf_50) gX3_deep_X3_grown rfl (by decide +kernel) ⟨by decide, by decide⟩ hI 0 rfl rfl rfl hl.1 rfl (Nat.le_of_ble_eq_true rfl) dX3_deep_50 ⟨by decide, by decide⟩ (st2 := [.int r_50]) rfl (fun H locs hI => ?_)
        obtain ⟨h1, h2⟩ := zP2 hf
        rw [hQ]
        exact z_iret C (by rw [h2]; exact hI) (by rw [h1]) dX3_deep_53
      · replace hf := zIt c_27 hf
        refine lv_aload_n hx hb dX3_deep_30 rfl (lv_at hl 0 rfl) ?_
        refine lv_aload_n hx hb dX3_deep_31 rfl (lv_at hl 0 rfl) ?_
        refine va_get (D := D) (ci := 3) (v := .ref (ad 3)) (C := RX3) (T := TX3) (N := 27) hx hb hts hiX3 hown hK hI.1 0 rfl rfl 14 (by decide) (hts (.fieldLink RX3 20 "NoughtSumsModel" "line" "[J") (by decide +kernel)) (fun _ h9 => h9) rfl dX3_deep_32 ?_
        refine lv_iload_n hx hb dX3_deep_35 rfl (lv_at hl 1 rfl) ?_
        obtain ⟨g_36, hf⟩ := zGI_s hf
        refine va_lald (f := (m_line S_7)) hx hb hK hI.1 3 2 rfl rfl g_36 dX3_deep_36 ?_
        obtain ⟨r_37, S_37, hf_37, hf⟩ := zB2_s hf
        refine z_callV (w2 := (wM cy ad S_37)) C 1 (kX3_atOnce l zq D cy ad ((m_line S_7) a1.toNatClampNeg) S_7 S_37 r_37 hf_37) gX3_deep_X3_atOnce rfl (by decide +kernel) ⟨by decide, by decide⟩ hI 0 rfl rfl rfl hl.1 rfl (Nat.le_of_ble_eq_true rfl) dX3_deep_37 ⟨by decide, by decide⟩ (st2 := [.int r_37]) rfl (fun H locs hI => ?_)
        refine lv_goto (tgt := 53) hx hb dX3_deep_40 (by decide) ?_
        obtain ⟨h1, h2⟩ := zP2 hf
        rw [hQ]
        exact z_iret C (by rw [h2]; exact hI) (by rw [h1]) dX3_deep_53
    · replace hf := zIt c_19 hf
      refine lv_iconst (v := -1) hx hb dX3_deep_22 (by decide) ?_
      refine lv_goto (tgt := 53) hx hb dX3_deep_23 (by decide) ?_
      obtain ⟨h1, h2⟩ := zP2 hf
      rw [hQ]
      exact z_iret C (by rw [h2]; exact hI) (by rw [h1]) dX3_deep_53

def fX3_needed_b139 (k45 : Int32 → Int64 → Int32 → Int32 → Int32 → MS → Option (Int32 × MS)) (v2 : Int32) (v3 : Int64) (v5 : Int32) (v6 : Int32) (v7 : Int32) (S : MS) : Option (Int32 × MS) :=
k45 v2 v3 v5 v6 (v7 + (1 : Int32)) S

def fX3_needed_b109 (k45 : Int32 → Int64 → Int32 → Int32 → Int32 → MS → Option (Int32 × MS)) (k67 : Int32 → Int64 → Int32 → Int32 → Int32 → Int64 → Int32 → Int32 → MS → Option (Int32 × MS)) (v2 : Int32) (v3 : Int64) (v5 : Int32) (v6 : Int32) (v7 : Int32) (v8 : Int64) (v10 : Int32) (v11 : Int32) (S : MS) : Option (Int32 × MS) :=
k67 v2 v3 v5 v6 v7 v8 v10 (v11 + (1 : Int32)) S

def fX3_needed_b67 (k45 : Int32 → Int64 → Int32 → Int32 → Int32 → MS → Option (Int32 × MS)) (k67 : Int32 → Int64 → Int32 → Int32 → Int32 → Int64 → Int32 → Int32 → MS → Option (Int32 × MS)) (v2 : Int32) (v3 : Int64) (v5 : Int32) (v6 : Int32) (v7 : Int32) (v8 : Int64) (v10 : Int32) (v11 : Int32) (S : MS) : Option (Int32 × MS) :=
(if (m_given S) ≤ v11 then (if v6 ≤ v10 then fX3_needed_b139 k45 v2 v3 v5 v6 v7 S else
(if (lg_cmp (v3 &&& v8) (0 : Int64)) = 0 then fX3_needed_b139 k45 v2 v3 v7 v10 v7 S else
fX3_needed_b139 k45 v2 v3 v5 v6 v7 S)) else
(if ((v7 >>> (v11 &&& 31)) &&& (1 : Int32)) = (1 : Int32) then (zGI v11 32
((zB1 (fX3_values ((m_line S) v11.toNatClampNeg)) (fun r_96 =>
fX3_needed_b109 k45 k67 v2 v3 v5 v6 v7 (v8 &&& (r_96 ^^^ (-1 : Int64))) (v10 + (1 : Int32)) v11 S)))) else
fX3_needed_b109 k45 k67 v2 v3 v5 v6 v7 v8 v10 v11 S))
def fX3_needed_b67L (k45 : Int32 → Int64 → Int32 → Int32 → Int32 → MS → Option (Int32 × MS)) : Nat → Int32 → Int64 → Int32 → Int32 → Int32 → Int64 → Int32 → Int32 → MS → Option (Int32 × MS)
  | 0, _, _, _, _, _, _, _, _, _ => none
  | n + 1, v2, v3, v5, v6, v7, v8, v10, v11, S => fX3_needed_b67 k45 (fX3_needed_b67L k45 n) v2 v3 v5 v6 v7 v8 v10 v11 S

def fX3_needed_b45 (k45 : Int32 → Int64 → Int32 → Int32 → Int32 → MS → Option (Int32 × MS)) (v2 : Int32) (v3 : Int64) (v5 : Int32) (v6 : Int32) (v7 : Int32) (S : MS) : Option (Int32 × MS) :=
(if ((1 : Int32) <<< ((m_given S) &&& 31)) ≤ v7 then (if v5 = (-9 : Int32) then some (v5, S) else
(if v2 = (1 : Int32) then some (v5, S) else
some (v6, S))) else
fX3_needed_b67L k45 zF v2 v3 v5 v6 v7 (-1 : Int64) (0 : Int32) (0 : Int32) S)
def fX3_needed_b45L : Nat → Int32 → Int64 → Int32 → Int32 → Int32 → MS → Option (Int32 × MS)
  | 0, _, _, _, _, _, _ => none
  | n + 1, v2, v3, v5, v6, v7, S => fX3_needed_b45 (fX3_needed_b45L n) v2 v3 v5 v6 v7 S

def fX3_needed (a1 : Int32) (a2 : Int32) (S : MS) : Option (Int32 × MS) :=
(zL (m_thrown_u S (0 : Int32)) (fun S_2 =>
(zB2 (fX3_isLine a1 S_2) (fun r_7 S_7 =>
(if r_7 = 0 then some ((-1 : Int32), S_7) else
(zB1 (fX3_in a2 (0 : Int32) (1 : Int32)) (fun r_16 =>
(if r_16 = 0 then some ((-1 : Int32), S_7) else
(zGI a1 32
((zB1 (fX3_values ((m_line S_7) a1.toNatClampNeg)) (fun r_30 =>
fX3_needed_b45L zF a2 r_30 (-9 : Int32) (9 : Int32) (0 : Int32) S_7))))))))))))
set_option maxHeartbeats 4000000 in
set_option maxRecDepth 100000 in
theorem kX3_needed (l : Launch) (zq : Nat → Nat) (D : va_G) (cy : Nat → ClassId) (ad : Nat → Nat) (a1 : Int32) (a2 : Int32) (S S' : MS) (r : Int32) (hf : fX3_needed a1 a2 S = some (r, S')) : zMet l yX3_needed wsX3_needed 2 49 zq D (tM cy) (wM cy ad S) [.ref (ad 0), .int a1, .int a2] (some (.int r)) (wM cy ad S') := by
  refine zMet.of cX3_needed 12 (some .int) (by decide) rfl (Nat.le_of_ble_eq_true rfl) ?_
  intro p e s m args below meth c A ls C hl hI
  have hl : lv_has ls 12 [(0, .ref (ad 0)), (1, .int a1), (2, .int a2)] := hl
  have C : zC p s m args meth c cX3_needed 12 (some .int) RX3 wsX3_needed D (tM cy) zq A := C
  obtain ⟨hx, hb, hml, hown, hts, hret, hlk, hK, hX, hA⟩ := id C
  have hiX3 : ∀ w ∈ wsX30, w ∈ wsX3_needed := by decide +kernel
  obtain ⟨Q, hQ⟩ : ∃ Q, Q = MQ below (zQ D (tM cy) (wM cy ad S') (some (.int r)) A) args s 0 0 A := ⟨_, rfl⟩
  rw [← hQ]
  have hb139 : ∀ (k45 : Int32 → Int64 → Int32 → Int32 → Int32 → MS → Option (Int32 × MS)) (hk45 : ∀ (v2 : Int32) (v3 : Int64) (v5 : Int32) (v6 : Int32) (v7 : Int32) (S : MS) (H : Heap) (locs : List Loc) (ls : Array Slot), k45 v2 v3 v5 v6 v7 S = some (r, S') → zI D A s H locs (wM cy ad S) → lv_has ls 12 [(0, .ref (ad 0)), (2, .int v2), (3, .long v3), (5, .int v5), (6, .int v6), (7, .int v7)] → W p l e { frames := 2, cells := 0, slots := 0, locals := 49 } s m args below meth c H locs 0 0 Q (F0 m 45 ls [])), ∀ (v2 : Int32) (v3 : Int64) (v5 : Int32) (v6 : Int32) (v7 : Int32) (S : MS) (H : Heap) (locs : List Loc) (ls : Array Slot), fX3_needed_b139 k45 v2 v3 v5 v6 v7 S = some (r, S') → zI D A s H locs (wM cy ad S) → lv_has ls 12 [(0, .ref (ad 0)), (2, .int v2), (3, .long v3), (5, .int v5), (6, .int v6), (7, .int v7)] → W p l e { frames := 2, cells := 0, slots := 0, locals := 49 } s m args below meth c H locs 0 0 Q (F0 m 139 ls []) := by
    intro k45 hk45 v2 v3 v5 v6 v7 S H locs ls hf hI hl
    unfold fX3_needed_b139 at hf
    refine lv_iinc (v := (v7 + (1 : Int32))) (lv' := [(7, .int (v7 + (1 : Int32))), (0, .ref (ad 0)), (2, .int v2), (3, .long v3), (5, .int v5), (6, .int v6)]) hx hb dX3_needed_139 hl (k := 5) rfl rfl (by decide) rfl (fun ls hl => ?_)
    refine lv_goto (tgt := 45) hx hb dX3_needed_142 (by decide) ?_
    exact hk45 v2 v3 v5 v6 (v7 + (1 : Int32)) S _ _ _ hf hI (lv_sub hl [1, 2, 3, 4, 5, 0] rfl)
  have hb109 : ∀ (k45 : Int32 → Int64 → Int32 → Int32 → Int32 → MS → Option (Int32 × MS)) (hk45 : ∀ (v2 : Int32) (v3 : Int64) (v5 : Int32) (v6 : Int32) (v7 : Int32) (S : MS) (H : Heap) (locs : List Loc) (ls : Array Slot), k45 v2 v3 v5 v6 v7 S = some (r, S') → zI D A s H locs (wM cy ad S) → lv_has ls 12 [(0, .ref (ad 0)), (2, .int v2), (3, .long v3), (5, .int v5), (6, .int v6), (7, .int v7)] → W p l e { frames := 2, cells := 0, slots := 0, locals := 49 } s m args below meth c H locs 0 0 Q (F0 m 45 ls [])) (k67 : Int32 → Int64 → Int32 → Int32 → Int32 → Int64 → Int32 → Int32 → MS → Option (Int32 × MS)) (hk67 : ∀ (v2 : Int32) (v3 : Int64) (v5 : Int32) (v6 : Int32) (v7 : Int32) (v8 : Int64) (v10 : Int32) (v11 : Int32) (S : MS) (H : Heap) (locs : List Loc) (ls : Array Slot), k67 v2 v3 v5 v6 v7 v8 v10 v11 S = some (r, S') → zI D A s H locs (wM cy ad S) → lv_has ls 12 [(0, .ref (ad 0)), (2, .int v2), (3, .long v3), (5, .int v5), (6, .int v6), (7, .int v7), (8, .long v8), (10, .int v10), (11, .int v11)] → W p l e { frames := 2, cells := 0, slots := 0, locals := 49 } s m args below meth c H locs 0 0 Q (F0 m 67 ls [])), ∀ (v2 : Int32) (v3 : Int64) (v5 : Int32) (v6 : Int32) (v7 : Int32) (v8 : Int64) (v10 : Int32) (v11 : Int32) (S : MS) (H : Heap) (locs : List Loc) (ls : Array Slot), fX3_needed_b109 k45 k67 v2 v3 v5 v6 v7 v8 v10 v11 S = some (r, S') → zI D A s H locs (wM cy ad S) → lv_has ls 12 [(0, .ref (ad 0)), (2, .int v2), (3, .long v3), (5, .int v5), (6, .int v6), (7, .int v7), (8, .long v8), (10, .int v10), (11, .int v11)] → W p l e { frames := 2, cells := 0, slots := 0, locals := 49 } s m args below meth c H locs 0 0 Q (F0 m 109 ls []) := by
    intro k45 hk45 k67 hk67 v2 v3 v5 v6 v7 v8 v10 v11 S H locs ls hf hI hl
    unfold fX3_needed_b109 at hf
    refine lv_iinc (v := (v11 + (1 : Int32))) (lv' := [(11, .int (v11 + (1 : Int32))), (0, .ref (ad 0)), (2, .int v2), (3, .long v3), (5, .int v5), (6, .int v6), (7, .int v7), (8, .long v8), (10, .int v10)]) hx hb dX3_needed_109 hl (k := 8) rfl rfl (by decide) rfl (fun ls hl => ?_)
    refine lv_goto (tgt := 67) hx hb dX3_needed_112 (by decide) ?_
    exact hk67 v2 v3 v5 v6 v7 v8 v10 (v11 + (1 : Int32)) S _ _ _ hf hI (lv_sub hl [1, 2, 3, 4, 5, 6, 7, 8, 0] rfl)
  have hb67 : ∀ (k45 : Int32 → Int64 → Int32 → Int32 → Int32 → MS → Option (Int32 × MS)) (hk45 : ∀ (v2 : Int32) (v3 : Int64) (v5 : Int32) (v6 : Int32) (v7 : Int32) (S : MS) (H : Heap) (locs : List Loc) (ls : Array Slot), k45 v2 v3 v5 v6 v7 S = some (r, S') → zI D A s H locs (wM cy ad S) → lv_has ls 12 [(0, .ref (ad 0)), (2, .int v2), (3, .long v3), (5, .int v5), (6, .int v6), (7, .int v7)] → W p l e { frames := 2, cells := 0, slots := 0, locals := 49 } s m args below meth c H locs 0 0 Q (F0 m 45 ls [])) (n : Nat), ∀ (v2 : Int32) (v3 : Int64) (v5 : Int32) (v6 : Int32) (v7 : Int32) (v8 : Int64) (v10 : Int32) (v11 : Int32) (S : MS) (H : Heap) (locs : List Loc) (ls : Array Slot), fX3_needed_b67L k45 n v2 v3 v5 v6 v7 v8 v10 v11 S = some (r, S') → zI D A s H locs (wM cy ad S) → lv_has ls 12 [(0, .ref (ad 0)), (2, .int v2), (3, .long v3), (5, .int v5), (6, .int v6), (7, .int v7), (8, .long v8), (10, .int v10), (11, .int v11)] → W p l e { frames := 2, cells := 0, slots := 0, locals := 49 } s m args below meth c H locs 0 0 Q (F0 m 67 ls []) := by
    intro k45 hk45 n
    induction n with
    | zero => intro v2 v3 v5 v6 v7 v8 v10 v11 S H locs ls hf; cases (show (none : Option (Int32 × MS)) = some (r, S') from hf)
    | succ n ih =>
      intro v2 v3 v5 v6 v7 v8 v10 v11 S H locs ls hf hI hl
      have hf : fX3_needed_b67 k45 (fX3_needed_b67L k45 n) v2 v3 v5 v6 v7 v8 v10 v11 S = some (r, S') := hf
      unfold fX3_needed_b67 at hf
      refine lv_iload hx hb dX3_needed_67 (lv_at hl 8 rfl) ?_
      refine lv_aload_n hx hb dX3_needed_69 rfl (lv_at hl 0 rfl) ?_
      refine va_get (D := D) (ci := 3) (v := .int (m_given S)) (C := RX3) (T := TX3) (N := 27) hx hb hts hiX3 hown hK hI.1 0 rfl rfl 10 (by decide) (hts (.fieldLink RX3 129 "NoughtSumsModel" "given" "I") (by decide +kernel)) (fun _ h9 => h9) rfl dX3_needed_70 ?_
      refine lv_icmp_ge (tgt := 115) hx hb dX3_needed_73 (by decide) (fun c_73 => ?_) (fun c_73 => ?_)
      · replace hf := zIt c_73 hf
        refine lv_iload hx hb dX3_needed_115 (lv_at hl 7 rfl) ?_
        refine lv_iload hx hb dX3_needed_117 (lv_at hl 4 rfl) ?_
        refine lv_icmp_ge (tgt := 139) hx hb dX3_needed_119 (by decide) (fun c_119 => ?_) (fun c_119 => ?_)
        · replace hf := zIt c_119 hf
          exact hb139 k45 hk45 v2 v3 v5 v6 v7 S _ _ _ hf hI (lv_sub hl [0, 1, 2, 3, 4, 5] rfl)
        · replace hf := zIf c_119 hf
          refine lv_lload_n hx hb dX3_needed_122 rfl (lv_at hl 2 rfl) ?_
          refine lv_lload hx hb dX3_needed_123 (lv_at hl 6 rfl) ?_
          refine lv_land hx hb dX3_needed_125 ?_
          refine lv_lconst (v := 0) hx hb dX3_needed_126 (by decide) ?_
          refine W.lcmp hx hb dX3_needed_127 ?_
          refine lv_if_ne (tgt := 139) hx hb dX3_needed_128 (by decide) (fun c_128 => ?_) (fun c_128 => ?_)
          · replace hf := zIf c_128 hf
            exact hb139 k45 hk45 v2 v3 v5 v6 v7 S _ _ _ hf hI (lv_sub hl [0, 1, 2, 3, 4, 5] rfl)
          · replace hf := zIt c_128 hf
            refine lv_iload hx hb dX3_needed_131 (lv_at hl 7 rfl) ?_
            refine lv_istore (lv' := [(6, .int v10), (0, .ref (ad 0)), (2, .int v2), (3, .long v3), (5, .int v5), (7, .int v7), (8, .long v8), (10, .int v10), (11, .int v11)]) hx hb dX3_needed_133 hl (by decide) rfl (fun ls hl => ?_)
            refine lv_iload hx hb dX3_needed_135 (lv_at hl 5 rfl) ?_
            refine lv_istore (lv' := [(5, .int v7), (6, .int v10), (0, .ref (ad 0)), (2, .int v2), (3, .long v3), (7, .int v7), (8, .long v8), (10, .int v10), (11, .int v11)]) hx hb dX3_needed_137 hl (by decide) rfl (fun ls hl => ?_)
            exact hb139 k45 hk45 v2 v3 v7 v10 v7 S _ _ _ hf hI (lv_sub hl [2, 3, 4, 0, 1, 5] rfl)
      · replace hf := zIf c_73 hf
        refine lv_iload hx hb dX3_needed_76 (lv_at hl 5 rfl) ?_
        refine lv_iload hx hb dX3_needed_78 (lv_at hl 8 rfl) ?_
        refine lv_ishr hx hb dX3_needed_80 ?_
        refine lv_iconst (v := 1) hx hb dX3_needed_81 (by decide) ?_
        refine lv_iand hx hb dX3_needed_82 ?_
        refine lv_iconst (v := 1) hx hb dX3_needed_83 (by decide) ?_
        refine lv_icmp_ne (tgt := 109) hx hb dX3_needed_84 (by decide) (fun c_84 => ?_) (fun c_84 => ?_)
        · replace hf := zIf c_84 hf
          exact hb109 k45 hk45 (fX3_needed_b67L k45 n) ih v2 v3 v5 v6 v7 v8 v10 v11 S _ _ _ hf hI (lv_sub hl [0, 1, 2, 3, 4, 5, 6, 7, 8] rfl)
        · replace hf := zIt c_84 hf
          refine lv_lload hx hb dX3_needed_87 (lv_at hl 6 rfl) ?_
          refine lv_aload_n hx hb dX3_needed_89 rfl (lv_at hl 0 rfl) ?_
          refine va_get (D := D) (ci := 3) (v := .ref (ad 3)) (C := RX3) (T := TX3) (N := 27) hx hb hts hiX3 hown hK hI.1 0 rfl rfl 14 (by decide) (hts (.fieldLink RX3 20 "NoughtSumsModel" "line" "[J") (by decide +kernel)) (fun _ h9 => h9) rfl dX3_needed_90 ?_
          refine lv_iload hx hb dX3_needed_93 (lv_at hl 8 rfl) ?_
          obtain ⟨g_95, hf⟩ := zGI_s hf
          refine va_lald (f := (m_line S)) hx hb hK hI.1 3 2 rfl rfl g_95 dX3_needed_95 ?_
          obtain ⟨r_96, hf_96, hf⟩ := zB1_s hf
          refine z_callS C 1 (kX3_values l zq D ((m_line S) v11.toNatClampNeg) r_96 hf_96) gX3_needed_X3_values rfl (by decide +kernel) ⟨by decide, by decide⟩ hI rfl hl.1 rfl (Nat.le_of_ble_eq_true rfl) dX3_needed_96 ⟨by decide, by decide⟩ (st2 := [.long r_96, .long v8]) rfl (fun H locs hI => ?_)
          refine lv_ldc2 hx hb hown (hts (.constantLong RX3 167 (-1)) (by decide +kernel)) dX3_needed_99 ?_
          refine lv_lxor hx hb dX3_needed_102 ?_
          refine lv_land hx hb dX3_needed_103 ?_
          refine lv_lstore (lv' := [(8, .long (v8 &&& (r_96 ^^^ (-1 : Int64)))), (0, .ref (ad 0)), (2, .int v2), (3, .long v3), (5, .int v5), (6, .int v6), (7, .int v7), (10, .int v10), (11, .int v11)]) hx hb dX3_needed_104 hl (by decide) rfl (fun ls hl => ?_)
          refine lv_iinc (v := (v10 + (1 : Int32))) (lv' := [(10, .int (v10 + (1 : Int32))), (8, .long (v8 &&& (r_96 ^^^ (-1 : Int64)))), (0, .ref (ad 0)), (2, .int v2), (3, .long v3), (5, .int v5), (6, .int v6), (7, .int v7), (11, .int v11)]) hx hb dX3_needed_106 hl (k := 7) rfl rfl (by decide) rfl (fun ls hl => ?_)
          exact hb109 k45 hk45 (fX3_needed_b67L k45 n) ih v2 v3 v5 v6 v7 (v8 &&& (r_96 ^^^ (-1 : Int64))) (v10 + (1 : Int32)) v11 S _ _ _ hf hI (lv_sub hl [2, 3, 4, 5, 6, 7, 1, 0, 8] rfl)
  have hb45 : ∀ (n : Nat), ∀ (v2 : Int32) (v3 : Int64) (v5 : Int32) (v6 : Int32) (v7 : Int32) (S : MS) (H : Heap) (locs : List Loc) (ls : Array Slot), fX3_needed_b45L n v2 v3 v5 v6 v7 S = some (r, S') → zI D A s H locs (wM cy ad S) → lv_has ls 12 [(0, .ref (ad 0)), (2, .int v2), (3, .long v3), (5, .int v5), (6, .int v6), (7, .int v7)] → W p l e { frames := 2, cells := 0, slots := 0, locals := 49 } s m args below meth c H locs 0 0 Q (F0 m 45 ls []) := by
    intro n
    induction n with
    | zero => intro v2 v3 v5 v6 v7 S H locs ls hf; cases (show (none : Option (Int32 × MS)) = some (r, S') from hf)
    | succ n ih =>
      intro v2 v3 v5 v6 v7 S H locs ls hf hI hl
      have hf : fX3_needed_b45 (fX3_needed_b45L n) v2 v3 v5 v6 v7 S = some (r, S') := hf
      unfold fX3_needed_b45 at hf
      refine lv_iload hx hb dX3_needed_45 (lv_at hl 5 rfl) ?_
      refine lv_iconst (v := 1) hx hb dX3_needed_47 (by decide) ?_
      refine lv_aload_n hx hb dX3_needed_48 rfl (lv_at hl 0 rfl) ?_
      refine va_get (D := D) (ci := 3) (v := .int (m_given S)) (C := RX3) (T := TX3) (N := 27) hx hb hts hiX3 hown hK hI.1 0 rfl rfl 10 (by decide) (hts (.fieldLink RX3 129 "NoughtSumsModel" "given" "I") (by decide +kernel)) (fun _ h9 => h9) rfl dX3_needed_49 ?_
      refine lv_ishl hx hb dX3_needed_52 ?_
      refine lv_icmp_ge (tgt := 145) hx hb dX3_needed_53 (by decide) (fun c_53 => ?_) (fun c_53 => ?_)
      · replace hf := zIt c_53 hf
        refine lv_iload hx hb dX3_needed_145 (lv_at hl 3 rfl) ?_
        refine lv_bipush (v := -9) hx hb dX3_needed_147 (by decide) ?_
        refine lv_icmp_eq (tgt := 157) hx hb dX3_needed_149 (by decide) (fun c_149 => ?_) (fun c_149 => ?_)
        · replace hf := zIt c_149 hf
          refine lv_iload hx hb dX3_needed_157 (lv_at hl 3 rfl) ?_
          refine lv_goto (tgt := 164) hx hb dX3_needed_159 (by decide) ?_
          obtain ⟨h1, h2⟩ := zP2 hf
          rw [hQ]
          exact z_iret C (by rw [h2]; exact hI) (by rw [h1]) dX3_needed_164
        · replace hf := zIf c_149 hf
          refine lv_iload_n hx hb dX3_needed_152 rfl (lv_at hl 1 rfl) ?_
          refine lv_iconst (v := 1) hx hb dX3_needed_153 (by decide) ?_
          refine lv_icmp_ne (tgt := 162) hx hb dX3_needed_154 (by decide) (fun c_154 => ?_) (fun c_154 => ?_)
          · replace hf := zIf c_154 hf
            refine lv_iload hx hb dX3_needed_162 (lv_at hl 4 rfl) ?_
            obtain ⟨h1, h2⟩ := zP2 hf
            rw [hQ]
            exact z_iret C (by rw [h2]; exact hI) (by rw [h1]) dX3_needed_164
          · replace hf := zIt c_154 hf
            refine lv_iload hx hb dX3_needed_157 (lv_at hl 3 rfl) ?_
            refine lv_goto (tgt := 164) hx hb dX3_needed_159 (by decide) ?_
            obtain ⟨h1, h2⟩ := zP2 hf
            rw [hQ]
            exact z_iret C (by rw [h2]; exact hI) (by rw [h1]) dX3_needed_164
      · replace hf := zIf c_53 hf
        refine lv_ldc2 hx hb hown (hts (.constantLong RX3 167 (-1)) (by decide +kernel)) dX3_needed_56 ?_
        refine lv_lstore (lv' := [(8, .long (-1 : Int64)), (0, .ref (ad 0)), (2, .int v2), (3, .long v3), (5, .int v5), (6, .int v6), (7, .int v7)]) hx hb dX3_needed_59 hl (by decide) rfl (fun ls hl => ?_)
        refine lv_iconst (v := 0) hx hb dX3_needed_61 (by decide) ?_
        refine lv_istore (lv' := [(10, .int (0 : Int32)), (8, .long (-1 : Int64)), (0, .ref (ad 0)), (2, .int v2), (3, .long v3), (5, .int v5), (6, .int v6), (7, .int v7)]) hx hb dX3_needed_62 hl (by decide) rfl (fun ls hl => ?_)
        refine lv_iconst (v := 0) hx hb dX3_needed_64 (by decide) ?_
        refine lv_istore (lv' := [(11, .int (0 : Int32)), (10, .int (0 : Int32)), (8, .long (-1 : Int64)), (0, .ref (ad 0)), (2, .int v2), (3, .long v3), (5, .int v5), (6, .int v6), (7, .int v7)]) hx hb dX3_needed_65 hl (by decide) rfl (fun ls hl => ?_)
        exact hb67 (fX3_needed_b45L n) ih zF v2 v3 v5 v6 v7 (-1 : Int64) (0 : Int32) (0 : Int32) S _ _ _ hf hI (lv_sub hl [3, 4, 5, 6, 7, 8, 2, 1, 0] rfl)
  unfold fX3_needed at hf
  refine lv_aload_n hx hb dX3_needed_0 rfl (lv_at hl 0 rfl) ?_
  refine lv_iconst (v := 0) hx hb dX3_needed_1 (by decide) ?_
  obtain ⟨S_2, eS_2, hf⟩ := zL_e hf
  refine z_put (D := D) (ci := 3) (v := .int (0 : Int32)) (ty := .int) (C := RX3) (T := TX3) (N := 27) (w2 := (wM cy ad S_2)) hx hb hts hiX3 tyX3 tyX3_ok nmX3 hown hK hI 0 rfl rfl 0 (by decide) (hts (.fieldLink RX3 56 "NoughtSumsModel" "thrown" "I") (by decide +kernel)) (fun _ h9 => h9) rfl (by decide +kernel) rfl rfl (Nat.le_of_ble_eq_true rfl) dX3_needed_2 (by rw [eS_2]; rfl) (fun H locs hI => ?_)
  refine lv_aload_n hx hb dX3_needed_5 rfl (lv_at hl 0 rfl) ?_
  refine lv_iload_n hx hb dX3_needed_6 rfl (lv_at hl 1 rfl) ?_
  obtain ⟨r_7, S_7, hf_7, hf⟩ := zB2_s hf
  refine z_callV (w2 := (wM cy ad S_7)) C 1 (kX3_isLine l zq D cy ad a1 S_2 S_7 r_7 hf_7) gX3_needed_X3_isLine rfl (by decide +kernel) ⟨by decide, by decide⟩ hI 0 rfl rfl rfl hl.1 rfl (Nat.le_of_ble_eq_true rfl) dX3_needed_7 ⟨by decide, by decide⟩ (st2 := [.int r_7]) rfl (fun H locs hI => ?_)
  refine lv_if_eq (tgt := 22) hx hb dX3_needed_10 (by decide) (fun c_10 => ?_) (fun c_10 => ?_)
  · replace hf := zIt c_10 hf
    refine lv_iconst (v := -1) hx hb dX3_needed_22 (by decide) ?_
    obtain ⟨h1, h2⟩ := zP2 hf
    rw [hQ]
    exact z_iret C (by rw [h2]; exact hI) (by rw [h1]) dX3_needed_23
  · replace hf := zIf c_10 hf
    refine lv_iload_n hx hb dX3_needed_13 rfl (lv_at hl 2 rfl) ?_
    refine lv_iconst (v := 0) hx hb dX3_needed_14 (by decide) ?_
    refine lv_iconst (v := 1) hx hb dX3_needed_15 (by decide) ?_
    obtain ⟨r_16, hf_16, hf⟩ := zB1_s hf
    refine z_callS C 3 (kX3_in l zq D a2 (0 : Int32) (1 : Int32) r_16 hf_16) gX3_needed_X3_in rfl (by decide +kernel) ⟨by decide, by decide⟩ hI rfl hl.1 rfl (Nat.le_of_ble_eq_true rfl) dX3_needed_16 ⟨by decide, by decide⟩ (st2 := [.int r_16]) rfl (fun H locs hI => ?_)
    refine lv_if_ne (tgt := 24) hx hb dX3_needed_19 (by decide) (fun c_19 => ?_) (fun c_19 => ?_)
    · replace hf := zIf c_19 hf
      refine lv_aload_n hx hb dX3_needed_24 rfl (lv_at hl 0 rfl) ?_
      refine va_get (D := D) (ci := 3) (v := .ref (ad 3)) (C := RX3) (T := TX3) (N := 27) hx hb hts hiX3 hown hK hI.1 0 rfl rfl 14 (by decide) (hts (.fieldLink RX3 20 "NoughtSumsModel" "line" "[J") (by decide +kernel)) (fun _ h9 => h9) rfl dX3_needed_25 ?_
      refine lv_iload_n hx hb dX3_needed_28 rfl (lv_at hl 1 rfl) ?_
      obtain ⟨g_29, hf⟩ := zGI_s hf
      refine va_lald (f := (m_line S_7)) hx hb hK hI.1 3 2 rfl rfl g_29 dX3_needed_29 ?_
      obtain ⟨r_30, hf_30, hf⟩ := zB1_s hf
      refine z_callS C 1 (kX3_values l zq D ((m_line S_7) a1.toNatClampNeg) r_30 hf_30) gX3_needed_X3_values rfl (by decide +kernel) ⟨by decide, by decide⟩ hI rfl hl.1 rfl (Nat.le_of_ble_eq_true rfl) dX3_needed_30 ⟨by decide, by decide⟩ (st2 := [.long r_30]) rfl (fun H locs hI => ?_)
      refine lv_lstore_n (lv' := [(3, .long r_30), (0, .ref (ad 0)), (1, .int a1), (2, .int a2)]) hx hb dX3_needed_33 rfl hl (by decide) rfl (fun ls hl => ?_)
      refine lv_bipush (v := -9) hx hb dX3_needed_34 (by decide) ?_
      refine lv_istore (lv' := [(5, .int (-9 : Int32)), (3, .long r_30), (0, .ref (ad 0)), (1, .int a1), (2, .int a2)]) hx hb dX3_needed_36 hl (by decide) rfl (fun ls hl => ?_)
      refine lv_bipush (v := 9) hx hb dX3_needed_38 (by decide) ?_
      refine lv_istore (lv' := [(6, .int (9 : Int32)), (5, .int (-9 : Int32)), (3, .long r_30), (0, .ref (ad 0)), (1, .int a1), (2, .int a2)]) hx hb dX3_needed_40 hl (by decide) rfl (fun ls hl => ?_)
      refine lv_iconst (v := 0) hx hb dX3_needed_42 (by decide) ?_
      refine lv_istore (lv' := [(7, .int (0 : Int32)), (6, .int (9 : Int32)), (5, .int (-9 : Int32)), (3, .long r_30), (0, .ref (ad 0)), (1, .int a1), (2, .int a2)]) hx hb dX3_needed_43 hl (by decide) rfl (fun ls hl => ?_)
      exact hb45 zF a2 r_30 (-9 : Int32) (9 : Int32) (0 : Int32) S_7 _ _ _ hf hI (lv_sub hl [4, 6, 3, 2, 1, 0] rfl)
    · replace hf := zIt c_19 hf
      refine lv_iconst (v := -1) hx hb dX3_needed_22 (by decide) ?_
      obtain ⟨h1, h2⟩ := zP2 hf
      rw [hQ]
      exact z_iret C (by rw [h2]; exact hI) (by rw [h1]) dX3_needed_23

def fX3_weight_b101 (v1 : Int32) (v2 : Int32) (v3 : Int32) (v4 : Int32) (v5 : Int32) (u0 : Int64) (u1 : Int64) (S : MS) : Option (Int32 × MS) :=
(zL (m_trace_u S (u1 + u0)) (fun S_102 =>
(if v1 = 0 then some (v3, S_102) else
(if v1 = (1 : Int32) then some (v4, S_102) else
(if v1 = (2 : Int32) then (if v5 = (-9 : Int32) then some ((v3 + (0 : Int32)), S_102) else
some ((v3 + ((2 : Int32) * v5)), S_102)) else
(zGI v2 32
((zB2 (fX3_leftOf ((m_line S_102) v2.toNatClampNeg) S_102) (fun r_159 S_159 =>
(zB1 (fX3_many r_159) (fun r_162 =>
some ((((2 : Int32) * v4) - r_162), S_159))))))))))))

def fX3_weight (a1 : Int32) (a2 : Int32) (S : MS) : Option (Int32 × MS) :=
(zL (m_thrown_u S (0 : Int32)) (fun S_2 =>
(zB1 (fX3_in a1 (0 : Int32) (3 : Int32)) (fun r_8 =>
(if r_8 = 0 then some ((-100 : Int32), S_2) else
(zB2 (fX3_isLine a2 S_2) (fun r_16 S_16 =>
(if r_16 = 0 then some ((-100 : Int32), S_16) else
(zGI a2 32
((zB1 (fX3_many ((m_line S_16) a2.toNatClampNeg)) (fun r_31 =>
(zGI a2 32
((zB1 (fX3_values ((m_line S_16) a2.toNatClampNeg)) (fun r_42 =>
(zB1 (fX3_many r_42) (fun r_45 =>
(zGI a2 32
((zB2 (fX3_degreeOf ((m_line S_16) a2.toNatClampNeg) S_16) (fun r_58 S_58 =>
(if a1 = 0 then fX3_weight_b101 a1 a2 r_31 (r_31 + r_45) r_58 (1 : Int64) (m_trace S_58) S_58 else
(if a1 = (1 : Int32) then fX3_weight_b101 a1 a2 r_31 (r_31 + r_45) r_58 (11 : Int64) (m_trace S_58) S_58 else
(if a1 = (2 : Int32) then fX3_weight_b101 a1 a2 r_31 (r_31 + r_45) r_58 (101 : Int64) (m_trace S_58) S_58 else
fX3_weight_b101 a1 a2 r_31 (r_31 + r_45) r_58 (1011 : Int64) (m_trace S_58) S_58)))))))))))))))))))))))))
set_option maxHeartbeats 4000000 in
set_option maxRecDepth 100000 in
theorem kX3_weight (l : Launch) (zq : Nat → Nat) (D : va_G) (cy : Nat → ClassId) (ad : Nat → Nat) (a1 : Int32) (a2 : Int32) (S S' : MS) (r : Int32) (hf : fX3_weight a1 a2 S = some (r, S')) : zMet l yX3_weight wsX3_weight 3 71 zq D (tM cy) (wM cy ad S) [.ref (ad 0), .int a1, .int a2] (some (.int r)) (wM cy ad S') := by
  refine zMet.of cX3_weight 6 (some .int) (by decide) rfl (Nat.le_of_ble_eq_true rfl) ?_
  intro p e s m args below meth c A ls C hl hI
  have hl : lv_has ls 6 [(0, .ref (ad 0)), (1, .int a1), (2, .int a2)] := hl
  have C : zC p s m args meth c cX3_weight 6 (some .int) RX3 wsX3_weight D (tM cy) zq A := C
  obtain ⟨hx, hb, hml, hown, hts, hret, hlk, hK, hX, hA⟩ := id C
  have hiX3 : ∀ w ∈ wsX30, w ∈ wsX3_weight := by decide +kernel
  obtain ⟨Q, hQ⟩ : ∃ Q, Q = MQ below (zQ D (tM cy) (wM cy ad S') (some (.int r)) A) args s 0 0 A := ⟨_, rfl⟩
  rw [← hQ]
  have hb101 : ∀ (v1 : Int32) (v2 : Int32) (v3 : Int32) (v4 : Int32) (v5 : Int32) (u0 : Int64) (u1 : Int64) (S : MS) (H : Heap) (locs : List Loc) (ls : Array Slot), fX3_weight_b101 v1 v2 v3 v4 v5 u0 u1 S = some (r, S') → zI D A s H locs (wM cy ad S) → lv_has ls 6 [(0, .ref (ad 0)), (1, .int v1), (2, .int v2), (3, .int v3), (4, .int v4), (5, .int v5)] → W p l e { frames := 3, cells := 0, slots := 0, locals := 71 } s m args below meth c H locs 0 0 Q (F0 m 101 ls [.long u0, .long u1, .ref (ad 0)]) := by
    intro v1 v2 v3 v4 v5 u0 u1 S H locs ls hf hI hl
    unfold fX3_weight_b101 at hf
    refine lv_ladd hx hb dX3_weight_101 ?_
    obtain ⟨S_102, eS_102, hf⟩ := zL_e hf
    refine z_put (D := D) (ci := 3) (v := .long (u1 + u0)) (ty := .long) (C := RX3) (T := TX3) (N := 27) (w2 := (wM cy ad S_102)) hx hb hts hiX3 tyX3 tyX3_ok nmX3 hown hK hI 0 rfl rfl 1 (by decide) (hts (.fieldLink RX3 202 "NoughtSumsModel" "trace" "J") (by decide +kernel)) (fun _ h9 => h9) rfl (by decide +kernel) rfl rfl (Nat.le_of_ble_eq_true rfl) dX3_weight_102 (by rw [eS_102]; rfl) (fun H locs hI => ?_)
    refine lv_iload_n hx hb dX3_weight_105 rfl (lv_at hl 1 rfl) ?_
    refine lv_if_ne (tgt := 113) hx hb dX3_weight_106 (by decide) (fun c_106 => ?_) (fun c_106 => ?_)
    · replace hf := zIf c_106 hf
      refine lv_iload_n hx hb dX3_weight_113 rfl (lv_at hl 1 rfl) ?_
      refine lv_iconst (v := 1) hx hb dX3_weight_114 (by decide) ?_
      refine lv_icmp_ne (tgt := 123) hx hb dX3_weight_115 (by decide) (fun c_115 => ?_) (fun c_115 => ?_)
      · replace hf := zIf c_115 hf
        refine lv_iload_n hx hb dX3_weight_123 rfl (lv_at hl 1 rfl) ?_
        refine lv_iconst (v := 2) hx hb dX3_weight_124 (by decide) ?_
        refine lv_icmp_ne (tgt := 148) hx hb dX3_weight_125 (by decide) (fun c_125 => ?_) (fun c_125 => ?_)
        · replace hf := zIf c_125 hf
          refine lv_iconst (v := 2) hx hb dX3_weight_148 (by decide) ?_
          refine lv_iload hx hb dX3_weight_149 (lv_at hl 4 rfl) ?_
          refine lv_imul hx hb dX3_weight_151 ?_
          refine lv_aload_n hx hb dX3_weight_152 rfl (lv_at hl 0 rfl) ?_
          refine lv_aload_n hx hb dX3_weight_153 rfl (lv_at hl 0 rfl) ?_
          refine va_get (D := D) (ci := 3) (v := .ref (ad 3)) (C := RX3) (T := TX3) (N := 27) hx hb hts hiX3 hown hK hI.1 0 rfl rfl 14 (by decide) (hts (.fieldLink RX3 20 "NoughtSumsModel" "line" "[J") (by decide +kernel)) (fun _ h9 => h9) rfl dX3_weight_154 ?_
          refine lv_iload_n hx hb dX3_weight_157 rfl (lv_at hl 2 rfl) ?_
          obtain ⟨g_158, hf⟩ := zGI_s hf
          refine va_lald (f := (m_line S_102)) hx hb hK hI.1 3 2 rfl rfl g_158 dX3_weight_158 ?_
          obtain ⟨r_159, S_159, hf_159, hf⟩ := zB2_s hf
          refine z_callV (w2 := (wM cy ad S_159)) C 1 (kX3_leftOf l zq D cy ad ((m_line S_102) v2.toNatClampNeg) S_102 S_159 r_159 hf_159) gX3_weight_X3_leftOf rfl (by decide +kernel) ⟨by decide, by decide⟩ hI 0 rfl rfl rfl hl.1 rfl (Nat.le_of_ble_eq_true rfl) dX3_weight_159 ⟨by decide, by decide⟩ (st2 := [.long r_159, .int ((2 : Int32) * v4)]) rfl (fun H locs hI => ?_)
          obtain ⟨r_162, hf_162, hf⟩ := zB1_s hf
          refine z_callS C 1 (kX3_many l zq D r_159 r_162 hf_162) gX3_weight_X3_many rfl (by decide +kernel) ⟨by decide, by decide⟩ hI rfl hl.1 rfl (Nat.le_of_ble_eq_true rfl) dX3_weight_162 ⟨by decide, by decide⟩ (st2 := [.int r_162, .int ((2 : Int32) * v4)]) rfl (fun H locs hI => ?_)
          refine lv_isub hx hb dX3_weight_165 ?_
          obtain ⟨h1, h2⟩ := zP2 hf
          rw [hQ]
          exact z_iret C (by rw [h2]; exact hI) (by rw [h1]) dX3_weight_166
        · replace hf := zIt c_125 hf
          refine lv_iload_n hx hb dX3_weight_128 rfl (lv_at hl 3 rfl) ?_
          refine lv_iload hx hb dX3_weight_129 (lv_at hl 5 rfl) ?_
          refine lv_bipush (v := -9) hx hb dX3_weight_131 (by decide) ?_
          refine lv_icmp_ne (tgt := 140) hx hb dX3_weight_133 (by decide) (fun c_133 => ?_) (fun c_133 => ?_)
          · replace hf := zIf c_133 hf
            refine lv_iconst (v := 2) hx hb dX3_weight_140 (by decide) ?_
            refine lv_iload hx hb dX3_weight_141 (lv_at hl 5 rfl) ?_
            refine lv_imul hx hb dX3_weight_143 ?_
            refine lv_iadd hx hb dX3_weight_144 ?_
            refine lv_goto (tgt := 166) hx hb dX3_weight_145 (by decide) ?_
            obtain ⟨h1, h2⟩ := zP2 hf
            rw [hQ]
            exact z_iret C (by rw [h2]; exact hI) (by rw [h1]) dX3_weight_166
          · replace hf := zIt c_133 hf
            refine lv_iconst (v := 0) hx hb dX3_weight_136 (by decide) ?_
            refine lv_goto (tgt := 144) hx hb dX3_weight_137 (by decide) ?_
            refine lv_iadd hx hb dX3_weight_144 ?_
            refine lv_goto (tgt := 166) hx hb dX3_weight_145 (by decide) ?_
            obtain ⟨h1, h2⟩ := zP2 hf
            rw [hQ]
            exact z_iret C (by rw [h2]; exact hI) (by rw [h1]) dX3_weight_166
      · replace hf := zIt c_115 hf
        refine lv_iload hx hb dX3_weight_118 (lv_at hl 4 rfl) ?_
        refine lv_goto (tgt := 166) hx hb dX3_weight_120 (by decide) ?_
        obtain ⟨h1, h2⟩ := zP2 hf
        rw [hQ]
        exact z_iret C (by rw [h2]; exact hI) (by rw [h1]) dX3_weight_166
    · replace hf := zIt c_106 hf
      refine lv_iload_n hx hb dX3_weight_109 rfl (lv_at hl 3 rfl) ?_
      refine lv_goto (tgt := 166) hx hb dX3_weight_110 (by decide) ?_
      obtain ⟨h1, h2⟩ := zP2 hf
      rw [hQ]
      exact z_iret C (by rw [h2]; exact hI) (by rw [h1]) dX3_weight_166
  unfold fX3_weight at hf
  refine lv_aload_n hx hb dX3_weight_0 rfl (lv_at hl 0 rfl) ?_
  refine lv_iconst (v := 0) hx hb dX3_weight_1 (by decide) ?_
  obtain ⟨S_2, eS_2, hf⟩ := zL_e hf
  refine z_put (D := D) (ci := 3) (v := .int (0 : Int32)) (ty := .int) (C := RX3) (T := TX3) (N := 27) (w2 := (wM cy ad S_2)) hx hb hts hiX3 tyX3 tyX3_ok nmX3 hown hK hI 0 rfl rfl 0 (by decide) (hts (.fieldLink RX3 56 "NoughtSumsModel" "thrown" "I") (by decide +kernel)) (fun _ h9 => h9) rfl (by decide +kernel) rfl rfl (Nat.le_of_ble_eq_true rfl) dX3_weight_2 (by rw [eS_2]; rfl) (fun H locs hI => ?_)
  refine lv_iload_n hx hb dX3_weight_5 rfl (lv_at hl 1 rfl) ?_
  refine lv_iconst (v := 0) hx hb dX3_weight_6 (by decide) ?_
  refine lv_iconst (v := 3) hx hb dX3_weight_7 (by decide) ?_
  obtain ⟨r_8, hf_8, hf⟩ := zB1_s hf
  refine z_callS C 3 (kX3_in l zq D a1 (0 : Int32) (3 : Int32) r_8 hf_8) gX3_weight_X3_in rfl (by decide +kernel) ⟨by decide, by decide⟩ hI rfl hl.1 rfl (Nat.le_of_ble_eq_true rfl) dX3_weight_8 ⟨by decide, by decide⟩ (st2 := [.int r_8]) rfl (fun H locs hI => ?_)
  refine lv_if_eq (tgt := 22) hx hb dX3_weight_11 (by decide) (fun c_11 => ?_) (fun c_11 => ?_)
  · replace hf := zIt c_11 hf
    refine lv_bipush (v := -100) hx hb dX3_weight_22 (by decide) ?_
    obtain ⟨h1, h2⟩ := zP2 hf
    rw [hQ]
    exact z_iret C (by rw [h2]; exact hI) (by rw [h1]) dX3_weight_24
  · replace hf := zIf c_11 hf
    refine lv_aload_n hx hb dX3_weight_14 rfl (lv_at hl 0 rfl) ?_
    refine lv_iload_n hx hb dX3_weight_15 rfl (lv_at hl 2 rfl) ?_
    obtain ⟨r_16, S_16, hf_16, hf⟩ := zB2_s hf
    refine z_callV (w2 := (wM cy ad S_16)) C 1 (kX3_isLine l zq D cy ad a2 S_2 S_16 r_16 hf_16) gX3_weight_X3_isLine rfl (by decide +kernel) ⟨by decide, by decide⟩ hI 0 rfl rfl rfl hl.1 rfl (Nat.le_of_ble_eq_true rfl) dX3_weight_16 ⟨by decide, by decide⟩ (st2 := [.int r_16]) rfl (fun H locs hI => ?_)
    refine lv_if_ne (tgt := 25) hx hb dX3_weight_19 (by decide) (fun c_19 => ?_) (fun c_19 => ?_)
    · replace hf := zIf c_19 hf
      refine lv_aload_n hx hb dX3_weight_25 rfl (lv_at hl 0 rfl) ?_
      refine va_get (D := D) (ci := 3) (v := .ref (ad 3)) (C := RX3) (T := TX3) (N := 27) hx hb hts hiX3 hown hK hI.1 0 rfl rfl 14 (by decide) (hts (.fieldLink RX3 20 "NoughtSumsModel" "line" "[J") (by decide +kernel)) (fun _ h9 => h9) rfl dX3_weight_26 ?_
      refine lv_iload_n hx hb dX3_weight_29 rfl (lv_at hl 2 rfl) ?_
      obtain ⟨g_30, hf⟩ := zGI_s hf
      refine va_lald (f := (m_line S_16)) hx hb hK hI.1 3 2 rfl rfl g_30 dX3_weight_30 ?_
      obtain ⟨r_31, hf_31, hf⟩ := zB1_s hf
      refine z_callS C 1 (kX3_many l zq D ((m_line S_16) a2.toNatClampNeg) r_31 hf_31) gX3_weight_X3_many rfl (by decide +kernel) ⟨by decide, by decide⟩ hI rfl hl.1 rfl (Nat.le_of_ble_eq_true rfl) dX3_weight_31 ⟨by decide, by decide⟩ (st2 := [.int r_31]) rfl (fun H locs hI => ?_)
      refine lv_istore_n (lv' := [(3, .int r_31), (0, .ref (ad 0)), (1, .int a1), (2, .int a2)]) hx hb dX3_weight_34 rfl hl (by decide) rfl (fun ls hl => ?_)
      refine lv_iload_n hx hb dX3_weight_35 rfl (lv_at hl 0 rfl) ?_
      refine lv_aload_n hx hb dX3_weight_36 rfl (lv_at hl 1 rfl) ?_
      refine va_get (D := D) (ci := 3) (v := .ref (ad 3)) (C := RX3) (T := TX3) (N := 27) hx hb hts hiX3 hown hK hI.1 0 rfl rfl 14 (by decide) (hts (.fieldLink RX3 20 "NoughtSumsModel" "line" "[J") (by decide +kernel)) (fun _ h9 => h9) rfl dX3_weight_37 ?_
      refine lv_iload_n hx hb dX3_weight_40 rfl (lv_at hl 3 rfl) ?_
      obtain ⟨g_41, hf⟩ := zGI_s hf
      refine va_lald (f := (m_line S_16)) hx hb hK hI.1 3 2 rfl rfl g_41 dX3_weight_41 ?_
      obtain ⟨r_42, hf_42, hf⟩ := zB1_s hf
      refine z_callS C 1 (kX3_values l zq D ((m_line S_16) a2.toNatClampNeg) r_42 hf_42) gX3_weight_X3_values rfl (by decide +kernel) ⟨by decide, by decide⟩ hI rfl hl.1 rfl (Nat.le_of_ble_eq_true rfl) dX3_weight_42 ⟨by decide, by decide⟩ (st2 := [.long r_42, .int r_31]) rfl (fun H locs hI => ?_)
      obtain ⟨r_45, hf_45, hf⟩ := zB1_s hf
      refine z_callS C 1 (kX3_many l zq D r_42 r_45 hf_45) gX3_weight_X3_many rfl (by decide +kernel) ⟨by decide, by decide⟩ hI rfl hl.1 rfl (Nat.le_of_ble_eq_true rfl) dX3_weight_45 ⟨by decide, by decide⟩ (st2 := [.int r_45, .int r_31]) rfl (fun H locs hI => ?_)
      refine lv_iadd hx hb dX3_weight_48 ?_
      refine lv_istore (lv' := [(4, .int (r_31 + r_45)), (3, .int r_31), (0, .ref (ad 0)), (1, .int a1), (2, .int a2)]) hx hb dX3_weight_49 hl (by decide) rfl (fun ls hl => ?_)
      refine lv_aload_n hx hb dX3_weight_51 rfl (lv_at hl 2 rfl) ?_
      refine lv_aload_n hx hb dX3_weight_52 rfl (lv_at hl 2 rfl) ?_
      refine va_get (D := D) (ci := 3) (v := .ref (ad 3)) (C := RX3) (T := TX3) (N := 27) hx hb hts hiX3 hown hK hI.1 0 rfl rfl 14 (by decide) (hts (.fieldLink RX3 20 "NoughtSumsModel" "line" "[J") (by decide +kernel)) (fun _ h9 => h9) rfl dX3_weight_53 ?_
      refine lv_iload_n hx hb dX3_weight_56 rfl (lv_at hl 4 rfl) ?_
      obtain ⟨g_57, hf⟩ := zGI_s hf
      refine va_lald (f := (m_line S_16)) hx hb hK hI.1 3 2 rfl rfl g_57 dX3_weight_57 ?_
      obtain ⟨r_58, S_58, hf_58, hf⟩ := zB2_s hf
      refine z_callV (w2 := (wM cy ad S_58)) C 1 (kX3_degreeOf l zq D cy ad ((m_line S_16) a2.toNatClampNeg) S_16 S_58 r_58 hf_58) gX3_weight_X3_degreeOf rfl (by decide +kernel) ⟨by decide, by decide⟩ hI 0 rfl rfl rfl hl.1 rfl (Nat.le_of_ble_eq_true rfl) dX3_weight_58 ⟨by decide, by decide⟩ (st2 := [.int r_58]) rfl (fun H locs hI => ?_)
      refine lv_istore (lv' := [(5, .int r_58), (4, .int (r_31 + r_45)), (3, .int r_31), (0, .ref (ad 0)), (1, .int a1), (2, .int a2)]) hx hb dX3_weight_61 hl (by decide) rfl (fun ls hl => ?_)
      refine lv_aload_n hx hb dX3_weight_63 rfl (lv_at hl 3 rfl) ?_
      refine lv_dup hx hb dX3_weight_64 rfl ?_
      refine va_get (D := D) (ci := 3) (v := .long (m_trace S_58)) (C := RX3) (T := TX3) (N := 27) hx hb hts hiX3 hown hK hI.1 0 rfl rfl 1 (by decide) (hts (.fieldLink RX3 202 "NoughtSumsModel" "trace" "J") (by decide +kernel)) (fun _ h9 => h9) rfl dX3_weight_65 ?_
      refine lv_iload_n hx hb dX3_weight_68 rfl (lv_at hl 4 rfl) ?_
      refine lv_if_ne (tgt := 76) hx hb dX3_weight_69 (by decide) (fun c_69 => ?_) (fun c_69 => ?_)
      · replace hf := zIf c_69 hf
        refine lv_iload_n hx hb dX3_weight_76 rfl (lv_at hl 4 rfl) ?_
        refine lv_iconst (v := 1) hx hb dX3_weight_77 (by decide) ?_
        refine lv_icmp_ne (tgt := 87) hx hb dX3_weight_78 (by decide) (fun c_78 => ?_) (fun c_78 => ?_)
        · replace hf := zIf c_78 hf
          refine lv_iload_n hx hb dX3_weight_87 rfl (lv_at hl 4 rfl) ?_
          refine lv_iconst (v := 2) hx hb dX3_weight_88 (by decide) ?_
          refine lv_icmp_ne (tgt := 98) hx hb dX3_weight_89 (by decide) (fun c_89 => ?_) (fun c_89 => ?_)
          · replace hf := zIf c_89 hf
            refine lv_ldc2 hx hb hown (hts (.constantLong RX3 209 (1011)) (by decide +kernel)) dX3_weight_98 ?_
            exact hb101 a1 a2 r_31 (r_31 + r_45) r_58 (1011 : Int64) (m_trace S_58) S_58 _ _ _ hf hI (lv_sub hl [3, 4, 5, 2, 1, 0] rfl)
          · replace hf := zIt c_89 hf
            refine lv_ldc2 hx hb hown (hts (.constantLong RX3 207 (101)) (by decide +kernel)) dX3_weight_92 ?_
            refine lv_goto (tgt := 101) hx hb dX3_weight_95 (by decide) ?_
            exact hb101 a1 a2 r_31 (r_31 + r_45) r_58 (101 : Int64) (m_trace S_58) S_58 _ _ _ hf hI (lv_sub hl [3, 4, 5, 2, 1, 0] rfl)
        · replace hf := zIt c_78 hf
          refine lv_ldc2 hx hb hown (hts (.constantLong RX3 205 (11)) (by decide +kernel)) dX3_weight_81 ?_
          refine lv_goto (tgt := 101) hx hb dX3_weight_84 (by decide) ?_
          exact hb101 a1 a2 r_31 (r_31 + r_45) r_58 (11 : Int64) (m_trace S_58) S_58 _ _ _ hf hI (lv_sub hl [3, 4, 5, 2, 1, 0] rfl)
      · replace hf := zIt c_69 hf
        refine lv_lconst (v := 1) hx hb dX3_weight_72 (by decide) ?_
        refine lv_goto (tgt := 101) hx hb dX3_weight_73 (by decide) ?_
        exact hb101 a1 a2 r_31 (r_31 + r_45) r_58 (1 : Int64) (m_trace S_58) S_58 _ _ _ hf hI (lv_sub hl [3, 4, 5, 2, 1, 0] rfl)
    · replace hf := zIt c_19 hf
      refine lv_bipush (v := -100) hx hb dX3_weight_22 (by decide) ?_
      obtain ⟨h1, h2⟩ := zP2 hf
      rw [hQ]
      exact z_iret C (by rw [h2]; exact hI) (by rw [h1]) dX3_weight_24

def fX3_count_b29 (k9 : Int32 → Int32 → Int32 → MS → Option (Int32 × MS)) (v1 : Int32) (v3 : Int32) (u0 : Int32) (u1 : Int32) (S : MS) : Option (Int32 × MS) :=
k9 v1 (u1 + u0) (v3 + (1 : Int32)) S

def fX3_count_b9 (k9 : Int32 → Int32 → Int32 → MS → Option (Int32 × MS)) (v1 : Int32) (v2 : Int32) (v3 : Int32) (S : MS) : Option (Int32 × MS) :=
(if (64 : Int32) ≤ v3 then (if v1 = 0 then some ((m_given S), S) else
(if v1 = (1 : Int32) then some ((m_made S), S) else
(if v1 = (2 : Int32) then some ((m_steps S), S) else
(if v1 = (3 : Int32) then some (v2, S) else
(if v1 = (4 : Int32) then (zB1 (fX3_many (m_standing S)) (fun r_92 =>
some (((64 : Int32) - r_92), S))) else
(if v1 = (5 : Int32) then (zB1 (fX3_many (m_common S)) (fun r_108 =>
some (r_108, S))) else
(if v1 = (6 : Int32) then some ((m_typed S), S) else
some ((-1 : Int32), S)))))))) else
(zB2 (fX3_isLeast v3 S) (fun r_18 S_18 =>
(if r_18 = 0 then fX3_count_b29 k9 v1 v3 (0 : Int32) v2 S_18 else
fX3_count_b29 k9 v1 v3 (1 : Int32) v2 S_18))))
def fX3_count_b9L : Nat → Int32 → Int32 → Int32 → MS → Option (Int32 × MS)
  | 0, _, _, _, _ => none
  | n + 1, v1, v2, v3, S => fX3_count_b9 (fX3_count_b9L n) v1 v2 v3 S

def fX3_count (a1 : Int32) (S : MS) : Option (Int32 × MS) :=
(zL (m_thrown_u S (0 : Int32)) (fun S_2 =>
fX3_count_b9L zF a1 (0 : Int32) (0 : Int32) S_2))
set_option maxHeartbeats 4000000 in
set_option maxRecDepth 100000 in
theorem kX3_count (l : Launch) (zq : Nat → Nat) (D : va_G) (cy : Nat → ClassId) (ad : Nat → Nat) (a1 : Int32) (S S' : MS) (r : Int32) (hf : fX3_count a1 S = some (r, S')) : zMet l yX3_count wsX3_count 2 45 zq D (tM cy) (wM cy ad S) [.ref (ad 0), .int a1] (some (.int r)) (wM cy ad S') := by
  refine zMet.of cX3_count 4 (some .int) (by decide) rfl (Nat.le_of_ble_eq_true rfl) ?_
  intro p e s m args below meth c A ls C hl hI
  have hl : lv_has ls 4 [(0, .ref (ad 0)), (1, .int a1)] := hl
  have C : zC p s m args meth c cX3_count 4 (some .int) RX3 wsX3_count D (tM cy) zq A := C
  obtain ⟨hx, hb, hml, hown, hts, hret, hlk, hK, hX, hA⟩ := id C
  have hiX3 : ∀ w ∈ wsX30, w ∈ wsX3_count := by decide +kernel
  obtain ⟨Q, hQ⟩ : ∃ Q, Q = MQ below (zQ D (tM cy) (wM cy ad S') (some (.int r)) A) args s 0 0 A := ⟨_, rfl⟩
  rw [← hQ]
  have hb29 : ∀ (k9 : Int32 → Int32 → Int32 → MS → Option (Int32 × MS)) (hk9 : ∀ (v1 : Int32) (v2 : Int32) (v3 : Int32) (S : MS) (H : Heap) (locs : List Loc) (ls : Array Slot), k9 v1 v2 v3 S = some (r, S') → zI D A s H locs (wM cy ad S) → lv_has ls 4 [(0, .ref (ad 0)), (1, .int v1), (2, .int v2), (3, .int v3)] → W p l e { frames := 2, cells := 0, slots := 0, locals := 45 } s m args below meth c H locs 0 0 Q (F0 m 9 ls [])), ∀ (v1 : Int32) (v3 : Int32) (u0 : Int32) (u1 : Int32) (S : MS) (H : Heap) (locs : List Loc) (ls : Array Slot), fX3_count_b29 k9 v1 v3 u0 u1 S = some (r, S') → zI D A s H locs (wM cy ad S) → lv_has ls 4 [(0, .ref (ad 0)), (1, .int v1), (3, .int v3)] → W p l e { frames := 2, cells := 0, slots := 0, locals := 45 } s m args below meth c H locs 0 0 Q (F0 m 29 ls [.int u0, .int u1]) := by
    intro k9 hk9 v1 v3 u0 u1 S H locs ls hf hI hl
    unfold fX3_count_b29 at hf
    refine lv_iadd hx hb dX3_count_29 ?_
    refine lv_istore_n (lv' := [(2, .int (u1 + u0)), (0, .ref (ad 0)), (1, .int v1), (3, .int v3)]) hx hb dX3_count_30 rfl hl (by decide) rfl (fun ls hl => ?_)
    refine lv_iinc (v := (v3 + (1 : Int32))) (lv' := [(3, .int (v3 + (1 : Int32))), (2, .int (u1 + u0)), (0, .ref (ad 0)), (1, .int v1)]) hx hb dX3_count_31 hl (k := 3) rfl rfl (by decide) rfl (fun ls hl => ?_)
    refine lv_goto (tgt := 9) hx hb dX3_count_34 (by decide) ?_
    exact hk9 v1 (u1 + u0) (v3 + (1 : Int32)) S _ _ _ hf hI (lv_sub hl [2, 3, 1, 0] rfl)
  have hb9 : ∀ (n : Nat), ∀ (v1 : Int32) (v2 : Int32) (v3 : Int32) (S : MS) (H : Heap) (locs : List Loc) (ls : Array Slot), fX3_count_b9L n v1 v2 v3 S = some (r, S') → zI D A s H locs (wM cy ad S) → lv_has ls 4 [(0, .ref (ad 0)), (1, .int v1), (2, .int v2), (3, .int v3)] → W p l e { frames := 2, cells := 0, slots := 0, locals := 45 } s m args below meth c H locs 0 0 Q (F0 m 9 ls []) := by
    intro n
    induction n with
    | zero => intro v1 v2 v3 S H locs ls hf; cases (show (none : Option (Int32 × MS)) = some (r, S') from hf)
    | succ n ih =>
      intro v1 v2 v3 S H locs ls hf hI hl
      have hf : fX3_count_b9 (fX3_count_b9L n) v1 v2 v3 S = some (r, S') := hf
      unfold fX3_count_b9 at hf
      refine lv_iload_n hx hb dX3_count_9 rfl (lv_at hl 3 rfl) ?_
      refine lv_bipush (v := 64) hx hb dX3_count_10 (by decide) ?_
      refine lv_icmp_ge (tgt := 37) hx hb dX3_count_12 (by decide) (fun c_12 => ?_) (fun c_12 => ?_)
      · replace hf := zIt c_12 hf
        refine lv_iload_n hx hb dX3_count_37 rfl (lv_at hl 1 rfl) ?_
        refine lv_if_ne (tgt := 48) hx hb dX3_count_38 (by decide) (fun c_38 => ?_) (fun c_38 => ?_)
        · replace hf := zIf c_38 hf
          refine lv_iload_n hx hb dX3_count_48 rfl (lv_at hl 1 rfl) ?_
          refine lv_iconst (v := 1) hx hb dX3_count_49 (by decide) ?_
          refine lv_icmp_ne (tgt := 60) hx hb dX3_count_50 (by decide) (fun c_50 => ?_) (fun c_50 => ?_)
          · replace hf := zIf c_50 hf
            refine lv_iload_n hx hb dX3_count_60 rfl (lv_at hl 1 rfl) ?_
            refine lv_iconst (v := 2) hx hb dX3_count_61 (by decide) ?_
            refine lv_icmp_ne (tgt := 72) hx hb dX3_count_62 (by decide) (fun c_62 => ?_) (fun c_62 => ?_)
            · replace hf := zIf c_62 hf
              refine lv_iload_n hx hb dX3_count_72 rfl (lv_at hl 1 rfl) ?_
              refine lv_iconst (v := 3) hx hb dX3_count_73 (by decide) ?_
              refine lv_icmp_ne (tgt := 81) hx hb dX3_count_74 (by decide) (fun c_74 => ?_) (fun c_74 => ?_)
              · replace hf := zIf c_74 hf
                refine lv_iload_n hx hb dX3_count_81 rfl (lv_at hl 1 rfl) ?_
                refine lv_iconst (v := 4) hx hb dX3_count_82 (by decide) ?_
                refine lv_icmp_ne (tgt := 99) hx hb dX3_count_83 (by decide) (fun c_83 => ?_) (fun c_83 => ?_)
                · replace hf := zIf c_83 hf
                  refine lv_iload_n hx hb dX3_count_99 rfl (lv_at hl 1 rfl) ?_
                  refine lv_iconst (v := 5) hx hb dX3_count_100 (by decide) ?_
                  refine lv_icmp_ne (tgt := 114) hx hb dX3_count_101 (by decide) (fun c_101 => ?_) (fun c_101 => ?_)
                  · replace hf := zIf c_101 hf
                    refine lv_iload_n hx hb dX3_count_114 rfl (lv_at hl 1 rfl) ?_
                    refine lv_bipush (v := 6) hx hb dX3_count_115 (by decide) ?_
                    refine lv_icmp_ne (tgt := 127) hx hb dX3_count_117 (by decide) (fun c_117 => ?_) (fun c_117 => ?_)
                    · replace hf := zIf c_117 hf
                      refine lv_iconst (v := -1) hx hb dX3_count_127 (by decide) ?_
                      obtain ⟨h1, h2⟩ := zP2 hf
                      rw [hQ]
                      exact z_iret C (by rw [h2]; exact hI) (by rw [h1]) dX3_count_128
                    · replace hf := zIt c_117 hf
                      refine lv_aload_n hx hb dX3_count_120 rfl (lv_at hl 0 rfl) ?_
                      refine va_get (D := D) (ci := 3) (v := .int (m_typed S)) (C := RX3) (T := TX3) (N := 27) hx hb hts hiX3 hown hK hI.1 0 rfl rfl 4 (by decide) (hts (.fieldLink RX3 75 "NoughtSumsModel" "typed" "I") (by decide +kernel)) (fun _ h9 => h9) rfl dX3_count_121 ?_
                      refine lv_goto (tgt := 128) hx hb dX3_count_124 (by decide) ?_
                      obtain ⟨h1, h2⟩ := zP2 hf
                      rw [hQ]
                      exact z_iret C (by rw [h2]; exact hI) (by rw [h1]) dX3_count_128
                  · replace hf := zIt c_101 hf
                    refine lv_aload_n hx hb dX3_count_104 rfl (lv_at hl 0 rfl) ?_
                    refine va_get (D := D) (ci := 3) (v := .long (m_common S)) (C := RX3) (T := TX3) (N := 27) hx hb hts hiX3 hown hK hI.1 0 rfl rfl 18 (by decide) (hts (.fieldLink RX3 169 "NoughtSumsModel" "common" "J") (by decide +kernel)) (fun _ h9 => h9) rfl dX3_count_105 ?_
                    obtain ⟨r_108, hf_108, hf⟩ := zB1_s hf
                    refine z_callS C 1 (kX3_many l zq D (m_common S) r_108 hf_108) gX3_count_X3_many rfl (by decide +kernel) ⟨by decide, by decide⟩ hI rfl hl.1 rfl (Nat.le_of_ble_eq_true rfl) dX3_count_108 ⟨by decide, by decide⟩ (st2 := [.int r_108]) rfl (fun H locs hI => ?_)
                    refine lv_goto (tgt := 128) hx hb dX3_count_111 (by decide) ?_
                    obtain ⟨h1, h2⟩ := zP2 hf
                    rw [hQ]
                    exact z_iret C (by rw [h2]; exact hI) (by rw [h1]) dX3_count_128
                · replace hf := zIt c_83 hf
                  refine lv_bipush (v := 64) hx hb dX3_count_86 (by decide) ?_
                  refine lv_aload_n hx hb dX3_count_88 rfl (lv_at hl 0 rfl) ?_
                  refine va_get (D := D) (ci := 3) (v := .long (m_standing S)) (C := RX3) (T := TX3) (N := 27) hx hb hts hiX3 hown hK hI.1 0 rfl rfl 19 (by decide) (hts (.fieldLink RX3 172 "NoughtSumsModel" "standing" "J") (by decide +kernel)) (fun _ h9 => h9) rfl dX3_count_89 ?_
                  obtain ⟨r_92, hf_92, hf⟩ := zB1_s hf
                  refine z_callS C 1 (kX3_many l zq D (m_standing S) r_92 hf_92) gX3_count_X3_many rfl (by decide +kernel) ⟨by decide, by decide⟩ hI rfl hl.1 rfl (Nat.le_of_ble_eq_true rfl) dX3_count_92 ⟨by decide, by decide⟩ (st2 := [.int r_92, .int (64 : Int32)]) rfl (fun H locs hI => ?_)
                  refine lv_isub hx hb dX3_count_95 ?_
                  refine lv_goto (tgt := 128) hx hb dX3_count_96 (by decide) ?_
                  obtain ⟨h1, h2⟩ := zP2 hf
                  rw [hQ]
                  exact z_iret C (by rw [h2]; exact hI) (by rw [h1]) dX3_count_128
              · replace hf := zIt c_74 hf
                refine lv_iload_n hx hb dX3_count_77 rfl (lv_at hl 2 rfl) ?_
                refine lv_goto (tgt := 128) hx hb dX3_count_78 (by decide) ?_
                obtain ⟨h1, h2⟩ := zP2 hf
                rw [hQ]
                exact z_iret C (by rw [h2]; exact hI) (by rw [h1]) dX3_count_128
            · replace hf := zIt c_62 hf
              refine lv_aload_n hx hb dX3_count_65 rfl (lv_at hl 0 rfl) ?_
              refine va_get (D := D) (ci := 3) (v := .int (m_steps S)) (C := RX3) (T := TX3) (N := 27) hx hb hts hiX3 hown hK hI.1 0 rfl rfl 12 (by decide) (hts (.fieldLink RX3 135 "NoughtSumsModel" "steps" "I") (by decide +kernel)) (fun _ h9 => h9) rfl dX3_count_66 ?_
              refine lv_goto (tgt := 128) hx hb dX3_count_69 (by decide) ?_
              obtain ⟨h1, h2⟩ := zP2 hf
              rw [hQ]
              exact z_iret C (by rw [h2]; exact hI) (by rw [h1]) dX3_count_128
          · replace hf := zIt c_50 hf
            refine lv_aload_n hx hb dX3_count_53 rfl (lv_at hl 0 rfl) ?_
            refine va_get (D := D) (ci := 3) (v := .int (m_made S)) (C := RX3) (T := TX3) (N := 27) hx hb hts hiX3 hown hK hI.1 0 rfl rfl 11 (by decide) (hts (.fieldLink RX3 132 "NoughtSumsModel" "made" "I") (by decide +kernel)) (fun _ h9 => h9) rfl dX3_count_54 ?_
            refine lv_goto (tgt := 128) hx hb dX3_count_57 (by decide) ?_
            obtain ⟨h1, h2⟩ := zP2 hf
            rw [hQ]
            exact z_iret C (by rw [h2]; exact hI) (by rw [h1]) dX3_count_128
        · replace hf := zIt c_38 hf
          refine lv_aload_n hx hb dX3_count_41 rfl (lv_at hl 0 rfl) ?_
          refine va_get (D := D) (ci := 3) (v := .int (m_given S)) (C := RX3) (T := TX3) (N := 27) hx hb hts hiX3 hown hK hI.1 0 rfl rfl 10 (by decide) (hts (.fieldLink RX3 129 "NoughtSumsModel" "given" "I") (by decide +kernel)) (fun _ h9 => h9) rfl dX3_count_42 ?_
          refine lv_goto (tgt := 128) hx hb dX3_count_45 (by decide) ?_
          obtain ⟨h1, h2⟩ := zP2 hf
          rw [hQ]
          exact z_iret C (by rw [h2]; exact hI) (by rw [h1]) dX3_count_128
      · replace hf := zIf c_12 hf
        refine lv_iload_n hx hb dX3_count_15 rfl (lv_at hl 2 rfl) ?_
        refine lv_aload_n hx hb dX3_count_16 rfl (lv_at hl 0 rfl) ?_
        refine lv_iload_n hx hb dX3_count_17 rfl (lv_at hl 3 rfl) ?_
        obtain ⟨r_18, S_18, hf_18, hf⟩ := zB2_s hf
        refine z_callV (w2 := (wM cy ad S_18)) C 1 (kX3_isLeast l zq D cy ad v3 S S_18 r_18 hf_18) gX3_count_X3_isLeast rfl (by decide +kernel) ⟨by decide, by decide⟩ hI 0 rfl rfl rfl hl.1 rfl (Nat.le_of_ble_eq_true rfl) dX3_count_18 ⟨by decide, by decide⟩ (st2 := [.int r_18, .int v2]) rfl (fun H locs hI => ?_)
        refine lv_if_eq (tgt := 28) hx hb dX3_count_21 (by decide) (fun c_21 => ?_) (fun c_21 => ?_)
        · replace hf := zIt c_21 hf
          refine lv_iconst (v := 0) hx hb dX3_count_28 (by decide) ?_
          exact hb29 (fX3_count_b9L n) ih v1 v3 (0 : Int32) v2 S_18 _ _ _ hf hI (lv_sub hl [0, 1, 3] rfl)
        · replace hf := zIf c_21 hf
          refine lv_iconst (v := 1) hx hb dX3_count_24 (by decide) ?_
          refine lv_goto (tgt := 29) hx hb dX3_count_25 (by decide) ?_
          exact hb29 (fX3_count_b9L n) ih v1 v3 (1 : Int32) v2 S_18 _ _ _ hf hI (lv_sub hl [0, 1, 3] rfl)
  unfold fX3_count at hf
  refine lv_aload_n hx hb dX3_count_0 rfl (lv_at hl 0 rfl) ?_
  refine lv_iconst (v := 0) hx hb dX3_count_1 (by decide) ?_
  obtain ⟨S_2, eS_2, hf⟩ := zL_e hf
  refine z_put (D := D) (ci := 3) (v := .int (0 : Int32)) (ty := .int) (C := RX3) (T := TX3) (N := 27) (w2 := (wM cy ad S_2)) hx hb hts hiX3 tyX3 tyX3_ok nmX3 hown hK hI 0 rfl rfl 0 (by decide) (hts (.fieldLink RX3 56 "NoughtSumsModel" "thrown" "I") (by decide +kernel)) (fun _ h9 => h9) rfl (by decide +kernel) rfl rfl (Nat.le_of_ble_eq_true rfl) dX3_count_2 (by rw [eS_2]; rfl) (fun H locs hI => ?_)
  refine lv_iconst (v := 0) hx hb dX3_count_5 (by decide) ?_
  refine lv_istore_n (lv' := [(2, .int (0 : Int32)), (0, .ref (ad 0)), (1, .int a1)]) hx hb dX3_count_6 rfl hl (by decide) rfl (fun ls hl => ?_)
  refine lv_iconst (v := 0) hx hb dX3_count_7 (by decide) ?_
  refine lv_istore_n (lv' := [(3, .int (0 : Int32)), (2, .int (0 : Int32)), (0, .ref (ad 0)), (1, .int a1)]) hx hb dX3_count_8 rfl hl (by decide) rfl (fun ls hl => ?_)
  exact hb9 zF a1 (0 : Int32) (0 : Int32) S_2 _ _ _ hf hI (lv_sub hl [2, 3, 1, 0] rfl)

def fX3_trace  (S : MS) : Option (Int64 × MS) :=
(zL (m_thrown_u S (0 : Int32)) (fun S_2 =>
some ((m_trace S_2), S_2)))
set_option maxHeartbeats 4000000 in
set_option maxRecDepth 100000 in
theorem kX3_trace (l : Launch) (zq : Nat → Nat) (D : va_G) (cy : Nat → ClassId) (ad : Nat → Nat)  (S S' : MS) (r : Int64) (hf : fX3_trace S = some (r, S')) : zMet l yX3_trace wsX3_trace 0 0 zq D (tM cy) (wM cy ad S) [.ref (ad 0)] (some (.long r)) (wM cy ad S') := by
  refine zMet.of cX3_trace 1 (some .long) (by decide) rfl (Nat.le_of_ble_eq_true rfl) ?_
  intro p e s m args below meth c A ls C hl hI
  have hl : lv_has ls 1 [(0, .ref (ad 0))] := hl
  have C : zC p s m args meth c cX3_trace 1 (some .long) RX3 wsX3_trace D (tM cy) zq A := C
  obtain ⟨hx, hb, hml, hown, hts, hret, hlk, hK, hX, hA⟩ := id C
  have hiX3 : ∀ w ∈ wsX30, w ∈ wsX3_trace := by decide +kernel
  obtain ⟨Q, hQ⟩ : ∃ Q, Q = MQ below (zQ D (tM cy) (wM cy ad S') (some (.long r)) A) args s 0 0 A := ⟨_, rfl⟩
  rw [← hQ]
  unfold fX3_trace at hf
  refine lv_aload_n hx hb dX3_trace_0 rfl (lv_at hl 0 rfl) ?_
  refine lv_iconst (v := 0) hx hb dX3_trace_1 (by decide) ?_
  obtain ⟨S_2, eS_2, hf⟩ := zL_e hf
  refine z_put (D := D) (ci := 3) (v := .int (0 : Int32)) (ty := .int) (C := RX3) (T := TX3) (N := 27) (w2 := (wM cy ad S_2)) hx hb hts hiX3 tyX3 tyX3_ok nmX3 hown hK hI 0 rfl rfl 0 (by decide) (hts (.fieldLink RX3 56 "NoughtSumsModel" "thrown" "I") (by decide +kernel)) (fun _ h9 => h9) rfl (by decide +kernel) rfl rfl (Nat.le_of_ble_eq_true rfl) dX3_trace_2 (by rw [eS_2]; rfl) (fun H locs hI => ?_)
  refine lv_aload_n hx hb dX3_trace_5 rfl (lv_at hl 0 rfl) ?_
  refine va_get (D := D) (ci := 3) (v := .long (m_trace S_2)) (C := RX3) (T := TX3) (N := 27) hx hb hts hiX3 hown hK hI.1 0 rfl rfl 1 (by decide) (hts (.fieldLink RX3 202 "NoughtSumsModel" "trace" "J") (by decide +kernel)) (fun _ h9 => h9) rfl dX3_trace_6 ?_
  obtain ⟨h1, h2⟩ := zP2 hf
  rw [hQ]
  exact z_lret C (by rw [h2]; exact hI) (by rw [h1]) dX3_trace_9

