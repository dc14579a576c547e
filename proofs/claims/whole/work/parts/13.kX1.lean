def fX1_append (a1 : Int32) (S : TS) : Option TS :=
(if (t_length S) < 0 then some S else
(if (400 : Int32) ≤ (t_length S) then some S else
(zGI (t_length S) 400
(zL (t_bytes_u S (upd (t_bytes S) (t_length S).toNatClampNeg a1)) (fun S_26 =>
(zL (t_length_u S_26 ((t_length S_26) + (1 : Int32))) (fun S_34 =>
some S_34)))))))
set_option maxHeartbeats 4000000 in
set_option maxRecDepth 100000 in
theorem kX1_append (l : Launch) (zq : Nat → Nat) (D : va_G) (cy : Nat → ClassId) (ad : Nat → Nat) (a1 : Int32) (S S' : TS) (hf : fX1_append a1 S = some S') : zMet l yX1_append wsX1_append 0 0 zq D (tT cy) (wT cy ad S) [.ref (ad 0), .int a1] none (wT cy ad S') := by
  refine zMet.of cX1_append 2 none (by decide) rfl (Nat.le_of_ble_eq_true rfl) ?_
  intro p e s m args below meth c A ls C hl hI
  have hl : lv_has ls 2 [(0, .ref (ad 0)), (1, .int a1)] := hl
  have C : zC p s m args meth c cX1_append 2 none RX1 wsX1_append D (tT cy) zq A := C
  obtain ⟨hx, hb, hml, hown, hts, hret, hlk, hK, hX, hA⟩ := id C
  have hiX1 : ∀ w ∈ wsX10, w ∈ wsX1_append := by decide +kernel
  obtain ⟨Q, hQ⟩ : ∃ Q, Q = MQ below (zQ D (tT cy) (wT cy ad S') none A) args s 0 0 A := ⟨_, rfl⟩
  rw [← hQ]
  unfold fX1_append at hf
  refine lv_aload_n hx hb dX1_append_0 rfl (lv_at hl 0 rfl) ?_
  refine va_get (D := D) (ci := 1) (v := .int (t_length S)) (C := RX1) (T := TX1) (N := 11) hx hb hts hiX1 hown hK hI.1 0 rfl rfl 1 (by decide) (hts (.fieldLink RX1 15 "NoughtSums$Text" "length" "I") (by decide +kernel)) (fun _ h9 => h9) rfl dX1_append_1 ?_
  refine lv_if_lt (tgt := 37) hx hb dX1_append_4 (by decide) (fun c_4 => ?_) (fun c_4 => ?_)
  · replace hf := zIt c_4 hf
    have h2 := zP1 hf
    rw [hQ]
    exact z_vret C (by rw [h2]; exact hI) rfl dX1_append_37
  · replace hf := zIf c_4 hf
    refine lv_aload_n hx hb dX1_append_7 rfl (lv_at hl 0 rfl) ?_
    refine va_get (D := D) (ci := 1) (v := .int (t_length S)) (C := RX1) (T := TX1) (N := 11) hx hb hts hiX1 hown hK hI.1 0 rfl rfl 1 (by decide) (hts (.fieldLink RX1 15 "NoughtSums$Text" "length" "I") (by decide +kernel)) (fun _ h9 => h9) rfl dX1_append_8 ?_
    refine lv_sipush (v := 400) hx hb dX1_append_11 (by decide) ?_
    refine lv_icmp_ge (tgt := 37) hx hb dX1_append_14 (by decide) (fun c_14 => ?_) (fun c_14 => ?_)
    · replace hf := zIt c_14 hf
      have h2 := zP1 hf
      rw [hQ]
      exact z_vret C (by rw [h2]; exact hI) rfl dX1_append_37
    · replace hf := zIf c_14 hf
      refine lv_aload_n hx hb dX1_append_17 rfl (lv_at hl 0 rfl) ?_
      refine va_get (D := D) (ci := 1) (v := .ref (ad 1)) (C := RX1) (T := TX1) (N := 11) hx hb hts hiX1 hown hK hI.1 0 rfl rfl 0 (by decide) (hts (.fieldLink RX1 9 "NoughtSums$Text" "bytes" "[I") (by decide +kernel)) (fun _ h9 => h9) rfl dX1_append_18 ?_
      refine lv_aload_n hx hb dX1_append_21 rfl (lv_at hl 0 rfl) ?_
      refine va_get (D := D) (ci := 1) (v := .int (t_length S)) (C := RX1) (T := TX1) (N := 11) hx hb hts hiX1 hown hK hI.1 0 rfl rfl 1 (by decide) (hts (.fieldLink RX1 15 "NoughtSums$Text" "length" "I") (by decide +kernel)) (fun _ h9 => h9) rfl dX1_append_22 ?_
      refine lv_iload_n hx hb dX1_append_25 rfl (lv_at hl 1 rfl) ?_
      obtain ⟨g_26, hf⟩ := zGI_s hf
      obtain ⟨S_26, eS_26, hf⟩ := zL_e hf
      refine z_iast (f := (t_bytes S)) (w2 := (wT cy ad S_26)) hx hb hK hI 1 0 rfl rfl g_26 dX1_append_26 (by rw [eS_26]; rfl) (fun H locs hI => ?_)
      refine lv_aload_n hx hb dX1_append_27 rfl (lv_at hl 0 rfl) ?_
      refine lv_dup hx hb dX1_append_28 rfl ?_
      refine va_get (D := D) (ci := 1) (v := .int (t_length S_26)) (C := RX1) (T := TX1) (N := 11) hx hb hts hiX1 hown hK hI.1 0 rfl rfl 1 (by decide) (hts (.fieldLink RX1 15 "NoughtSums$Text" "length" "I") (by decide +kernel)) (fun _ h9 => h9) rfl dX1_append_29 ?_
      refine lv_iconst (v := 1) hx hb dX1_append_32 (by decide) ?_
      refine lv_iadd hx hb dX1_append_33 ?_
      obtain ⟨S_34, eS_34, hf⟩ := zL_e hf
      refine z_put (D := D) (ci := 1) (v := .int ((t_length S_26) + (1 : Int32))) (ty := .int) (C := RX1) (T := TX1) (N := 11) (w2 := (wT cy ad S_34)) hx hb hts hiX1 tyX1 tyX1_ok nmX1 hown hK hI 0 rfl rfl 1 (by decide) (hts (.fieldLink RX1 15 "NoughtSums$Text" "length" "I") (by decide +kernel)) (fun _ h9 => h9) rfl (by decide +kernel) rfl rfl (Nat.le_of_ble_eq_true rfl) dX1_append_34 (by rw [eS_34]; rfl) (fun H locs hI => ?_)
      have h2 := zP1 hf
      rw [hQ]
      exact z_vret C (by rw [h2]; exact hI) rfl dX1_append_37

def fX1_byteAt (a1 : Int32) (S : TS) : Option (Int32 × TS) :=
(if a1 < 0 then some ((0 : Int32), S) else
(if (t_length S) ≤ a1 then some ((0 : Int32), S) else
(if (400 : Int32) ≤ a1 then some ((0 : Int32), S) else
(zGI a1 400
(some (((t_bytes S) a1.toNatClampNeg), S))))))
set_option maxHeartbeats 4000000 in
set_option maxRecDepth 100000 in
theorem kX1_byteAt (l : Launch) (zq : Nat → Nat) (D : va_G) (cy : Nat → ClassId) (ad : Nat → Nat) (a1 : Int32) (S S' : TS) (r : Int32) (hf : fX1_byteAt a1 S = some (r, S')) : zMet l yX1_byteAt wsX1_byteAt 0 0 zq D (tT cy) (wT cy ad S) [.ref (ad 0), .int a1] (some (.int r)) (wT cy ad S') := by
  refine zMet.of cX1_byteAt 2 (some .int) (by decide) rfl (Nat.le_of_ble_eq_true rfl) ?_
  intro p e s m args below meth c A ls C hl hI
  have hl : lv_has ls 2 [(0, .ref (ad 0)), (1, .int a1)] := hl
  have C : zC p s m args meth c cX1_byteAt 2 (some .int) RX1 wsX1_byteAt D (tT cy) zq A := C
  obtain ⟨hx, hb, hml, hown, hts, hret, hlk, hK, hX, hA⟩ := id C
  have hiX1 : ∀ w ∈ wsX10, w ∈ wsX1_byteAt := by decide +kernel
  obtain ⟨Q, hQ⟩ : ∃ Q, Q = MQ below (zQ D (tT cy) (wT cy ad S') (some (.int r)) A) args s 0 0 A := ⟨_, rfl⟩
  rw [← hQ]
  unfold fX1_byteAt at hf
  refine lv_iload_n hx hb dX1_byteAt_0 rfl (lv_at hl 1 rfl) ?_
  refine lv_if_lt (tgt := 28) hx hb dX1_byteAt_1 (by decide) (fun c_1 => ?_) (fun c_1 => ?_)
  · replace hf := zIt c_1 hf
    refine lv_iconst (v := 0) hx hb dX1_byteAt_28 (by decide) ?_
    obtain ⟨h1, h2⟩ := zP2 hf
    rw [hQ]
    exact z_iret C (by rw [h2]; exact hI) (by rw [h1]) dX1_byteAt_29
  · replace hf := zIf c_1 hf
    refine lv_iload_n hx hb dX1_byteAt_4 rfl (lv_at hl 1 rfl) ?_
    refine lv_aload_n hx hb dX1_byteAt_5 rfl (lv_at hl 0 rfl) ?_
    refine va_get (D := D) (ci := 1) (v := .int (t_length S)) (C := RX1) (T := TX1) (N := 11) hx hb hts hiX1 hown hK hI.1 0 rfl rfl 1 (by decide) (hts (.fieldLink RX1 15 "NoughtSums$Text" "length" "I") (by decide +kernel)) (fun _ h9 => h9) rfl dX1_byteAt_6 ?_
    refine lv_icmp_ge (tgt := 28) hx hb dX1_byteAt_9 (by decide) (fun c_9 => ?_) (fun c_9 => ?_)
    · replace hf := zIt c_9 hf
      refine lv_iconst (v := 0) hx hb dX1_byteAt_28 (by decide) ?_
      obtain ⟨h1, h2⟩ := zP2 hf
      rw [hQ]
      exact z_iret C (by rw [h2]; exact hI) (by rw [h1]) dX1_byteAt_29
    · replace hf := zIf c_9 hf
      refine lv_iload_n hx hb dX1_byteAt_12 rfl (lv_at hl 1 rfl) ?_
      refine lv_sipush (v := 400) hx hb dX1_byteAt_13 (by decide) ?_
      refine lv_icmp_ge (tgt := 28) hx hb dX1_byteAt_16 (by decide) (fun c_16 => ?_) (fun c_16 => ?_)
      · replace hf := zIt c_16 hf
        refine lv_iconst (v := 0) hx hb dX1_byteAt_28 (by decide) ?_
        obtain ⟨h1, h2⟩ := zP2 hf
        rw [hQ]
        exact z_iret C (by rw [h2]; exact hI) (by rw [h1]) dX1_byteAt_29
      · replace hf := zIf c_16 hf
        refine lv_aload_n hx hb dX1_byteAt_19 rfl (lv_at hl 0 rfl) ?_
        refine va_get (D := D) (ci := 1) (v := .ref (ad 1)) (C := RX1) (T := TX1) (N := 11) hx hb hts hiX1 hown hK hI.1 0 rfl rfl 0 (by decide) (hts (.fieldLink RX1 9 "NoughtSums$Text" "bytes" "[I") (by decide +kernel)) (fun _ h9 => h9) rfl dX1_byteAt_20 ?_
        refine lv_iload_n hx hb dX1_byteAt_23 rfl (lv_at hl 1 rfl) ?_
        obtain ⟨g_24, hf⟩ := zGI_s hf
        refine va_iald (f := (t_bytes S)) hx hb hK hI.1 1 0 rfl rfl g_24 dX1_byteAt_24 ?_
        refine lv_goto (tgt := 29) hx hb dX1_byteAt_25 (by decide) ?_
        obtain ⟨h1, h2⟩ := zP2 hf
        rw [hQ]
        exact z_iret C (by rw [h2]; exact hI) (by rw [h1]) dX1_byteAt_29

def fX1_isSmallLetter (a0 : Int32) : Option Int32 :=
(if a0 < (97 : Int32) then some (0 : Int32) else
(if (122 : Int32) < a0 then some (0 : Int32) else
some (1 : Int32)))
set_option maxHeartbeats 4000000 in
set_option maxRecDepth 100000 in
theorem kX1_isSmallLetter (l : Launch) (zq : Nat → Nat) (D : va_G) (a0 : Int32) (r : Int32) (hf : fX1_isSmallLetter a0 = some r) : zMet l yX1_isSmallLetter wsX1_isSmallLetter 0 0 zq D [] [] [.int a0] (some (.int r)) [] := by
  refine zMet.of cX1_isSmallLetter 1 (some .boolean) (by decide) rfl (Nat.le_of_ble_eq_true rfl) ?_
  intro p e s m args below meth c A ls C hl hI
  have hl : lv_has ls 1 [(0, .int a0)] := hl
  have C : zC p s m args meth c cX1_isSmallLetter 1 (some .boolean) RX1 wsX1_isSmallLetter D [] zq A := C
  obtain ⟨hx, hb, hml, hown, hts, hret, hlk, hK, hX, hA⟩ := id C
  obtain ⟨Q, hQ⟩ : ∃ Q, Q = MQ below (zQ D [] [] (some (.int r)) A) args s 0 0 A := ⟨_, rfl⟩
  rw [← hQ]
  unfold fX1_isSmallLetter at hf
  refine lv_iload_n hx hb dX1_isSmallLetter_0 rfl (lv_at hl 0 rfl) ?_
  refine lv_bipush (v := 97) hx hb dX1_isSmallLetter_1 (by decide) ?_
  refine lv_icmp_lt (tgt := 16) hx hb dX1_isSmallLetter_3 (by decide) (fun c_3 => ?_) (fun c_3 => ?_)
  · replace hf := zIt c_3 hf
    refine lv_iconst (v := 0) hx hb dX1_isSmallLetter_16 (by decide) ?_
    have h1 := zP1 hf
    rw [hQ]
    exact z_zret C hI (by rw [h1]) rfl dX1_isSmallLetter_17
  · replace hf := zIf c_3 hf
    refine lv_iload_n hx hb dX1_isSmallLetter_6 rfl (lv_at hl 0 rfl) ?_
    refine lv_bipush (v := 122) hx hb dX1_isSmallLetter_7 (by decide) ?_
    refine lv_icmp_gt (tgt := 16) hx hb dX1_isSmallLetter_9 (by decide) (fun c_9 => ?_) (fun c_9 => ?_)
    · replace hf := zIt c_9 hf
      refine lv_iconst (v := 0) hx hb dX1_isSmallLetter_16 (by decide) ?_
      have h1 := zP1 hf
      rw [hQ]
      exact z_zret C hI (by rw [h1]) rfl dX1_isSmallLetter_17
    · replace hf := zIf c_9 hf
      refine lv_iconst (v := 1) hx hb dX1_isSmallLetter_12 (by decide) ?_
      refine lv_goto (tgt := 17) hx hb dX1_isSmallLetter_13 (by decide) ?_
      have h1 := zP1 hf
      rw [hQ]
      exact z_zret C hI (by rw [h1]) rfl dX1_isSmallLetter_17

def fX1_isWord_0_b37 (k37 : Int32 → TS → Option (Int32 × TS)) (v2 : Int32) (S : TS) : Option (Int32 × TS) :=
(zB1 (fJ0_length_8abf5 0 ) (fun r_39 =>
(if r_39 ≤ v2 then some ((1 : Int32), S) else
(zGI ((t_start S) + v2) 400
((zB1 (fJ0_charAt_5068e 0 v2) (fun r_58 =>
(if ((t_bytes S) ((t_start S) + v2).toNatClampNeg) = r_58 then k37 (v2 + (1 : Int32)) S else
some ((0 : Int32), S)))))))))
def fX1_isWord_0_b37L : Nat → Int32 → TS → Option (Int32 × TS)
  | 0, _, _ => none
  | n + 1, v2, S => fX1_isWord_0_b37 (fX1_isWord_0_b37L n) v2 S

def fX1_isWord_0  (S : TS) : Option (Int32 × TS) :=
(if (t_start S) < 0 then some ((0 : Int32), S) else
(if (400 : Int32) < (t_place S) then some ((0 : Int32), S) else
(zB1 (fJ0_length_8abf5 0 ) (fun r_27 =>
(if ((t_place S) - (t_start S)) = r_27 then fX1_isWord_0_b37L zF (0 : Int32) S else
some ((0 : Int32), S))))))
set_option maxHeartbeats 4000000 in
set_option maxRecDepth 100000 in
theorem kX1_isWord_0 (l : Launch) (zq : Nat → Nat) (D : va_G) (cy : Nat → ClassId) (ad : Nat → Nat)  (S S' : TS) (r : Int32) (hf : fX1_isWord_0 S = some (r, S')) : zMet l yX1_isWord wsX1_isWord 5 106 zq D (tT cy) (wT cy ad S) [.ref (ad 0), .ref (zq 2)] (some (.int r)) (wT cy ad S') := by
  refine zMet.of cX1_isWord 3 (some .boolean) (by decide) rfl (Nat.le_of_ble_eq_true rfl) ?_
  intro p e s m args below meth c A ls C hl hI
  have hl : lv_has ls 3 [(0, .ref (ad 0)), (1, .ref (zq 2))] := hl
  have C : zC p s m args meth c cX1_isWord 3 (some .boolean) RX1 wsX1_isWord D (tT cy) zq A := C
  obtain ⟨hx, hb, hml, hown, hts, hret, hlk, hK, hX, hA⟩ := id C
  have hiX1 : ∀ w ∈ wsX10, w ∈ wsX1_isWord := by decide +kernel
  obtain ⟨Q, hQ⟩ : ∃ Q, Q = MQ below (zQ D (tT cy) (wT cy ad S') (some (.int r)) A) args s 0 0 A := ⟨_, rfl⟩
  rw [← hQ]
  have hb37 : ∀ (n : Nat), ∀ (v2 : Int32) (S : TS) (H : Heap) (locs : List Loc) (ls : Array Slot), fX1_isWord_0_b37L n v2 S = some (r, S') → zI D A s H locs (wT cy ad S) → lv_has ls 3 [(0, .ref (ad 0)), (1, .ref (zq 2)), (2, .int v2)] → W p l e { frames := 5, cells := 0, slots := 0, locals := 106 } s m args below meth c H locs 0 0 Q (F0 m 37 ls []) := by
    intro n
    induction n with
    | zero => intro v2 S H locs ls hf; cases (show (none : Option (Int32 × TS)) = some (r, S') from hf)
    | succ n ih =>
      intro v2 S H locs ls hf hI hl
      have hf : fX1_isWord_0_b37 (fX1_isWord_0_b37L n) v2 S = some (r, S') := hf
      unfold fX1_isWord_0_b37 at hf
      refine lv_iload_n hx hb dX1_isWord_37 rfl (lv_at hl 2 rfl) ?_
      refine lv_aload_n hx hb dX1_isWord_38 rfl (lv_at hl 1 rfl) ?_
      obtain ⟨r_39, hf_39, hf⟩ := zB1_s hf
      refine z_callT C 0 0 (by decide) (kJ0_length_8abf5 l zq D 0 (by decide)  r_39 hf_39) gX1_isWord_J0_length_8abf5 rfl (by decide +kernel) ⟨by decide, by decide⟩ hI rfl hl.1 rfl (Nat.le_of_ble_eq_true rfl) dX1_isWord_39 ⟨by decide, by decide⟩ (st2 := [.int r_39, .int v2]) rfl (fun H locs hI => ?_)
      refine lv_icmp_ge (tgt := 72) hx hb dX1_isWord_42 (by decide) (fun c_42 => ?_) (fun c_42 => ?_)
      · replace hf := zIt c_42 hf
        refine lv_iconst (v := 1) hx hb dX1_isWord_72 (by decide) ?_
        obtain ⟨h1, h2⟩ := zP2 hf
        rw [hQ]
        exact z_zret C (by rw [h2]; exact hI) (by rw [h1]) rfl dX1_isWord_73
      · replace hf := zIf c_42 hf
        refine lv_aload_n hx hb dX1_isWord_45 rfl (lv_at hl 0 rfl) ?_
        refine va_get (D := D) (ci := 1) (v := .ref (ad 1)) (C := RX1) (T := TX1) (N := 11) hx hb hts hiX1 hown hK hI.1 0 rfl rfl 0 (by decide) (hts (.fieldLink RX1 9 "NoughtSums$Text" "bytes" "[I") (by decide +kernel)) (fun _ h9 => h9) rfl dX1_isWord_46 ?_
        refine lv_aload_n hx hb dX1_isWord_49 rfl (lv_at hl 0 rfl) ?_
        refine va_get (D := D) (ci := 1) (v := .int (t_start S)) (C := RX1) (T := TX1) (N := 11) hx hb hts hiX1 hown hK hI.1 0 rfl rfl 3 (by decide) (hts (.fieldLink RX1 22 "NoughtSums$Text" "start" "I") (by decide +kernel)) (fun _ h9 => h9) rfl dX1_isWord_50 ?_
        refine lv_iload_n hx hb dX1_isWord_53 rfl (lv_at hl 2 rfl) ?_
        refine lv_iadd hx hb dX1_isWord_54 ?_
        obtain ⟨g_55, hf⟩ := zGI_s hf
        refine va_iald (f := (t_bytes S)) hx hb hK hI.1 1 0 rfl rfl g_55 dX1_isWord_55 ?_
        refine lv_aload_n hx hb dX1_isWord_56 rfl (lv_at hl 1 rfl) ?_
        refine lv_iload_n hx hb dX1_isWord_57 rfl (lv_at hl 2 rfl) ?_
        obtain ⟨r_58, hf_58, hf⟩ := zB1_s hf
        refine z_callT C 1 0 (by decide) (kJ0_charAt_5068e l zq D 0 (by decide) v2 r_58 hf_58) gX1_isWord_J0_charAt_5068e rfl (by decide +kernel) ⟨by decide, by decide⟩ hI rfl hl.1 rfl (Nat.le_of_ble_eq_true rfl) dX1_isWord_58 ⟨by decide, by decide⟩ (st2 := [.int r_58, .int ((t_bytes S) ((t_start S) + v2).toNatClampNeg)]) rfl (fun H locs hI => ?_)
        refine lv_icmp_eq (tgt := 66) hx hb dX1_isWord_61 (by decide) (fun c_61 => ?_) (fun c_61 => ?_)
        · replace hf := zIt c_61 hf
          refine lv_iinc (v := (v2 + (1 : Int32))) (lv' := [(2, .int (v2 + (1 : Int32))), (0, .ref (ad 0)), (1, .ref (zq 2))]) hx hb dX1_isWord_66 hl (k := 2) rfl rfl (by decide) rfl (fun ls hl => ?_)
          refine lv_goto (tgt := 37) hx hb dX1_isWord_69 (by decide) ?_
          exact ih (v2 + (1 : Int32)) S _ _ _ hf hI (lv_sub hl [1, 2, 0] rfl)
        · replace hf := zIf c_61 hf
          refine lv_iconst (v := 0) hx hb dX1_isWord_64 (by decide) ?_
          obtain ⟨h1, h2⟩ := zP2 hf
          rw [hQ]
          exact z_zret C (by rw [h2]; exact hI) (by rw [h1]) rfl dX1_isWord_65
  unfold fX1_isWord_0 at hf
  refine lv_aload_n hx hb dX1_isWord_0 rfl (lv_at hl 0 rfl) ?_
  refine va_get (D := D) (ci := 1) (v := .int (t_start S)) (C := RX1) (T := TX1) (N := 11) hx hb hts hiX1 hown hK hI.1 0 rfl rfl 3 (by decide) (hts (.fieldLink RX1 22 "NoughtSums$Text" "start" "I") (by decide +kernel)) (fun _ h9 => h9) rfl dX1_isWord_1 ?_
  refine lv_if_lt (tgt := 33) hx hb dX1_isWord_4 (by decide) (fun c_4 => ?_) (fun c_4 => ?_)
  · replace hf := zIt c_4 hf
    refine lv_iconst (v := 0) hx hb dX1_isWord_33 (by decide) ?_
    obtain ⟨h1, h2⟩ := zP2 hf
    rw [hQ]
    exact z_zret C (by rw [h2]; exact hI) (by rw [h1]) rfl dX1_isWord_34
  · replace hf := zIf c_4 hf
    refine lv_aload_n hx hb dX1_isWord_7 rfl (lv_at hl 0 rfl) ?_
    refine va_get (D := D) (ci := 1) (v := .int (t_place S)) (C := RX1) (T := TX1) (N := 11) hx hb hts hiX1 hown hK hI.1 0 rfl rfl 2 (by decide) (hts (.fieldLink RX1 19 "NoughtSums$Text" "place" "I") (by decide +kernel)) (fun _ h9 => h9) rfl dX1_isWord_8 ?_
    refine lv_sipush (v := 400) hx hb dX1_isWord_11 (by decide) ?_
    refine lv_icmp_gt (tgt := 33) hx hb dX1_isWord_14 (by decide) (fun c_14 => ?_) (fun c_14 => ?_)
    · replace hf := zIt c_14 hf
      refine lv_iconst (v := 0) hx hb dX1_isWord_33 (by decide) ?_
      obtain ⟨h1, h2⟩ := zP2 hf
      rw [hQ]
      exact z_zret C (by rw [h2]; exact hI) (by rw [h1]) rfl dX1_isWord_34
    · replace hf := zIf c_14 hf
      refine lv_aload_n hx hb dX1_isWord_17 rfl (lv_at hl 0 rfl) ?_
      refine va_get (D := D) (ci := 1) (v := .int (t_place S)) (C := RX1) (T := TX1) (N := 11) hx hb hts hiX1 hown hK hI.1 0 rfl rfl 2 (by decide) (hts (.fieldLink RX1 19 "NoughtSums$Text" "place" "I") (by decide +kernel)) (fun _ h9 => h9) rfl dX1_isWord_18 ?_
      refine lv_aload_n hx hb dX1_isWord_21 rfl (lv_at hl 0 rfl) ?_
      refine va_get (D := D) (ci := 1) (v := .int (t_start S)) (C := RX1) (T := TX1) (N := 11) hx hb hts hiX1 hown hK hI.1 0 rfl rfl 3 (by decide) (hts (.fieldLink RX1 22 "NoughtSums$Text" "start" "I") (by decide +kernel)) (fun _ h9 => h9) rfl dX1_isWord_22 ?_
      refine lv_isub hx hb dX1_isWord_25 ?_
      refine lv_aload_n hx hb dX1_isWord_26 rfl (lv_at hl 1 rfl) ?_
      obtain ⟨r_27, hf_27, hf⟩ := zB1_s hf
      refine z_callT C 0 0 (by decide) (kJ0_length_8abf5 l zq D 0 (by decide)  r_27 hf_27) gX1_isWord_J0_length_8abf5 rfl (by decide +kernel) ⟨by decide, by decide⟩ hI rfl hl.1 rfl (Nat.le_of_ble_eq_true rfl) dX1_isWord_27 ⟨by decide, by decide⟩ (st2 := [.int r_27, .int ((t_place S) - (t_start S))]) rfl (fun H locs hI => ?_)
      refine lv_icmp_eq (tgt := 35) hx hb dX1_isWord_30 (by decide) (fun c_30 => ?_) (fun c_30 => ?_)
      · replace hf := zIt c_30 hf
        refine lv_iconst (v := 0) hx hb dX1_isWord_35 (by decide) ?_
        refine lv_istore_n (lv' := [(2, .int (0 : Int32)), (0, .ref (ad 0)), (1, .ref (zq 2))]) hx hb dX1_isWord_36 rfl hl (by decide) rfl (fun ls hl => ?_)
        exact hb37 zF (0 : Int32) S _ _ _ hf hI (lv_sub hl [1, 2, 0] rfl)
      · replace hf := zIf c_30 hf
        refine lv_iconst (v := 0) hx hb dX1_isWord_33 (by decide) ?_
        obtain ⟨h1, h2⟩ := zP2 hf
        rw [hQ]
        exact z_zret C (by rw [h2]; exact hI) (by rw [h1]) rfl dX1_isWord_34

def fX1_isWord_1_b37 (k37 : Int32 → TS → Option (Int32 × TS)) (v2 : Int32) (S : TS) : Option (Int32 × TS) :=
(zB1 (fJ0_length_8abf5 1 ) (fun r_39 =>
(if r_39 ≤ v2 then some ((1 : Int32), S) else
(zGI ((t_start S) + v2) 400
((zB1 (fJ0_charAt_5068e 1 v2) (fun r_58 =>
(if ((t_bytes S) ((t_start S) + v2).toNatClampNeg) = r_58 then k37 (v2 + (1 : Int32)) S else
some ((0 : Int32), S)))))))))
def fX1_isWord_1_b37L : Nat → Int32 → TS → Option (Int32 × TS)
  | 0, _, _ => none
  | n + 1, v2, S => fX1_isWord_1_b37 (fX1_isWord_1_b37L n) v2 S

def fX1_isWord_1  (S : TS) : Option (Int32 × TS) :=
(if (t_start S) < 0 then some ((0 : Int32), S) else
(if (400 : Int32) < (t_place S) then some ((0 : Int32), S) else
(zB1 (fJ0_length_8abf5 1 ) (fun r_27 =>
(if ((t_place S) - (t_start S)) = r_27 then fX1_isWord_1_b37L zF (0 : Int32) S else
some ((0 : Int32), S))))))
set_option maxHeartbeats 4000000 in
set_option maxRecDepth 100000 in
theorem kX1_isWord_1 (l : Launch) (zq : Nat → Nat) (D : va_G) (cy : Nat → ClassId) (ad : Nat → Nat)  (S S' : TS) (r : Int32) (hf : fX1_isWord_1 S = some (r, S')) : zMet l yX1_isWord wsX1_isWord 5 106 zq D (tT cy) (wT cy ad S) [.ref (ad 0), .ref (zq 3)] (some (.int r)) (wT cy ad S') := by
  refine zMet.of cX1_isWord 3 (some .boolean) (by decide) rfl (Nat.le_of_ble_eq_true rfl) ?_
  intro p e s m args below meth c A ls C hl hI
  have hl : lv_has ls 3 [(0, .ref (ad 0)), (1, .ref (zq 3))] := hl
  have C : zC p s m args meth c cX1_isWord 3 (some .boolean) RX1 wsX1_isWord D (tT cy) zq A := C
  obtain ⟨hx, hb, hml, hown, hts, hret, hlk, hK, hX, hA⟩ := id C
  have hiX1 : ∀ w ∈ wsX10, w ∈ wsX1_isWord := by decide +kernel
  obtain ⟨Q, hQ⟩ : ∃ Q, Q = MQ below (zQ D (tT cy) (wT cy ad S') (some (.int r)) A) args s 0 0 A := ⟨_, rfl⟩
  rw [← hQ]
  have hb37 : ∀ (n : Nat), ∀ (v2 : Int32) (S : TS) (H : Heap) (locs : List Loc) (ls : Array Slot), fX1_isWord_1_b37L n v2 S = some (r, S') → zI D A s H locs (wT cy ad S) → lv_has ls 3 [(0, .ref (ad 0)), (1, .ref (zq 3)), (2, .int v2)] → W p l e { frames := 5, cells := 0, slots := 0, locals := 106 } s m args below meth c H locs 0 0 Q (F0 m 37 ls []) := by
    intro n
    induction n with
    | zero => intro v2 S H locs ls hf; cases (show (none : Option (Int32 × TS)) = some (r, S') from hf)
    | succ n ih =>
      intro v2 S H locs ls hf hI hl
      have hf : fX1_isWord_1_b37 (fX1_isWord_1_b37L n) v2 S = some (r, S') := hf
      unfold fX1_isWord_1_b37 at hf
      refine lv_iload_n hx hb dX1_isWord_37 rfl (lv_at hl 2 rfl) ?_
      refine lv_aload_n hx hb dX1_isWord_38 rfl (lv_at hl 1 rfl) ?_
      obtain ⟨r_39, hf_39, hf⟩ := zB1_s hf
      refine z_callT C 0 1 (by decide) (kJ0_length_8abf5 l zq D 1 (by decide)  r_39 hf_39) gX1_isWord_J0_length_8abf5 rfl (by decide +kernel) ⟨by decide, by decide⟩ hI rfl hl.1 rfl (Nat.le_of_ble_eq_true rfl) dX1_isWord_39 ⟨by decide, by decide⟩ (st2 := [.int r_39, .int v2]) rfl (fun H locs hI => ?_)
      refine lv_icmp_ge (tgt := 72) hx hb dX1_isWord_42 (by decide) (fun c_42 => ?_) (fun c_42 => ?_)
      · replace hf := zIt c_42 hf
        refine lv_iconst (v := 1) hx hb dX1_isWord_72 (by decide) ?_
        obtain ⟨h1, h2⟩ := zP2 hf
        rw [hQ]
        exact z_zret C (by rw [h2]; exact hI) (by rw [h1]) rfl dX1_isWord_73
      · replace hf := zIf c_42 hf
        refine lv_aload_n hx hb dX1_isWord_45 rfl (lv_at hl 0 rfl) ?_
        refine va_get (D := D) (ci := 1) (v := .ref (ad 1)) (C := RX1) (T := TX1) (N := 11) hx hb hts hiX1 hown hK hI.1 0 rfl rfl 0 (by decide) (hts (.fieldLink RX1 9 "NoughtSums$Text" "bytes" "[I") (by decide +kernel)) (fun _ h9 => h9) rfl dX1_isWord_46 ?_
        refine lv_aload_n hx hb dX1_isWord_49 rfl (lv_at hl 0 rfl) ?_
        refine va_get (D := D) (ci := 1) (v := .int (t_start S)) (C := RX1) (T := TX1) (N := 11) hx hb hts hiX1 hown hK hI.1 0 rfl rfl 3 (by decide) (hts (.fieldLink RX1 22 "NoughtSums$Text" "start" "I") (by decide +kernel)) (fun _ h9 => h9) rfl dX1_isWord_50 ?_
        refine lv_iload_n hx hb dX1_isWord_53 rfl (lv_at hl 2 rfl) ?_
        refine lv_iadd hx hb dX1_isWord_54 ?_
        obtain ⟨g_55, hf⟩ := zGI_s hf
        refine va_iald (f := (t_bytes S)) hx hb hK hI.1 1 0 rfl rfl g_55 dX1_isWord_55 ?_
        refine lv_aload_n hx hb dX1_isWord_56 rfl (lv_at hl 1 rfl) ?_
        refine lv_iload_n hx hb dX1_isWord_57 rfl (lv_at hl 2 rfl) ?_
        obtain ⟨r_58, hf_58, hf⟩ := zB1_s hf
        refine z_callT C 1 1 (by decide) (kJ0_charAt_5068e l zq D 1 (by decide) v2 r_58 hf_58) gX1_isWord_J0_charAt_5068e rfl (by decide +kernel) ⟨by decide, by decide⟩ hI rfl hl.1 rfl (Nat.le_of_ble_eq_true rfl) dX1_isWord_58 ⟨by decide, by decide⟩ (st2 := [.int r_58, .int ((t_bytes S) ((t_start S) + v2).toNatClampNeg)]) rfl (fun H locs hI => ?_)
        refine lv_icmp_eq (tgt := 66) hx hb dX1_isWord_61 (by decide) (fun c_61 => ?_) (fun c_61 => ?_)
        · replace hf := zIt c_61 hf
          refine lv_iinc (v := (v2 + (1 : Int32))) (lv' := [(2, .int (v2 + (1 : Int32))), (0, .ref (ad 0)), (1, .ref (zq 3))]) hx hb dX1_isWord_66 hl (k := 2) rfl rfl (by decide) rfl (fun ls hl => ?_)
          refine lv_goto (tgt := 37) hx hb dX1_isWord_69 (by decide) ?_
          exact ih (v2 + (1 : Int32)) S _ _ _ hf hI (lv_sub hl [1, 2, 0] rfl)
        · replace hf := zIf c_61 hf
          refine lv_iconst (v := 0) hx hb dX1_isWord_64 (by decide) ?_
          obtain ⟨h1, h2⟩ := zP2 hf
          rw [hQ]
          exact z_zret C (by rw [h2]; exact hI) (by rw [h1]) rfl dX1_isWord_65
  unfold fX1_isWord_1 at hf
  refine lv_aload_n hx hb dX1_isWord_0 rfl (lv_at hl 0 rfl) ?_
  refine va_get (D := D) (ci := 1) (v := .int (t_start S)) (C := RX1) (T := TX1) (N := 11) hx hb hts hiX1 hown hK hI.1 0 rfl rfl 3 (by decide) (hts (.fieldLink RX1 22 "NoughtSums$Text" "start" "I") (by decide +kernel)) (fun _ h9 => h9) rfl dX1_isWord_1 ?_
  refine lv_if_lt (tgt := 33) hx hb dX1_isWord_4 (by decide) (fun c_4 => ?_) (fun c_4 => ?_)
  · replace hf := zIt c_4 hf
    refine lv_iconst (v := 0) hx hb dX1_isWord_33 (by decide) ?_
    obtain ⟨h1, h2⟩ := zP2 hf
    rw [hQ]
    exact z_zret C (by rw [h2]; exact hI) (by rw [h1]) rfl dX1_isWord_34
  · replace hf := zIf c_4 hf
    refine lv_aload_n hx hb dX1_isWord_7 rfl (lv_at hl 0 rfl) ?_
    refine va_get (D := D) (ci := 1) (v := .int (t_place S)) (C := RX1) (T := TX1) (N := 11) hx hb hts hiX1 hown hK hI.1 0 rfl rfl 2 (by decide) (hts (.fieldLink RX1 19 "NoughtSums$Text" "place" "I") (by decide +kernel)) (fun _ h9 => h9) rfl dX1_isWord_8 ?_
    refine lv_sipush (v := 400) hx hb dX1_isWord_11 (by decide) ?_
    refine lv_icmp_gt (tgt := 33) hx hb dX1_isWord_14 (by decide) (fun c_14 => ?_) (fun c_14 => ?_)
    · replace hf := zIt c_14 hf
      refine lv_iconst (v := 0) hx hb dX1_isWord_33 (by decide) ?_
      obtain ⟨h1, h2⟩ := zP2 hf
      rw [hQ]
      exact z_zret C (by rw [h2]; exact hI) (by rw [h1]) rfl dX1_isWord_34
    · replace hf := zIf c_14 hf
      refine lv_aload_n hx hb dX1_isWord_17 rfl (lv_at hl 0 rfl) ?_
      refine va_get (D := D) (ci := 1) (v := .int (t_place S)) (C := RX1) (T := TX1) (N := 11) hx hb hts hiX1 hown hK hI.1 0 rfl rfl 2 (by decide) (hts (.fieldLink RX1 19 "NoughtSums$Text" "place" "I") (by decide +kernel)) (fun _ h9 => h9) rfl dX1_isWord_18 ?_
      refine lv_aload_n hx hb dX1_isWord_21 rfl (lv_at hl 0 rfl) ?_
      refine va_get (D := D) (ci := 1) (v := .int (t_start S)) (C := RX1) (T := TX1) (N := 11) hx hb hts hiX1 hown hK hI.1 0 rfl rfl 3 (by decide) (hts (.fieldLink RX1 22 "NoughtSums$Text" "start" "I") (by decide +kernel)) (fun _ h9 => h9) rfl dX1_isWord_22 ?_
      refine lv_isub hx hb dX1_isWord_25 ?_
      refine lv_aload_n hx hb dX1_isWord_26 rfl (lv_at hl 1 rfl) ?_
      obtain ⟨r_27, hf_27, hf⟩ := zB1_s hf
      refine z_callT C 0 1 (by decide) (kJ0_length_8abf5 l zq D 1 (by decide)  r_27 hf_27) gX1_isWord_J0_length_8abf5 rfl (by decide +kernel) ⟨by decide, by decide⟩ hI rfl hl.1 rfl (Nat.le_of_ble_eq_true rfl) dX1_isWord_27 ⟨by decide, by decide⟩ (st2 := [.int r_27, .int ((t_place S) - (t_start S))]) rfl (fun H locs hI => ?_)
      refine lv_icmp_eq (tgt := 35) hx hb dX1_isWord_30 (by decide) (fun c_30 => ?_) (fun c_30 => ?_)
      · replace hf := zIt c_30 hf
        refine lv_iconst (v := 0) hx hb dX1_isWord_35 (by decide) ?_
        refine lv_istore_n (lv' := [(2, .int (0 : Int32)), (0, .ref (ad 0)), (1, .ref (zq 3))]) hx hb dX1_isWord_36 rfl hl (by decide) rfl (fun ls hl => ?_)
        exact hb37 zF (0 : Int32) S _ _ _ hf hI (lv_sub hl [1, 2, 0] rfl)
      · replace hf := zIf c_30 hf
        refine lv_iconst (v := 0) hx hb dX1_isWord_33 (by decide) ?_
        obtain ⟨h1, h2⟩ := zP2 hf
        rw [hQ]
        exact z_zret C (by rw [h2]; exact hI) (by rw [h1]) rfl dX1_isWord_34

def fX1_isWord_2_b37 (k37 : Int32 → TS → Option (Int32 × TS)) (v2 : Int32) (S : TS) : Option (Int32 × TS) :=
(zB1 (fJ0_length_8abf5 2 ) (fun r_39 =>
(if r_39 ≤ v2 then some ((1 : Int32), S) else
(zGI ((t_start S) + v2) 400
((zB1 (fJ0_charAt_5068e 2 v2) (fun r_58 =>
(if ((t_bytes S) ((t_start S) + v2).toNatClampNeg) = r_58 then k37 (v2 + (1 : Int32)) S else
some ((0 : Int32), S)))))))))
def fX1_isWord_2_b37L : Nat → Int32 → TS → Option (Int32 × TS)
  | 0, _, _ => none
  | n + 1, v2, S => fX1_isWord_2_b37 (fX1_isWord_2_b37L n) v2 S

def fX1_isWord_2  (S : TS) : Option (Int32 × TS) :=
(if (t_start S) < 0 then some ((0 : Int32), S) else
(if (400 : Int32) < (t_place S) then some ((0 : Int32), S) else
(zB1 (fJ0_length_8abf5 2 ) (fun r_27 =>
(if ((t_place S) - (t_start S)) = r_27 then fX1_isWord_2_b37L zF (0 : Int32) S else
some ((0 : Int32), S))))))
set_option maxHeartbeats 4000000 in
set_option maxRecDepth 100000 in
theorem kX1_isWord_2 (l : Launch) (zq : Nat → Nat) (D : va_G) (cy : Nat → ClassId) (ad : Nat → Nat)  (S S' : TS) (r : Int32) (hf : fX1_isWord_2 S = some (r, S')) : zMet l yX1_isWord wsX1_isWord 5 106 zq D (tT cy) (wT cy ad S) [.ref (ad 0), .ref (zq 4)] (some (.int r)) (wT cy ad S') := by
  refine zMet.of cX1_isWord 3 (some .boolean) (by decide) rfl (Nat.le_of_ble_eq_true rfl) ?_
  intro p e s m args below meth c A ls C hl hI
  have hl : lv_has ls 3 [(0, .ref (ad 0)), (1, .ref (zq 4))] := hl
  have C : zC p s m args meth c cX1_isWord 3 (some .boolean) RX1 wsX1_isWord D (tT cy) zq A := C
  obtain ⟨hx, hb, hml, hown, hts, hret, hlk, hK, hX, hA⟩ := id C
  have hiX1 : ∀ w ∈ wsX10, w ∈ wsX1_isWord := by decide +kernel
  obtain ⟨Q, hQ⟩ : ∃ Q, Q = MQ below (zQ D (tT cy) (wT cy ad S') (some (.int r)) A) args s 0 0 A := ⟨_, rfl⟩
  rw [← hQ]
  have hb37 : ∀ (n : Nat), ∀ (v2 : Int32) (S : TS) (H : Heap) (locs : List Loc) (ls : Array Slot), fX1_isWord_2_b37L n v2 S = some (r, S') → zI D A s H locs (wT cy ad S) → lv_has ls 3 [(0, .ref (ad 0)), (1, .ref (zq 4)), (2, .int v2)] → W p l e { frames := 5, cells := 0, slots := 0, locals := 106 } s m args below meth c H locs 0 0 Q (F0 m 37 ls []) := by
    intro n
    induction n with
    | zero => intro v2 S H locs ls hf; cases (show (none : Option (Int32 × TS)) = some (r, S') from hf)
    | succ n ih =>
      intro v2 S H locs ls hf hI hl
      have hf : fX1_isWord_2_b37 (fX1_isWord_2_b37L n) v2 S = some (r, S') := hf
      unfold fX1_isWord_2_b37 at hf
      refine lv_iload_n hx hb dX1_isWord_37 rfl (lv_at hl 2 rfl) ?_
      refine lv_aload_n hx hb dX1_isWord_38 rfl (lv_at hl 1 rfl) ?_
      obtain ⟨r_39, hf_39, hf⟩ := zB1_s hf
      refine z_callT C 0 2 (by decide) (kJ0_length_8abf5 l zq D 2 (by decide)  r_39 hf_39) gX1_isWord_J0_length_8abf5 rfl (by decide +kernel) ⟨by decide, by decide⟩ hI rfl hl.1 rfl (Nat.le_of_ble_eq_true rfl) dX1_isWord_39 ⟨by decide, by decide⟩ (st2 := [.int r_39, .int v2]) rfl (fun H locs hI => ?_)
      refine lv_icmp_ge (tgt := 72) hx hb dX1_isWord_42 (by decide) (fun c_42 => ?_) (fun c_42 => ?_)
      · replace hf := zIt c_42 hf
        refine lv_iconst (v := 1) hx hb dX1_isWord_72 (by decide) ?_
        obtain ⟨h1, h2⟩ := zP2 hf
        rw [hQ]
        exact z_zret C (by rw [h2]; exact hI) (by rw [h1]) rfl dX1_isWord_73
      · replace hf := zIf c_42 hf
        refine lv_aload_n hx hb dX1_isWord_45 rfl (lv_at hl 0 rfl) ?_
        refine va_get (D := D) (ci := 1) (v := .ref (ad 1)) (C := RX1) (T := TX1) (N := 11) hx hb hts hiX1 hown hK hI.1 0 rfl rfl 0 (by decide) (hts (.fieldLink RX1 9 "NoughtSums$Text" "bytes" "[I") (by decide +kernel)) (fun _ h9 => h9) rfl dX1_isWord_46 ?_
        refine lv_aload_n hx hb dX1_isWord_49 rfl (lv_at hl 0 rfl) ?_
        refine va_get (D := D) (ci := 1) (v := .int (t_start S)) (C := RX1) (T := TX1) (N := 11) hx hb hts hiX1 hown hK hI.1 0 rfl rfl 3 (by decide) (hts (.fieldLink RX1 22 "NoughtSums$Text" "start" "I") (by decide +kernel)) (fun _ h9 => h9) rfl dX1_isWord_50 ?_
        refine lv_iload_n hx hb dX1_isWord_53 rfl (lv_at hl 2 rfl) ?_
        refine lv_iadd hx hb dX1_isWord_54 ?_
        obtain ⟨g_55, hf⟩ := zGI_s hf
        refine va_iald (f := (t_bytes S)) hx hb hK hI.1 1 0 rfl rfl g_55 dX1_isWord_55 ?_
        refine lv_aload_n hx hb dX1_isWord_56 rfl (lv_at hl 1 rfl) ?_
        refine lv_iload_n hx hb dX1_isWord_57 rfl (lv_at hl 2 rfl) ?_
        obtain ⟨r_58, hf_58, hf⟩ := zB1_s hf
        refine z_callT C 1 2 (by decide) (kJ0_charAt_5068e l zq D 2 (by decide) v2 r_58 hf_58) gX1_isWord_J0_charAt_5068e rfl (by decide +kernel) ⟨by decide, by decide⟩ hI rfl hl.1 rfl (Nat.le_of_ble_eq_true rfl) dX1_isWord_58 ⟨by decide, by decide⟩ (st2 := [.int r_58, .int ((t_bytes S) ((t_start S) + v2).toNatClampNeg)]) rfl (fun H locs hI => ?_)
        refine lv_icmp_eq (tgt := 66) hx hb dX1_isWord_61 (by decide) (fun c_61 => ?_) (fun c_61 => ?_)
        · replace hf := zIt c_61 hf
          refine lv_iinc (v := (v2 + (1 : Int32))) (lv' := [(2, .int (v2 + (1 : Int32))), (0, .ref (ad 0)), (1, .ref (zq 4))]) hx hb dX1_isWord_66 hl (k := 2) rfl rfl (by decide) rfl (fun ls hl => ?_)
          refine lv_goto (tgt := 37) hx hb dX1_isWord_69 (by decide) ?_
          exact ih (v2 + (1 : Int32)) S _ _ _ hf hI (lv_sub hl [1, 2, 0] rfl)
        · replace hf := zIf c_61 hf
          refine lv_iconst (v := 0) hx hb dX1_isWord_64 (by decide) ?_
          obtain ⟨h1, h2⟩ := zP2 hf
          rw [hQ]
          exact z_zret C (by rw [h2]; exact hI) (by rw [h1]) rfl dX1_isWord_65
  unfold fX1_isWord_2 at hf
  refine lv_aload_n hx hb dX1_isWord_0 rfl (lv_at hl 0 rfl) ?_
  refine va_get (D := D) (ci := 1) (v := .int (t_start S)) (C := RX1) (T := TX1) (N := 11) hx hb hts hiX1 hown hK hI.1 0 rfl rfl 3 (by decide) (hts (.fieldLink RX1 22 "NoughtSums$Text" "start" "I") (by decide +kernel)) (fun _ h9 => h9) rfl dX1_isWord_1 ?_
  refine lv_if_lt (tgt := 33) hx hb dX1_isWord_4 (by decide) (fun c_4 => ?_) (fun c_4 => ?_)
  · replace hf := zIt c_4 hf
    refine lv_iconst (v := 0) hx hb dX1_isWord_33 (by decide) ?_
    obtain ⟨h1, h2⟩ := zP2 hf
    rw [hQ]
    exact z_zret C (by rw [h2]; exact hI) (by rw [h1]) rfl dX1_isWord_34
  · replace hf := zIf c_4 hf
    refine lv_aload_n hx hb dX1_isWord_7 rfl (lv_at hl 0 rfl) ?_
    refine va_get (D := D) (ci := 1) (v := .int (t_place S)) (C := RX1) (T := TX1) (N := 11) hx hb hts hiX1 hown hK hI.1 0 rfl rfl 2 (by decide) (hts (.fieldLink RX1 19 "NoughtSums$Text" "place" "I") (by decide +kernel)) (fun _ h9 => h9) rfl dX1_isWord_8 ?_
    refine lv_sipush (v := 400) hx hb dX1_isWord_11 (by decide) ?_
    refine lv_icmp_gt (tgt := 33) hx hb dX1_isWord_14 (by decide) (fun c_14 => ?_) (fun c_14 => ?_)
    · replace hf := zIt c_14 hf
      refine lv_iconst (v := 0) hx hb dX1_isWord_33 (by decide) ?_
      obtain ⟨h1, h2⟩ := zP2 hf
      rw [hQ]
      exact z_zret C (by rw [h2]; exact hI) (by rw [h1]) rfl dX1_isWord_34
    · replace hf := zIf c_14 hf
      refine lv_aload_n hx hb dX1_isWord_17 rfl (lv_at hl 0 rfl) ?_
      refine va_get (D := D) (ci := 1) (v := .int (t_place S)) (C := RX1) (T := TX1) (N := 11) hx hb hts hiX1 hown hK hI.1 0 rfl rfl 2 (by decide) (hts (.fieldLink RX1 19 "NoughtSums$Text" "place" "I") (by decide +kernel)) (fun _ h9 => h9) rfl dX1_isWord_18 ?_
      refine lv_aload_n hx hb dX1_isWord_21 rfl (lv_at hl 0 rfl) ?_
      refine va_get (D := D) (ci := 1) (v := .int (t_start S)) (C := RX1) (T := TX1) (N := 11) hx hb hts hiX1 hown hK hI.1 0 rfl rfl 3 (by decide) (hts (.fieldLink RX1 22 "NoughtSums$Text" "start" "I") (by decide +kernel)) (fun _ h9 => h9) rfl dX1_isWord_22 ?_
      refine lv_isub hx hb dX1_isWord_25 ?_
      refine lv_aload_n hx hb dX1_isWord_26 rfl (lv_at hl 1 rfl) ?_
      obtain ⟨r_27, hf_27, hf⟩ := zB1_s hf
      refine z_callT C 0 2 (by decide) (kJ0_length_8abf5 l zq D 2 (by decide)  r_27 hf_27) gX1_isWord_J0_length_8abf5 rfl (by decide +kernel) ⟨by decide, by decide⟩ hI rfl hl.1 rfl (Nat.le_of_ble_eq_true rfl) dX1_isWord_27 ⟨by decide, by decide⟩ (st2 := [.int r_27, .int ((t_place S) - (t_start S))]) rfl (fun H locs hI => ?_)
      refine lv_icmp_eq (tgt := 35) hx hb dX1_isWord_30 (by decide) (fun c_30 => ?_) (fun c_30 => ?_)
      · replace hf := zIt c_30 hf
        refine lv_iconst (v := 0) hx hb dX1_isWord_35 (by decide) ?_
        refine lv_istore_n (lv' := [(2, .int (0 : Int32)), (0, .ref (ad 0)), (1, .ref (zq 4))]) hx hb dX1_isWord_36 rfl hl (by decide) rfl (fun ls hl => ?_)
        exact hb37 zF (0 : Int32) S _ _ _ hf hI (lv_sub hl [1, 2, 0] rfl)
      · replace hf := zIf c_30 hf
        refine lv_iconst (v := 0) hx hb dX1_isWord_33 (by decide) ?_
        obtain ⟨h1, h2⟩ := zP2 hf
        rw [hQ]
        exact z_zret C (by rw [h2]; exact hI) (by rw [h1]) rfl dX1_isWord_34

def fX1_isWord_3_b37 (k37 : Int32 → TS → Option (Int32 × TS)) (v2 : Int32) (S : TS) : Option (Int32 × TS) :=
(zB1 (fJ0_length_8abf5 3 ) (fun r_39 =>
(if r_39 ≤ v2 then some ((1 : Int32), S) else
(zGI ((t_start S) + v2) 400
((zB1 (fJ0_charAt_5068e 3 v2) (fun r_58 =>
(if ((t_bytes S) ((t_start S) + v2).toNatClampNeg) = r_58 then k37 (v2 + (1 : Int32)) S else
some ((0 : Int32), S)))))))))
def fX1_isWord_3_b37L : Nat → Int32 → TS → Option (Int32 × TS)
  | 0, _, _ => none
  | n + 1, v2, S => fX1_isWord_3_b37 (fX1_isWord_3_b37L n) v2 S

def fX1_isWord_3  (S : TS) : Option (Int32 × TS) :=
(if (t_start S) < 0 then some ((0 : Int32), S) else
(if (400 : Int32) < (t_place S) then some ((0 : Int32), S) else
(zB1 (fJ0_length_8abf5 3 ) (fun r_27 =>
(if ((t_place S) - (t_start S)) = r_27 then fX1_isWord_3_b37L zF (0 : Int32) S else
some ((0 : Int32), S))))))
set_option maxHeartbeats 4000000 in
set_option maxRecDepth 100000 in
theorem kX1_isWord_3 (l : Launch) (zq : Nat → Nat) (D : va_G) (cy : Nat → ClassId) (ad : Nat → Nat)  (S S' : TS) (r : Int32) (hf : fX1_isWord_3 S = some (r, S')) : zMet l yX1_isWord wsX1_isWord 5 106 zq D (tT cy) (wT cy ad S) [.ref (ad 0), .ref (zq 5)] (some (.int r)) (wT cy ad S') := by
  refine zMet.of cX1_isWord 3 (some .boolean) (by decide) rfl (Nat.le_of_ble_eq_true rfl) ?_
  intro p e s m args below meth c A ls C hl hI
  have hl : lv_has ls 3 [(0, .ref (ad 0)), (1, .ref (zq 5))] := hl
  have C : zC p s m args meth c cX1_isWord 3 (some .boolean) RX1 wsX1_isWord D (tT cy) zq A := C
  obtain ⟨hx, hb, hml, hown, hts, hret, hlk, hK, hX, hA⟩ := id C
  have hiX1 : ∀ w ∈ wsX10, w ∈ wsX1_isWord := by decide +kernel
  obtain ⟨Q, hQ⟩ : ∃ Q, Q = MQ below (zQ D (tT cy) (wT cy ad S') (some (.int r)) A) args s 0 0 A := ⟨_, rfl⟩
  rw [← hQ]
  have hb37 : ∀ (n : Nat), ∀ (v2 : Int32) (S : TS) (H : Heap) (locs : List Loc) (ls : Array Slot), fX1_isWord_3_b37L n v2 S = some (r, S') → zI D A s H locs (wT cy ad S) → lv_has ls 3 [(0, .ref (ad 0)), (1, .ref (zq 5)), (2, .int v2)] → W p l e { frames := 5, cells := 0, slots := 0, locals := 106 } s m args below meth c H locs 0 0 Q (F0 m 37 ls []) := by
    intro n
    induction n with
    | zero => intro v2 S H locs ls hf; cases (show (none : Option (Int32 × TS)) = some (r, S') from hf)
    | succ n ih =>
      intro v2 S H locs ls hf hI hl
      have hf : fX1_isWord_3_b37 (fX1_isWord_3_b37L n) v2 S = some (r, S') := hf
      unfold fX1_isWord_3_b37 at hf
      refine lv_iload_n hx hb dX1_isWord_37 rfl (lv_at hl 2 rfl) ?_
      refine lv_aload_n hx hb dX1_isWord_38 rfl (lv_at hl 1 rfl) ?_
      obtain ⟨r_39, hf_39, hf⟩ := zB1_s hf
      refine z_callT C 0 3 (by decide) (kJ0_length_8abf5 l zq D 3 (by decide)  r_39 hf_39) gX1_isWord_J0_length_8abf5 rfl (by decide +kernel) ⟨by decide, by decide⟩ hI rfl hl.1 rfl (Nat.le_of_ble_eq_true rfl) dX1_isWord_39 ⟨by decide, by decide⟩ (st2 := [.int r_39, .int v2]) rfl (fun H locs hI => ?_)
      refine lv_icmp_ge (tgt := 72) hx hb dX1_isWord_42 (by decide) (fun c_42 => ?_) (fun c_42 => ?_)
      · replace hf := zIt c_42 hf
        refine lv_iconst (v := 1) hx hb dX1_isWord_72 (by decide) ?_
        obtain ⟨h1, h2⟩ := zP2 hf
        rw [hQ]
        exact z_zret C (by rw [h2]; exact hI) (by rw [h1]) rfl dX1_isWord_73
      · replace hf := zIf c_42 hf
        refine lv_aload_n hx hb dX1_isWord_45 rfl (lv_at hl 0 rfl) ?_
        refine va_get (D := D) (ci := 1) (v := .ref (ad 1)) (C := RX1) (T := TX1) (N := 11) hx hb hts hiX1 hown hK hI.1 0 rfl rfl 0 (by decide) (hts (.fieldLink RX1 9 "NoughtSums$Text" "bytes" "[I") (by decide +kernel)) (fun _ h9 => h9) rfl dX1_isWord_46 ?_
        refine lv_aload_n hx hb dX1_isWord_49 rfl (lv_at hl 0 rfl) ?_
        refine va_get (D := D) (ci := 1) (v := .int (t_start S)) (C := RX1) (T := TX1) (N := 11) hx hb hts hiX1 hown hK hI.1 0 rfl rfl 3 (by decide) (hts (.fieldLink RX1 22 "NoughtSums$Text" "start" "I") (by decide +kernel)) (fun _ h9 => h9) rfl dX1_isWord_50 ?_
        refine lv_iload_n hx hb dX1_isWord_53 rfl (lv_at hl 2 rfl) ?_
        refine lv_iadd hx hb dX1_isWord_54 ?_
        obtain ⟨g_55, hf⟩ := zGI_s hf
        refine va_iald (f := (t_bytes S)) hx hb hK hI.1 1 0 rfl rfl g_55 dX1_isWord_55 ?_
        refine lv_aload_n hx hb dX1_isWord_56 rfl (lv_at hl 1 rfl) ?_
        refine lv_iload_n hx hb dX1_isWord_57 rfl (lv_at hl 2 rfl) ?_
        obtain ⟨r_58, hf_58, hf⟩ := zB1_s hf
        refine z_callT C 1 3 (by decide) (kJ0_charAt_5068e l zq D 3 (by decide) v2 r_58 hf_58) gX1_isWord_J0_charAt_5068e rfl (by decide +kernel) ⟨by decide, by decide⟩ hI rfl hl.1 rfl (Nat.le_of_ble_eq_true rfl) dX1_isWord_58 ⟨by decide, by decide⟩ (st2 := [.int r_58, .int ((t_bytes S) ((t_start S) + v2).toNatClampNeg)]) rfl (fun H locs hI => ?_)
        refine lv_icmp_eq (tgt := 66) hx hb dX1_isWord_61 (by decide) (fun c_61 => ?_) (fun c_61 => ?_)
        · replace hf := zIt c_61 hf
          refine lv_iinc (v := (v2 + (1 : Int32))) (lv' := [(2, .int (v2 + (1 : Int32))), (0, .ref (ad 0)), (1, .ref (zq 5))]) hx hb dX1_isWord_66 hl (k := 2) rfl rfl (by decide) rfl (fun ls hl => ?_)
          refine lv_goto (tgt := 37) hx hb dX1_isWord_69 (by decide) ?_
          exact ih (v2 + (1 : Int32)) S _ _ _ hf hI (lv_sub hl [1, 2, 0] rfl)
        · replace hf := zIf c_61 hf
          refine lv_iconst (v := 0) hx hb dX1_isWord_64 (by decide) ?_
          obtain ⟨h1, h2⟩ := zP2 hf
          rw [hQ]
          exact z_zret C (by rw [h2]; exact hI) (by rw [h1]) rfl dX1_isWord_65
  unfold fX1_isWord_3 at hf
  refine lv_aload_n hx hb dX1_isWord_0 rfl (lv_at hl 0 rfl) ?_
  refine va_get (D := D) (ci := 1) (v := .int (t_start S)) (C := RX1) (T := TX1) (N := 11) hx hb hts hiX1 hown hK hI.1 0 rfl rfl 3 (by decide) (hts (.fieldLink RX1 22 "NoughtSums$Text" "start" "I") (by decide +kernel)) (fun _ h9 => h9) rfl dX1_isWord_1 ?_
  refine lv_if_lt (tgt := 33) hx hb dX1_isWord_4 (by decide) (fun c_4 => ?_) (fun c_4 => ?_)
  · replace hf := zIt c_4 hf
    refine lv_iconst (v := 0) hx hb dX1_isWord_33 (by decide) ?_
    obtain ⟨h1, h2⟩ := zP2 hf
    rw [hQ]
    exact z_zret C (by rw [h2]; exact hI) (by rw [h1]) rfl dX1_isWord_34
  · replace hf := zIf c_4 hf
    refine lv_aload_n hx hb dX1_isWord_7 rfl (lv_at hl 0 rfl) ?_
    refine va_get (D := D) (ci := 1) (v := .int (t_place S)) (C := RX1) (T := TX1) (N := 11) hx hb hts hiX1 hown hK hI.1 0 rfl rfl 2 (by decide) (hts (.fieldLink RX1 19 "NoughtSums$Text" "place" "I") (by decide +kernel)) (fun _ h9 => h9) rfl dX1_isWord_8 ?_
    refine lv_sipush (v := 400) hx hb dX1_isWord_11 (by decide) ?_
    refine lv_icmp_gt (tgt := 33) hx hb dX1_isWord_14 (by decide) (fun c_14 => ?_) (fun c_14 => ?_)
    · replace hf := zIt c_14 hf
      refine lv_iconst (v := 0) hx hb dX1_isWord_33 (by decide) ?_
      obtain ⟨h1, h2⟩ := zP2 hf
      rw [hQ]
      exact z_zret C (by rw [h2]; exact hI) (by rw [h1]) rfl dX1_isWord_34
    · replace hf := zIf c_14 hf
      refine lv_aload_n hx hb dX1_isWord_17 rfl (lv_at hl 0 rfl) ?_
      refine va_get (D := D) (ci := 1) (v := .int (t_place S)) (C := RX1) (T := TX1) (N := 11) hx hb hts hiX1 hown hK hI.1 0 rfl rfl 2 (by decide) (hts (.fieldLink RX1 19 "NoughtSums$Text" "place" "I") (by decide +kernel)) (fun _ h9 => h9) rfl dX1_isWord_18 ?_
      refine lv_aload_n hx hb dX1_isWord_21 rfl (lv_at hl 0 rfl) ?_
      refine va_get (D := D) (ci := 1) (v := .int (t_start S)) (C := RX1) (T := TX1) (N := 11) hx hb hts hiX1 hown hK hI.1 0 rfl rfl 3 (by decide) (hts (.fieldLink RX1 22 "NoughtSums$Text" "start" "I") (by decide +kernel)) (fun _ h9 => h9) rfl dX1_isWord_22 ?_
      refine lv_isub hx hb dX1_isWord_25 ?_
      refine lv_aload_n hx hb dX1_isWord_26 rfl (lv_at hl 1 rfl) ?_
      obtain ⟨r_27, hf_27, hf⟩ := zB1_s hf
      refine z_callT C 0 3 (by decide) (kJ0_length_8abf5 l zq D 3 (by decide)  r_27 hf_27) gX1_isWord_J0_length_8abf5 rfl (by decide +kernel) ⟨by decide, by decide⟩ hI rfl hl.1 rfl (Nat.le_of_ble_eq_true rfl) dX1_isWord_27 ⟨by decide, by decide⟩ (st2 := [.int r_27, .int ((t_place S) - (t_start S))]) rfl (fun H locs hI => ?_)
      refine lv_icmp_eq (tgt := 35) hx hb dX1_isWord_30 (by decide) (fun c_30 => ?_) (fun c_30 => ?_)
      · replace hf := zIt c_30 hf
        refine lv_iconst (v := 0) hx hb dX1_isWord_35 (by decide) ?_
        refine lv_istore_n (lv' := [(2, .int (0 : Int32)), (0, .ref (ad 0)), (1, .ref (zq 5))]) hx hb dX1_isWord_36 rfl hl (by decide) rfl (fun ls hl => ?_)
        exact hb37 zF (0 : Int32) S _ _ _ hf hI (lv_sub hl [1, 2, 0] rfl)
      · replace hf := zIf c_30 hf
        refine lv_iconst (v := 0) hx hb dX1_isWord_33 (by decide) ?_
        obtain ⟨h1, h2⟩ := zP2 hf
        rw [hQ]
        exact z_zret C (by rw [h2]; exact hI) (by rw [h1]) rfl dX1_isWord_34

def fX1_takeRun_b5 (k5 : Int32 → TS → Option (Int32 × TS)) (v1 : Int32) (S : TS) : Option (Int32 × TS) :=
(if (t_place S) ≤ v1 then some ((1 : Int32), S) else
(zB2 (fX1_byteAt v1 S) (fun r_15 S_15 =>
(if (r_15 - (97 : Int32)) < 0 then some ((0 : Int32), S_15) else
(if (6 : Int32) ≤ (r_15 - (97 : Int32)) then some ((0 : Int32), S_15) else
(if ((zUshr (t_meaning S_15) (r_15 - (97 : Int32))) &&& (1 : Int32)) = 0 then (zL (t_meaning_u S_15 ((t_meaning S_15) ||| ((1 : Int32) <<< ((r_15 - (97 : Int32)) &&& 31)))) (fun S_54 =>
k5 (v1 + (1 : Int32)) S_54)) else
some ((0 : Int32), S_15)))))))
def fX1_takeRun_b5L : Nat → Int32 → TS → Option (Int32 × TS)
  | 0, _, _ => none
  | n + 1, v1, S => fX1_takeRun_b5 (fX1_takeRun_b5L n) v1 S

def fX1_takeRun  (S : TS) : Option (Int32 × TS) :=
fX1_takeRun_b5L zF (t_start S) S
set_option maxHeartbeats 4000000 in
set_option maxRecDepth 100000 in
theorem kX1_takeRun (l : Launch) (zq : Nat → Nat) (D : va_G) (cy : Nat → ClassId) (ad : Nat → Nat)  (S S' : TS) (r : Int32) (hf : fX1_takeRun S = some (r, S')) : zMet l yX1_takeRun wsX1_takeRun 1 21 zq D (tT cy) (wT cy ad S) [.ref (ad 0)] (some (.int r)) (wT cy ad S') := by
  refine zMet.of cX1_takeRun 3 (some .boolean) (by decide) rfl (Nat.le_of_ble_eq_true rfl) ?_
  intro p e s m args below meth c A ls C hl hI
  have hl : lv_has ls 3 [(0, .ref (ad 0))] := hl
  have C : zC p s m args meth c cX1_takeRun 3 (some .boolean) RX1 wsX1_takeRun D (tT cy) zq A := C
  obtain ⟨hx, hb, hml, hown, hts, hret, hlk, hK, hX, hA⟩ := id C
  have hiX1 : ∀ w ∈ wsX10, w ∈ wsX1_takeRun := by decide +kernel
  obtain ⟨Q, hQ⟩ : ∃ Q, Q = MQ below (zQ D (tT cy) (wT cy ad S') (some (.int r)) A) args s 0 0 A := ⟨_, rfl⟩
  rw [← hQ]
  have hb5 : ∀ (n : Nat), ∀ (v1 : Int32) (S : TS) (H : Heap) (locs : List Loc) (ls : Array Slot), fX1_takeRun_b5L n v1 S = some (r, S') → zI D A s H locs (wT cy ad S) → lv_has ls 3 [(0, .ref (ad 0)), (1, .int v1)] → W p l e { frames := 1, cells := 0, slots := 0, locals := 21 } s m args below meth c H locs 0 0 Q (F0 m 5 ls []) := by
    intro n
    induction n with
    | zero => intro v1 S H locs ls hf; cases (show (none : Option (Int32 × TS)) = some (r, S') from hf)
    | succ n ih =>
      intro v1 S H locs ls hf hI hl
      have hf : fX1_takeRun_b5 (fX1_takeRun_b5L n) v1 S = some (r, S') := hf
      unfold fX1_takeRun_b5 at hf
      refine lv_iload_n hx hb dX1_takeRun_5 rfl (lv_at hl 1 rfl) ?_
      refine lv_aload_n hx hb dX1_takeRun_6 rfl (lv_at hl 0 rfl) ?_
      refine va_get (D := D) (ci := 1) (v := .int (t_place S)) (C := RX1) (T := TX1) (N := 11) hx hb hts hiX1 hown hK hI.1 0 rfl rfl 2 (by decide) (hts (.fieldLink RX1 19 "NoughtSums$Text" "place" "I") (by decide +kernel)) (fun _ h9 => h9) rfl dX1_takeRun_7 ?_
      refine lv_icmp_ge (tgt := 63) hx hb dX1_takeRun_10 (by decide) (fun c_10 => ?_) (fun c_10 => ?_)
      · replace hf := zIt c_10 hf
        refine lv_iconst (v := 1) hx hb dX1_takeRun_63 (by decide) ?_
        obtain ⟨h1, h2⟩ := zP2 hf
        rw [hQ]
        exact z_zret C (by rw [h2]; exact hI) (by rw [h1]) rfl dX1_takeRun_64
      · replace hf := zIf c_10 hf
        refine lv_aload_n hx hb dX1_takeRun_13 rfl (lv_at hl 0 rfl) ?_
        refine lv_iload_n hx hb dX1_takeRun_14 rfl (lv_at hl 1 rfl) ?_
        obtain ⟨r_15, S_15, hf_15, hf⟩ := zB2_s hf
        refine z_callV (w2 := (wT cy ad S_15)) C 1 (kX1_byteAt l zq D cy ad v1 S S_15 r_15 hf_15) gX1_takeRun_X1_byteAt rfl (by decide +kernel) ⟨by decide, by decide⟩ hI 0 rfl rfl rfl hl.1 rfl (Nat.le_of_ble_eq_true rfl) dX1_takeRun_15 ⟨by decide, by decide⟩ (st2 := [.int r_15]) rfl (fun H locs hI => ?_)
        refine lv_bipush (v := 97) hx hb dX1_takeRun_18 (by decide) ?_
        refine lv_isub hx hb dX1_takeRun_20 ?_
        refine lv_istore_n (lv' := [(2, .int (r_15 - (97 : Int32))), (0, .ref (ad 0)), (1, .int v1)]) hx hb dX1_takeRun_21 rfl hl (by decide) rfl (fun ls hl => ?_)
        refine lv_iload_n hx hb dX1_takeRun_22 rfl (lv_at hl 0 rfl) ?_
        refine lv_if_lt (tgt := 43) hx hb dX1_takeRun_23 (by decide) (fun c_23 => ?_) (fun c_23 => ?_)
        · replace hf := zIt c_23 hf
          refine lv_iconst (v := 0) hx hb dX1_takeRun_43 (by decide) ?_
          obtain ⟨h1, h2⟩ := zP2 hf
          rw [hQ]
          exact z_zret C (by rw [h2]; exact hI) (by rw [h1]) rfl dX1_takeRun_44
        · replace hf := zIf c_23 hf
          refine lv_iload_n hx hb dX1_takeRun_26 rfl (lv_at hl 0 rfl) ?_
          refine lv_bipush (v := 6) hx hb dX1_takeRun_27 (by decide) ?_
          refine lv_icmp_ge (tgt := 43) hx hb dX1_takeRun_29 (by decide) (fun c_29 => ?_) (fun c_29 => ?_)
          · replace hf := zIt c_29 hf
            refine lv_iconst (v := 0) hx hb dX1_takeRun_43 (by decide) ?_
            obtain ⟨h1, h2⟩ := zP2 hf
            rw [hQ]
            exact z_zret C (by rw [h2]; exact hI) (by rw [h1]) rfl dX1_takeRun_44
          · replace hf := zIf c_29 hf
            refine lv_aload_n hx hb dX1_takeRun_32 rfl (lv_at hl 1 rfl) ?_
            refine va_get (D := D) (ci := 1) (v := .int (t_meaning S_15)) (C := RX1) (T := TX1) (N := 11) hx hb hts hiX1 hown hK hI.1 0 rfl rfl 5 (by decide) (hts (.fieldLink RX1 28 "NoughtSums$Text" "meaning" "I") (by decide +kernel)) (fun _ h9 => h9) rfl dX1_takeRun_33 ?_
            refine lv_iload_n hx hb dX1_takeRun_36 rfl (lv_at hl 0 rfl) ?_
            refine lv_iushr (v := zUshr (t_meaning S_15) (r_15 - (97 : Int32))) hx hb dX1_takeRun_37 rfl ?_
            refine lv_iconst (v := 1) hx hb dX1_takeRun_38 (by decide) ?_
            refine lv_iand hx hb dX1_takeRun_39 ?_
            refine lv_if_eq (tgt := 45) hx hb dX1_takeRun_40 (by decide) (fun c_40 => ?_) (fun c_40 => ?_)
            · replace hf := zIt c_40 hf
              refine lv_aload_n hx hb dX1_takeRun_45 rfl (lv_at hl 1 rfl) ?_
              refine lv_dup hx hb dX1_takeRun_46 rfl ?_
              refine va_get (D := D) (ci := 1) (v := .int (t_meaning S_15)) (C := RX1) (T := TX1) (N := 11) hx hb hts hiX1 hown hK hI.1 0 rfl rfl 5 (by decide) (hts (.fieldLink RX1 28 "NoughtSums$Text" "meaning" "I") (by decide +kernel)) (fun _ h9 => h9) rfl dX1_takeRun_47 ?_
              refine lv_iconst (v := 1) hx hb dX1_takeRun_50 (by decide) ?_
              refine lv_iload_n hx hb dX1_takeRun_51 rfl (lv_at hl 0 rfl) ?_
              refine lv_ishl hx hb dX1_takeRun_52 ?_
              refine lv_ior hx hb dX1_takeRun_53 ?_
              obtain ⟨S_54, eS_54, hf⟩ := zL_e hf
              refine z_put (D := D) (ci := 1) (v := .int ((t_meaning S_15) ||| ((1 : Int32) <<< ((r_15 - (97 : Int32)) &&& 31)))) (ty := .int) (C := RX1) (T := TX1) (N := 11) (w2 := (wT cy ad S_54)) hx hb hts hiX1 tyX1 tyX1_ok nmX1 hown hK hI 0 rfl rfl 5 (by decide) (hts (.fieldLink RX1 28 "NoughtSums$Text" "meaning" "I") (by decide +kernel)) (fun _ h9 => h9) rfl (by decide +kernel) rfl rfl (Nat.le_of_ble_eq_true rfl) dX1_takeRun_54 (by rw [eS_54]; rfl) (fun H locs hI => ?_)
              refine lv_iinc (v := (v1 + (1 : Int32))) (lv' := [(1, .int (v1 + (1 : Int32))), (2, .int (r_15 - (97 : Int32))), (0, .ref (ad 0))]) hx hb dX1_takeRun_57 hl (k := 2) rfl rfl (by decide) rfl (fun ls hl => ?_)
              refine lv_goto (tgt := 5) hx hb dX1_takeRun_60 (by decide) ?_
              exact ih (v1 + (1 : Int32)) S_54 _ _ _ hf hI (lv_sub hl [2, 0] rfl)
            · replace hf := zIf c_40 hf
              refine lv_iconst (v := 0) hx hb dX1_takeRun_43 (by decide) ?_
              obtain ⟨h1, h2⟩ := zP2 hf
              rw [hQ]
              exact z_zret C (by rw [h2]; exact hI) (by rw [h1]) rfl dX1_takeRun_44
  unfold fX1_takeRun at hf
  refine lv_aload_n hx hb dX1_takeRun_0 rfl (lv_at hl 0 rfl) ?_
  refine va_get (D := D) (ci := 1) (v := .int (t_start S)) (C := RX1) (T := TX1) (N := 11) hx hb hts hiX1 hown hK hI.1 0 rfl rfl 3 (by decide) (hts (.fieldLink RX1 22 "NoughtSums$Text" "start" "I") (by decide +kernel)) (fun _ h9 => h9) rfl dX1_takeRun_1 ?_
  refine lv_istore_n (lv' := [(1, .int (t_start S)), (0, .ref (ad 0))]) hx hb dX1_takeRun_4 rfl hl (by decide) rfl (fun ls hl => ?_)
  exact hb5 zF (t_start S) S _ _ _ hf hI (lv_sub hl [1, 0] rfl)

def fX1_readWord_b38 (S : TS) : Option TS :=
(zB2 (fX1_isWord_0 S) (fun r_41 S_41 =>
(if r_41 = 0 then (zB2 (fX1_isWord_1 S_41) (fun r_58 S_58 =>
(if r_58 = 0 then (zB2 (fX1_isWord_2 S_58) (fun r_75 S_75 =>
(if r_75 = 0 then (zB2 (fX1_isWord_3 S_75) (fun r_92 S_92 =>
(if r_92 = 0 then (zB2 (fX1_takeRun S_92) (fun r_108 S_108 =>
(if r_108 = 0 then (zL (t_token_u S_108 (10 : Int32)) (fun S_120 =>
some S_120)) else
(zL (t_token_u S_108 (5 : Int32)) (fun S_120 =>
some S_120))))) else
(zL (t_token_u S_92 (4 : Int32)) (fun S_100 =>
some S_100))))) else
(zL (t_token_u S_75 (3 : Int32)) (fun S_83 =>
some S_83))))) else
(zL (t_token_u S_58 (2 : Int32)) (fun S_66 =>
some S_66))))) else
(zL (t_token_u S_41 (1 : Int32)) (fun S_49 =>
some S_49)))))

def fX1_readWord_b0 (k0 : TS → Option TS) (S : TS) : Option TS :=
(if (t_length S) ≤ (t_place S) then fX1_readWord_b38 S else
(zB2 (fX1_byteAt (t_place S) S) (fun r_16 S_16 =>
(zB1 (fX1_isSmallLetter r_16) (fun r_19 =>
(if r_19 = 0 then fX1_readWord_b38 S_16 else
(zL (t_place_u S_16 ((t_place S_16) + (1 : Int32))) (fun S_32 =>
k0 S_32))))))))
def fX1_readWord_b0L : Nat → TS → Option TS
  | 0, _ => none
  | n + 1, S => fX1_readWord_b0 (fX1_readWord_b0L n) S

def fX1_readWord  (S : TS) : Option TS :=
(if (t_length S) ≤ (t_place S) then fX1_readWord_b38 S else
(zB2 (fX1_byteAt (t_place S) S) (fun r_16 S_16 =>
(zB1 (fX1_isSmallLetter r_16) (fun r_19 =>
(if r_19 = 0 then fX1_readWord_b38 S_16 else
(zL (t_place_u S_16 ((t_place S_16) + (1 : Int32))) (fun S_32 =>
fX1_readWord_b0L zF S_32))))))))
set_option maxHeartbeats 4000000 in
set_option maxRecDepth 100000 in
theorem kX1_readWord (l : Launch) (zq : Nat → Nat) (D : va_G) (cy : Nat → ClassId) (ad : Nat → Nat)  (S S' : TS) (hf : fX1_readWord S = some S') : zMet l yX1_readWord wsX1_readWord 6 128 zq D (tT cy) (wT cy ad S) [.ref (ad 0)] none (wT cy ad S') := by
  refine zMet.of cX1_readWord 1 none (by decide) rfl (Nat.le_of_ble_eq_true rfl) ?_
  intro p e s m args below meth c A ls C hl hI
  have hl : lv_has ls 1 [(0, .ref (ad 0))] := hl
  have C : zC p s m args meth c cX1_readWord 1 none RX1 wsX1_readWord D (tT cy) zq A := C
  obtain ⟨hx, hb, hml, hown, hts, hret, hlk, hK, hX, hA⟩ := id C
  have hiX1 : ∀ w ∈ wsX10, w ∈ wsX1_readWord := by decide +kernel
  obtain ⟨Q, hQ⟩ : ∃ Q, Q = MQ below (zQ D (tT cy) (wT cy ad S') none A) args s 0 0 A := ⟨_, rfl⟩
  rw [← hQ]
  have hb38 : ∀ (S : TS) (H : Heap) (locs : List Loc) (ls : Array Slot), fX1_readWord_b38 S = some S' → zI D A s H locs (wT cy ad S) → lv_has ls 1 [(0, .ref (ad 0))] → W p l e { frames := 6, cells := 0, slots := 0, locals := 128 } s m args below meth c H locs 0 0 Q (F0 m 38 ls []) := by
    intro S H locs ls hf hI hl
    unfold fX1_readWord_b38 at hf
    refine lv_aload_n hx hb dX1_readWord_38 rfl (lv_at hl 0 rfl) ?_
    refine va_ldcS hx hb hown hX.1.1 dX1_readWord_39 ?_
    obtain ⟨r_41, S_41, hf_41, hf⟩ := zB2_s hf
    refine z_callV (w2 := (wT cy ad S_41)) C 1 (kX1_isWord_0 l zq D cy ad S S_41 r_41 hf_41) gX1_readWord_X1_isWord rfl (by decide +kernel) ⟨by decide, by decide⟩ hI 0 rfl rfl rfl hl.1 rfl (Nat.le_of_ble_eq_true rfl) dX1_readWord_41 ⟨by decide, by decide⟩ (st2 := [.int r_41]) rfl (fun H locs hI => ?_)
    refine lv_if_eq (tgt := 55) hx hb dX1_readWord_44 (by decide) (fun c_44 => ?_) (fun c_44 => ?_)
    · replace hf := zIt c_44 hf
      refine lv_aload_n hx hb dX1_readWord_55 rfl (lv_at hl 0 rfl) ?_
      refine va_ldcS hx hb hown hX.1.2.1 dX1_readWord_56 ?_
      obtain ⟨r_58, S_58, hf_58, hf⟩ := zB2_s hf
      refine z_callV (w2 := (wT cy ad S_58)) C 1 (kX1_isWord_1 l zq D cy ad S_41 S_58 r_58 hf_58) gX1_readWord_X1_isWord rfl (by decide +kernel) ⟨by decide, by decide⟩ hI 0 rfl rfl rfl hl.1 rfl (Nat.le_of_ble_eq_true rfl) dX1_readWord_58 ⟨by decide, by decide⟩ (st2 := [.int r_58]) rfl (fun H locs hI => ?_)
      refine lv_if_eq (tgt := 72) hx hb dX1_readWord_61 (by decide) (fun c_61 => ?_) (fun c_61 => ?_)
      · replace hf := zIt c_61 hf
        refine lv_aload_n hx hb dX1_readWord_72 rfl (lv_at hl 0 rfl) ?_
        refine va_ldcS hx hb hown hX.1.2.2.1 dX1_readWord_73 ?_
        obtain ⟨r_75, S_75, hf_75, hf⟩ := zB2_s hf
        refine z_callV (w2 := (wT cy ad S_75)) C 1 (kX1_isWord_2 l zq D cy ad S_58 S_75 r_75 hf_75) gX1_readWord_X1_isWord rfl (by decide +kernel) ⟨by decide, by decide⟩ hI 0 rfl rfl rfl hl.1 rfl (Nat.le_of_ble_eq_true rfl) dX1_readWord_75 ⟨by decide, by decide⟩ (st2 := [.int r_75]) rfl (fun H locs hI => ?_)
        refine lv_if_eq (tgt := 89) hx hb dX1_readWord_78 (by decide) (fun c_78 => ?_) (fun c_78 => ?_)
        · replace hf := zIt c_78 hf
          refine lv_aload_n hx hb dX1_readWord_89 rfl (lv_at hl 0 rfl) ?_
          refine va_ldcS hx hb hown hX.1.2.2.2.1 dX1_readWord_90 ?_
          obtain ⟨r_92, S_92, hf_92, hf⟩ := zB2_s hf
          refine z_callV (w2 := (wT cy ad S_92)) C 1 (kX1_isWord_3 l zq D cy ad S_75 S_92 r_92 hf_92) gX1_readWord_X1_isWord rfl (by decide +kernel) ⟨by decide, by decide⟩ hI 0 rfl rfl rfl hl.1 rfl (Nat.le_of_ble_eq_true rfl) dX1_readWord_92 ⟨by decide, by decide⟩ (st2 := [.int r_92]) rfl (fun H locs hI => ?_)
          refine lv_if_eq (tgt := 106) hx hb dX1_readWord_95 (by decide) (fun c_95 => ?_) (fun c_95 => ?_)
          · replace hf := zIt c_95 hf
            refine lv_aload_n hx hb dX1_readWord_106 rfl (lv_at hl 0 rfl) ?_
            refine lv_aload_n hx hb dX1_readWord_107 rfl (lv_at hl 0 rfl) ?_
            obtain ⟨r_108, S_108, hf_108, hf⟩ := zB2_s hf
            refine z_callV (w2 := (wT cy ad S_108)) C 0 (kX1_takeRun l zq D cy ad S_92 S_108 r_108 hf_108) gX1_readWord_X1_takeRun rfl (by decide +kernel) ⟨by decide, by decide⟩ hI 0 rfl rfl rfl hl.1 rfl (Nat.le_of_ble_eq_true rfl) dX1_readWord_108 ⟨by decide, by decide⟩ (st2 := [.int r_108, .ref (ad 0)]) rfl (fun H locs hI => ?_)
            refine lv_if_eq (tgt := 118) hx hb dX1_readWord_111 (by decide) (fun c_111 => ?_) (fun c_111 => ?_)
            · replace hf := zIt c_111 hf
              refine lv_bipush (v := 10) hx hb dX1_readWord_118 (by decide) ?_
              obtain ⟨S_120, eS_120, hf⟩ := zL_e hf
              refine z_put (D := D) (ci := 1) (v := .int (10 : Int32)) (ty := .int) (C := RX1) (T := TX1) (N := 11) (w2 := (wT cy ad S_120)) hx hb hts hiX1 tyX1 tyX1_ok nmX1 hown hK hI 0 rfl rfl 4 (by decide) (hts (.fieldLink RX1 25 "NoughtSums$Text" "token" "I") (by decide +kernel)) (fun _ h9 => h9) rfl (by decide +kernel) rfl rfl (Nat.le_of_ble_eq_true rfl) dX1_readWord_120 (by rw [eS_120]; rfl) (fun H locs hI => ?_)
              have h2 := zP1 hf
              rw [hQ]
              exact z_vret C (by rw [h2]; exact hI) rfl dX1_readWord_123
            · replace hf := zIf c_111 hf
              refine lv_iconst (v := 5) hx hb dX1_readWord_114 (by decide) ?_
              refine lv_goto (tgt := 120) hx hb dX1_readWord_115 (by decide) ?_
              obtain ⟨S_120, eS_120, hf⟩ := zL_e hf
              refine z_put (D := D) (ci := 1) (v := .int (5 : Int32)) (ty := .int) (C := RX1) (T := TX1) (N := 11) (w2 := (wT cy ad S_120)) hx hb hts hiX1 tyX1 tyX1_ok nmX1 hown hK hI 0 rfl rfl 4 (by decide) (hts (.fieldLink RX1 25 "NoughtSums$Text" "token" "I") (by decide +kernel)) (fun _ h9 => h9) rfl (by decide +kernel) rfl rfl (Nat.le_of_ble_eq_true rfl) dX1_readWord_120 (by rw [eS_120]; rfl) (fun H locs hI => ?_)
              have h2 := zP1 hf
              rw [hQ]
              exact z_vret C (by rw [h2]; exact hI) rfl dX1_readWord_123
          · replace hf := zIf c_95 hf
            refine lv_aload_n hx hb dX1_readWord_98 rfl (lv_at hl 0 rfl) ?_
            refine lv_iconst (v := 4) hx hb dX1_readWord_99 (by decide) ?_
            obtain ⟨S_100, eS_100, hf⟩ := zL_e hf
            refine z_put (D := D) (ci := 1) (v := .int (4 : Int32)) (ty := .int) (C := RX1) (T := TX1) (N := 11) (w2 := (wT cy ad S_100)) hx hb hts hiX1 tyX1 tyX1_ok nmX1 hown hK hI 0 rfl rfl 4 (by decide) (hts (.fieldLink RX1 25 "NoughtSums$Text" "token" "I") (by decide +kernel)) (fun _ h9 => h9) rfl (by decide +kernel) rfl rfl (Nat.le_of_ble_eq_true rfl) dX1_readWord_100 (by rw [eS_100]; rfl) (fun H locs hI => ?_)
            refine lv_goto (tgt := 123) hx hb dX1_readWord_103 (by decide) ?_
            have h2 := zP1 hf
            rw [hQ]
            exact z_vret C (by rw [h2]; exact hI) rfl dX1_readWord_123
        · replace hf := zIf c_78 hf
          refine lv_aload_n hx hb dX1_readWord_81 rfl (lv_at hl 0 rfl) ?_
          refine lv_iconst (v := 3) hx hb dX1_readWord_82 (by decide) ?_
          obtain ⟨S_83, eS_83, hf⟩ := zL_e hf
          refine z_put (D := D) (ci := 1) (v := .int (3 : Int32)) (ty := .int) (C := RX1) (T := TX1) (N := 11) (w2 := (wT cy ad S_83)) hx hb hts hiX1 tyX1 tyX1_ok nmX1 hown hK hI 0 rfl rfl 4 (by decide) (hts (.fieldLink RX1 25 "NoughtSums$Text" "token" "I") (by decide +kernel)) (fun _ h9 => h9) rfl (by decide +kernel) rfl rfl (Nat.le_of_ble_eq_true rfl) dX1_readWord_83 (by rw [eS_83]; rfl) (fun H locs hI => ?_)
          refine lv_goto (tgt := 123) hx hb dX1_readWord_86 (by decide) ?_
          have h2 := zP1 hf
          rw [hQ]
          exact z_vret C (by rw [h2]; exact hI) rfl dX1_readWord_123
      · replace hf := zIf c_61 hf
        refine lv_aload_n hx hb dX1_readWord_64 rfl (lv_at hl 0 rfl) ?_
        refine lv_iconst (v := 2) hx hb dX1_readWord_65 (by decide) ?_
        obtain ⟨S_66, eS_66, hf⟩ := zL_e hf
        refine z_put (D := D) (ci := 1) (v := .int (2 : Int32)) (ty := .int) (C := RX1) (T := TX1) (N := 11) (w2 := (wT cy ad S_66)) hx hb hts hiX1 tyX1 tyX1_ok nmX1 hown hK hI 0 rfl rfl 4 (by decide) (hts (.fieldLink RX1 25 "NoughtSums$Text" "token" "I") (by decide +kernel)) (fun _ h9 => h9) rfl (by decide +kernel) rfl rfl (Nat.le_of_ble_eq_true rfl) dX1_readWord_66 (by rw [eS_66]; rfl) (fun H locs hI => ?_)
        refine lv_goto (tgt := 123) hx hb dX1_readWord_69 (by decide) ?_
        have h2 := zP1 hf
        rw [hQ]
        exact z_vret C (by rw [h2]; exact hI) rfl dX1_readWord_123
    · replace hf := zIf c_44 hf
      refine lv_aload_n hx hb dX1_readWord_47 rfl (lv_at hl 0 rfl) ?_
      refine lv_iconst (v := 1) hx hb dX1_readWord_48 (by decide) ?_
      obtain ⟨S_49, eS_49, hf⟩ := zL_e hf
      refine z_put (D := D) (ci := 1) (v := .int (1 : Int32)) (ty := .int) (C := RX1) (T := TX1) (N := 11) (w2 := (wT cy ad S_49)) hx hb hts hiX1 tyX1 tyX1_ok nmX1 hown hK hI 0 rfl rfl 4 (by decide) (hts (.fieldLink RX1 25 "NoughtSums$Text" "token" "I") (by decide +kernel)) (fun _ h9 => h9) rfl (by decide +kernel) rfl rfl (Nat.le_of_ble_eq_true rfl) dX1_readWord_49 (by rw [eS_49]; rfl) (fun H locs hI => ?_)
      refine lv_goto (tgt := 123) hx hb dX1_readWord_52 (by decide) ?_
      have h2 := zP1 hf
      rw [hQ]
      exact z_vret C (by rw [h2]; exact hI) rfl dX1_readWord_123
  have hb0 : ∀ (n : Nat), ∀ (S : TS) (H : Heap) (locs : List Loc) (ls : Array Slot), fX1_readWord_b0L n S = some S' → zI D A s H locs (wT cy ad S) → lv_has ls 1 [(0, .ref (ad 0))] → W p l e { frames := 6, cells := 0, slots := 0, locals := 128 } s m args below meth c H locs 0 0 Q (F0 m 0 ls []) := by
    intro n
    induction n with
    | zero => intro S H locs ls hf; cases (show (none : Option TS) = some S' from hf)
    | succ n ih =>
      intro S H locs ls hf hI hl
      have hf : fX1_readWord_b0 (fX1_readWord_b0L n) S = some S' := hf
      unfold fX1_readWord_b0 at hf
      refine lv_aload_n hx hb dX1_readWord_0 rfl (lv_at hl 0 rfl) ?_
      refine va_get (D := D) (ci := 1) (v := .int (t_place S)) (C := RX1) (T := TX1) (N := 11) hx hb hts hiX1 hown hK hI.1 0 rfl rfl 2 (by decide) (hts (.fieldLink RX1 19 "NoughtSums$Text" "place" "I") (by decide +kernel)) (fun _ h9 => h9) rfl dX1_readWord_1 ?_
      refine lv_aload_n hx hb dX1_readWord_4 rfl (lv_at hl 0 rfl) ?_
      refine va_get (D := D) (ci := 1) (v := .int (t_length S)) (C := RX1) (T := TX1) (N := 11) hx hb hts hiX1 hown hK hI.1 0 rfl rfl 1 (by decide) (hts (.fieldLink RX1 15 "NoughtSums$Text" "length" "I") (by decide +kernel)) (fun _ h9 => h9) rfl dX1_readWord_5 ?_
      refine lv_icmp_ge (tgt := 38) hx hb dX1_readWord_8 (by decide) (fun c_8 => ?_) (fun c_8 => ?_)
      · replace hf := zIt c_8 hf
        exact hb38 S _ _ _ hf hI (lv_sub hl [0] rfl)
      · replace hf := zIf c_8 hf
        refine lv_aload_n hx hb dX1_readWord_11 rfl (lv_at hl 0 rfl) ?_
        refine lv_aload_n hx hb dX1_readWord_12 rfl (lv_at hl 0 rfl) ?_
        refine va_get (D := D) (ci := 1) (v := .int (t_place S)) (C := RX1) (T := TX1) (N := 11) hx hb hts hiX1 hown hK hI.1 0 rfl rfl 2 (by decide) (hts (.fieldLink RX1 19 "NoughtSums$Text" "place" "I") (by decide +kernel)) (fun _ h9 => h9) rfl dX1_readWord_13 ?_
        obtain ⟨r_16, S_16, hf_16, hf⟩ := zB2_s hf
        refine z_callV (w2 := (wT cy ad S_16)) C 1 (kX1_byteAt l zq D cy ad (t_place S) S S_16 r_16 hf_16) gX1_readWord_X1_byteAt rfl (by decide +kernel) ⟨by decide, by decide⟩ hI 0 rfl rfl rfl hl.1 rfl (Nat.le_of_ble_eq_true rfl) dX1_readWord_16 ⟨by decide, by decide⟩ (st2 := [.int r_16]) rfl (fun H locs hI => ?_)
        obtain ⟨r_19, hf_19, hf⟩ := zB1_s hf
        refine z_callS C 1 (kX1_isSmallLetter l zq D r_16 r_19 hf_19) gX1_readWord_X1_isSmallLetter rfl (by decide +kernel) ⟨by decide, by decide⟩ hI rfl hl.1 rfl (Nat.le_of_ble_eq_true rfl) dX1_readWord_19 ⟨by decide, by decide⟩ (st2 := [.int r_19]) rfl (fun H locs hI => ?_)
        refine lv_if_eq (tgt := 38) hx hb dX1_readWord_22 (by decide) (fun c_22 => ?_) (fun c_22 => ?_)
        · replace hf := zIt c_22 hf
          exact hb38 S_16 _ _ _ hf hI (lv_sub hl [0] rfl)
        · replace hf := zIf c_22 hf
          refine lv_aload_n hx hb dX1_readWord_25 rfl (lv_at hl 0 rfl) ?_
          refine lv_dup hx hb dX1_readWord_26 rfl ?_
          refine va_get (D := D) (ci := 1) (v := .int (t_place S_16)) (C := RX1) (T := TX1) (N := 11) hx hb hts hiX1 hown hK hI.1 0 rfl rfl 2 (by decide) (hts (.fieldLink RX1 19 "NoughtSums$Text" "place" "I") (by decide +kernel)) (fun _ h9 => h9) rfl dX1_readWord_27 ?_
          refine lv_iconst (v := 1) hx hb dX1_readWord_30 (by decide) ?_
          refine lv_iadd hx hb dX1_readWord_31 ?_
          obtain ⟨S_32, eS_32, hf⟩ := zL_e hf
          refine z_put (D := D) (ci := 1) (v := .int ((t_place S_16) + (1 : Int32))) (ty := .int) (C := RX1) (T := TX1) (N := 11) (w2 := (wT cy ad S_32)) hx hb hts hiX1 tyX1 tyX1_ok nmX1 hown hK hI 0 rfl rfl 2 (by decide) (hts (.fieldLink RX1 19 "NoughtSums$Text" "place" "I") (by decide +kernel)) (fun _ h9 => h9) rfl (by decide +kernel) rfl rfl (Nat.le_of_ble_eq_true rfl) dX1_readWord_32 (by rw [eS_32]; rfl) (fun H locs hI => ?_)
          refine lv_goto (tgt := 0) hx hb dX1_readWord_35 (by decide) ?_
          exact ih S_32 _ _ _ hf hI (lv_sub hl [0] rfl)
  unfold fX1_readWord at hf
  refine lv_aload_n hx hb dX1_readWord_0 rfl (lv_at hl 0 rfl) ?_
  refine va_get (D := D) (ci := 1) (v := .int (t_place S)) (C := RX1) (T := TX1) (N := 11) hx hb hts hiX1 hown hK hI.1 0 rfl rfl 2 (by decide) (hts (.fieldLink RX1 19 "NoughtSums$Text" "place" "I") (by decide +kernel)) (fun _ h9 => h9) rfl dX1_readWord_1 ?_
  refine lv_aload_n hx hb dX1_readWord_4 rfl (lv_at hl 0 rfl) ?_
  refine va_get (D := D) (ci := 1) (v := .int (t_length S)) (C := RX1) (T := TX1) (N := 11) hx hb hts hiX1 hown hK hI.1 0 rfl rfl 1 (by decide) (hts (.fieldLink RX1 15 "NoughtSums$Text" "length" "I") (by decide +kernel)) (fun _ h9 => h9) rfl dX1_readWord_5 ?_
  refine lv_icmp_ge (tgt := 38) hx hb dX1_readWord_8 (by decide) (fun c_8 => ?_) (fun c_8 => ?_)
  · replace hf := zIt c_8 hf
    exact hb38 S _ _ _ hf hI (lv_sub hl [0] rfl)
  · replace hf := zIf c_8 hf
    refine lv_aload_n hx hb dX1_readWord_11 rfl (lv_at hl 0 rfl) ?_
    refine lv_aload_n hx hb dX1_readWord_12 rfl (lv_at hl 0 rfl) ?_
    refine va_get (D := D) (ci := 1) (v := .int (t_place S)) (C := RX1) (T := TX1) (N := 11) hx hb hts hiX1 hown hK hI.1 0 rfl rfl 2 (by decide) (hts (.fieldLink RX1 19 "NoughtSums$Text" "place" "I") (by decide +kernel)) (fun _ h9 => h9) rfl dX1_readWord_13 ?_
    obtain ⟨r_16, S_16, hf_16, hf⟩ := zB2_s hf
    refine z_callV (w2 := (wT cy ad S_16)) C 1 (kX1_byteAt l zq D cy ad (t_place S) S S_16 r_16 hf_16) gX1_readWord_X1_byteAt rfl (by decide +kernel) ⟨by decide, by decide⟩ hI 0 rfl rfl rfl hl.1 rfl (Nat.le_of_ble_eq_true rfl) dX1_readWord_16 ⟨by decide, by decide⟩ (st2 := [.int r_16]) rfl (fun H locs hI => ?_)
    obtain ⟨r_19, hf_19, hf⟩ := zB1_s hf
    refine z_callS C 1 (kX1_isSmallLetter l zq D r_16 r_19 hf_19) gX1_readWord_X1_isSmallLetter rfl (by decide +kernel) ⟨by decide, by decide⟩ hI rfl hl.1 rfl (Nat.le_of_ble_eq_true rfl) dX1_readWord_19 ⟨by decide, by decide⟩ (st2 := [.int r_19]) rfl (fun H locs hI => ?_)
    refine lv_if_eq (tgt := 38) hx hb dX1_readWord_22 (by decide) (fun c_22 => ?_) (fun c_22 => ?_)
    · replace hf := zIt c_22 hf
      exact hb38 S_16 _ _ _ hf hI (lv_sub hl [0] rfl)
    · replace hf := zIf c_22 hf
      refine lv_aload_n hx hb dX1_readWord_25 rfl (lv_at hl 0 rfl) ?_
      refine lv_dup hx hb dX1_readWord_26 rfl ?_
      refine va_get (D := D) (ci := 1) (v := .int (t_place S_16)) (C := RX1) (T := TX1) (N := 11) hx hb hts hiX1 hown hK hI.1 0 rfl rfl 2 (by decide) (hts (.fieldLink RX1 19 "NoughtSums$Text" "place" "I") (by decide +kernel)) (fun _ h9 => h9) rfl dX1_readWord_27 ?_
      refine lv_iconst (v := 1) hx hb dX1_readWord_30 (by decide) ?_
      refine lv_iadd hx hb dX1_readWord_31 ?_
      obtain ⟨S_32, eS_32, hf⟩ := zL_e hf
      refine z_put (D := D) (ci := 1) (v := .int ((t_place S_16) + (1 : Int32))) (ty := .int) (C := RX1) (T := TX1) (N := 11) (w2 := (wT cy ad S_32)) hx hb hts hiX1 tyX1 tyX1_ok nmX1 hown hK hI 0 rfl rfl 2 (by decide) (hts (.fieldLink RX1 19 "NoughtSums$Text" "place" "I") (by decide +kernel)) (fun _ h9 => h9) rfl (by decide +kernel) rfl rfl (Nat.le_of_ble_eq_true rfl) dX1_readWord_32 (by rw [eS_32]; rfl) (fun H locs hI => ?_)
      refine lv_goto (tgt := 0) hx hb dX1_readWord_35 (by decide) ?_
      exact hb0 zF S_32 _ _ _ hf hI (lv_sub hl [0] rfl)

def fX1_isDigit (a0 : Int32) : Option Int32 :=
(if a0 < (48 : Int32) then some (0 : Int32) else
(if (57 : Int32) < a0 then some (0 : Int32) else
some (1 : Int32)))
set_option maxHeartbeats 4000000 in
set_option maxRecDepth 100000 in
theorem kX1_isDigit (l : Launch) (zq : Nat → Nat) (D : va_G) (a0 : Int32) (r : Int32) (hf : fX1_isDigit a0 = some r) : zMet l yX1_isDigit wsX1_isDigit 0 0 zq D [] [] [.int a0] (some (.int r)) [] := by
  refine zMet.of cX1_isDigit 1 (some .boolean) (by decide) rfl (Nat.le_of_ble_eq_true rfl) ?_
  intro p e s m args below meth c A ls C hl hI
  have hl : lv_has ls 1 [(0, .int a0)] := hl
  have C : zC p s m args meth c cX1_isDigit 1 (some .boolean) RX1 wsX1_isDigit D [] zq A := C
  obtain ⟨hx, hb, hml, hown, hts, hret, hlk, hK, hX, hA⟩ := id C
  obtain ⟨Q, hQ⟩ : ∃ Q, Q = MQ below (zQ D [] [] (some (.int r)) A) args s 0 0 A := ⟨_, rfl⟩
  rw [← hQ]
  unfold fX1_isDigit at hf
  refine lv_iload_n hx hb dX1_isDigit_0 rfl (lv_at hl 0 rfl) ?_
  refine lv_bipush (v := 48) hx hb dX1_isDigit_1 (by decide) ?_
  refine lv_icmp_lt (tgt := 16) hx hb dX1_isDigit_3 (by decide) (fun c_3 => ?_) (fun c_3 => ?_)
  · replace hf := zIt c_3 hf
    refine lv_iconst (v := 0) hx hb dX1_isDigit_16 (by decide) ?_
    have h1 := zP1 hf
    rw [hQ]
    exact z_zret C hI (by rw [h1]) rfl dX1_isDigit_17
  · replace hf := zIf c_3 hf
    refine lv_iload_n hx hb dX1_isDigit_6 rfl (lv_at hl 0 rfl) ?_
    refine lv_bipush (v := 57) hx hb dX1_isDigit_7 (by decide) ?_
    refine lv_icmp_gt (tgt := 16) hx hb dX1_isDigit_9 (by decide) (fun c_9 => ?_) (fun c_9 => ?_)
    · replace hf := zIt c_9 hf
      refine lv_iconst (v := 0) hx hb dX1_isDigit_16 (by decide) ?_
      have h1 := zP1 hf
      rw [hQ]
      exact z_zret C hI (by rw [h1]) rfl dX1_isDigit_17
    · replace hf := zIf c_9 hf
      refine lv_iconst (v := 1) hx hb dX1_isDigit_12 (by decide) ?_
      refine lv_goto (tgt := 17) hx hb dX1_isDigit_13 (by decide) ?_
      have h1 := zP1 hf
      rw [hQ]
      exact z_zret C hI (by rw [h1]) rfl dX1_isDigit_17

def fX1_readNumber_b97 (u0 : Int32) (S : TS) : Option TS :=
(if u0 = 0 then (if (t_meaning S) ≤ (99 : Int32) then (zL (t_token_u S (6 : Int32)) (fun S_119 =>
some S_119)) else
(zL (t_token_u S (10 : Int32)) (fun S_119 =>
some S_119))) else
(zL (t_token_u S (10 : Int32)) (fun S_119 =>
some S_119)))

def fX1_readNumber_b96 (S : TS) : Option TS :=
fX1_readNumber_b97 (0 : Int32) S

def fX1_readNumber_b66 (S : TS) : Option TS :=
(zB2 (fX1_byteAt (t_start S) S) (fun r_71 S_71 =>
(if r_71 = (48 : Int32) then (if ((t_place S_71) - (t_start S_71)) ≤ (1 : Int32) then fX1_readNumber_b96 S_71 else
fX1_readNumber_b97 (1 : Int32) S_71) else
fX1_readNumber_b96 S_71)))

def fX1_readNumber_b0 (k0 : TS → Option TS) (S : TS) : Option TS :=
(if (t_length S) ≤ (t_place S) then fX1_readNumber_b66 S else
(zB2 (fX1_byteAt (t_place S) S) (fun r_16 S_16 =>
(zB1 (fX1_isDigit r_16) (fun r_19 =>
(if r_19 = 0 then fX1_readNumber_b66 S_16 else
(zB2 (fX1_byteAt (t_place S_16) S_16) (fun r_38 S_38 =>
(zL (t_meaning_u S_38 (if (100 : Int32) < ((((10 : Int32) * (t_meaning S_16)) + r_38) - (48 : Int32)) then (100 : Int32) else ((((10 : Int32) * (t_meaning S_16)) + r_38) - (48 : Int32)))) (fun S_50 =>
(zL (t_place_u S_50 ((t_place S_50) + (1 : Int32))) (fun S_60 =>
k0 S_60))))))))))))
def fX1_readNumber_b0L : Nat → TS → Option TS
  | 0, _ => none
  | n + 1, S => fX1_readNumber_b0 (fX1_readNumber_b0L n) S

def fX1_readNumber  (S : TS) : Option TS :=
(if (t_length S) ≤ (t_place S) then fX1_readNumber_b66 S else
(zB2 (fX1_byteAt (t_place S) S) (fun r_16 S_16 =>
(zB1 (fX1_isDigit r_16) (fun r_19 =>
(if r_19 = 0 then fX1_readNumber_b66 S_16 else
(zB2 (fX1_byteAt (t_place S_16) S_16) (fun r_38 S_38 =>
(zL (t_meaning_u S_38 (if (100 : Int32) < ((((10 : Int32) * (t_meaning S_16)) + r_38) - (48 : Int32)) then (100 : Int32) else ((((10 : Int32) * (t_meaning S_16)) + r_38) - (48 : Int32)))) (fun S_50 =>
(zL (t_place_u S_50 ((t_place S_50) + (1 : Int32))) (fun S_60 =>
fX1_readNumber_b0L zF S_60))))))))))))
set_option maxHeartbeats 4000000 in
set_option maxRecDepth 100000 in
theorem kX1_readNumber (l : Launch) (zq : Nat → Nat) (D : va_G) (cy : Nat → ClassId) (ad : Nat → Nat)  (S S' : TS) (hf : fX1_readNumber S = some S') : zMet l yX1_readNumber wsX1_readNumber 1 21 zq D (tT cy) (wT cy ad S) [.ref (ad 0)] none (wT cy ad S') := by
  refine zMet.of cX1_readNumber 2 none (by decide) rfl (Nat.le_of_ble_eq_true rfl) ?_
  intro p e s m args below meth c A ls C hl hI
  have hl : lv_has ls 2 [(0, .ref (ad 0))] := hl
  have C : zC p s m args meth c cX1_readNumber 2 none RX1 wsX1_readNumber D (tT cy) zq A := C
  obtain ⟨hx, hb, hml, hown, hts, hret, hlk, hK, hX, hA⟩ := id C
  have hiX1 : ∀ w ∈ wsX10, w ∈ wsX1_readNumber := by decide +kernel
  obtain ⟨Q, hQ⟩ : ∃ Q, Q = MQ below (zQ D (tT cy) (wT cy ad S') none A) args s 0 0 A := ⟨_, rfl⟩
  rw [← hQ]
  have hb97 : ∀ (u0 : Int32) (S : TS) (H : Heap) (locs : List Loc) (ls : Array Slot), fX1_readNumber_b97 u0 S = some S' → zI D A s H locs (wT cy ad S) → lv_has ls 2 [(0, .ref (ad 0))] → W p l e { frames := 1, cells := 0, slots := 0, locals := 21 } s m args below meth c H locs 0 0 Q (F0 m 97 ls [.int u0]) := by
    intro u0 S H locs ls hf hI hl
    unfold fX1_readNumber_b97 at hf
    refine lv_istore_n (lv' := [(1, .int u0), (0, .ref (ad 0))]) hx hb dX1_readNumber_97 rfl hl (by decide) rfl (fun ls hl => ?_)
    refine lv_aload_n hx hb dX1_readNumber_98 rfl (lv_at hl 1 rfl) ?_
    refine lv_iload_n hx hb dX1_readNumber_99 rfl (lv_at hl 0 rfl) ?_
    refine lv_if_ne (tgt := 112) hx hb dX1_readNumber_100 (by decide) (fun c_100 => ?_) (fun c_100 => ?_)
    · replace hf := zIf c_100 hf
      refine lv_bipush (v := 10) hx hb dX1_readNumber_112 (by decide) ?_
      refine lv_goto (tgt := 119) hx hb dX1_readNumber_114 (by decide) ?_
      obtain ⟨S_119, eS_119, hf⟩ := zL_e hf
      refine z_put (D := D) (ci := 1) (v := .int (10 : Int32)) (ty := .int) (C := RX1) (T := TX1) (N := 11) (w2 := (wT cy ad S_119)) hx hb hts hiX1 tyX1 tyX1_ok nmX1 hown hK hI 0 rfl rfl 4 (by decide) (hts (.fieldLink RX1 25 "NoughtSums$Text" "token" "I") (by decide +kernel)) (fun _ h9 => h9) rfl (by decide +kernel) rfl rfl (Nat.le_of_ble_eq_true rfl) dX1_readNumber_119 (by rw [eS_119]; rfl) (fun H locs hI => ?_)
      have h2 := zP1 hf
      rw [hQ]
      exact z_vret C (by rw [h2]; exact hI) rfl dX1_readNumber_122
    · replace hf := zIt c_100 hf
      refine lv_aload_n hx hb dX1_readNumber_103 rfl (lv_at hl 1 rfl) ?_
      refine va_get (D := D) (ci := 1) (v := .int (t_meaning S)) (C := RX1) (T := TX1) (N := 11) hx hb hts hiX1 hown hK hI.1 0 rfl rfl 5 (by decide) (hts (.fieldLink RX1 28 "NoughtSums$Text" "meaning" "I") (by decide +kernel)) (fun _ h9 => h9) rfl dX1_readNumber_104 ?_
      refine lv_bipush (v := 99) hx hb dX1_readNumber_107 (by decide) ?_
      refine lv_icmp_le (tgt := 117) hx hb dX1_readNumber_109 (by decide) (fun c_109 => ?_) (fun c_109 => ?_)
      · replace hf := zIt c_109 hf
        refine lv_bipush (v := 6) hx hb dX1_readNumber_117 (by decide) ?_
        obtain ⟨S_119, eS_119, hf⟩ := zL_e hf
        refine z_put (D := D) (ci := 1) (v := .int (6 : Int32)) (ty := .int) (C := RX1) (T := TX1) (N := 11) (w2 := (wT cy ad S_119)) hx hb hts hiX1 tyX1 tyX1_ok nmX1 hown hK hI 0 rfl rfl 4 (by decide) (hts (.fieldLink RX1 25 "NoughtSums$Text" "token" "I") (by decide +kernel)) (fun _ h9 => h9) rfl (by decide +kernel) rfl rfl (Nat.le_of_ble_eq_true rfl) dX1_readNumber_119 (by rw [eS_119]; rfl) (fun H locs hI => ?_)
        have h2 := zP1 hf
        rw [hQ]
        exact z_vret C (by rw [h2]; exact hI) rfl dX1_readNumber_122
      · replace hf := zIf c_109 hf
        refine lv_bipush (v := 10) hx hb dX1_readNumber_112 (by decide) ?_
        refine lv_goto (tgt := 119) hx hb dX1_readNumber_114 (by decide) ?_
        obtain ⟨S_119, eS_119, hf⟩ := zL_e hf
        refine z_put (D := D) (ci := 1) (v := .int (10 : Int32)) (ty := .int) (C := RX1) (T := TX1) (N := 11) (w2 := (wT cy ad S_119)) hx hb hts hiX1 tyX1 tyX1_ok nmX1 hown hK hI 0 rfl rfl 4 (by decide) (hts (.fieldLink RX1 25 "NoughtSums$Text" "token" "I") (by decide +kernel)) (fun _ h9 => h9) rfl (by decide +kernel) rfl rfl (Nat.le_of_ble_eq_true rfl) dX1_readNumber_119 (by rw [eS_119]; rfl) (fun H locs hI => ?_)
        have h2 := zP1 hf
        rw [hQ]
        exact z_vret C (by rw [h2]; exact hI) rfl dX1_readNumber_122
  have hb96 : ∀ (S : TS) (H : Heap) (locs : List Loc) (ls : Array Slot), fX1_readNumber_b96 S = some S' → zI D A s H locs (wT cy ad S) → lv_has ls 2 [(0, .ref (ad 0))] → W p l e { frames := 1, cells := 0, slots := 0, locals := 21 } s m args below meth c H locs 0 0 Q (F0 m 96 ls []) := by
    intro S H locs ls hf hI hl
    unfold fX1_readNumber_b96 at hf
    refine lv_iconst (v := 0) hx hb dX1_readNumber_96 (by decide) ?_
    exact hb97 (0 : Int32) S _ _ _ hf hI (lv_sub hl [0] rfl)
  have hb66 : ∀ (S : TS) (H : Heap) (locs : List Loc) (ls : Array Slot), fX1_readNumber_b66 S = some S' → zI D A s H locs (wT cy ad S) → lv_has ls 2 [(0, .ref (ad 0))] → W p l e { frames := 1, cells := 0, slots := 0, locals := 21 } s m args below meth c H locs 0 0 Q (F0 m 66 ls []) := by
    intro S H locs ls hf hI hl
    unfold fX1_readNumber_b66 at hf
    refine lv_aload_n hx hb dX1_readNumber_66 rfl (lv_at hl 0 rfl) ?_
    refine lv_aload_n hx hb dX1_readNumber_67 rfl (lv_at hl 0 rfl) ?_
    refine va_get (D := D) (ci := 1) (v := .int (t_start S)) (C := RX1) (T := TX1) (N := 11) hx hb hts hiX1 hown hK hI.1 0 rfl rfl 3 (by decide) (hts (.fieldLink RX1 22 "NoughtSums$Text" "start" "I") (by decide +kernel)) (fun _ h9 => h9) rfl dX1_readNumber_68 ?_
    obtain ⟨r_71, S_71, hf_71, hf⟩ := zB2_s hf
    refine z_callV (w2 := (wT cy ad S_71)) C 1 (kX1_byteAt l zq D cy ad (t_start S) S S_71 r_71 hf_71) gX1_readNumber_X1_byteAt rfl (by decide +kernel) ⟨by decide, by decide⟩ hI 0 rfl rfl rfl hl.1 rfl (Nat.le_of_ble_eq_true rfl) dX1_readNumber_71 ⟨by decide, by decide⟩ (st2 := [.int r_71]) rfl (fun H locs hI => ?_)
    refine lv_bipush (v := 48) hx hb dX1_readNumber_74 (by decide) ?_
    refine lv_icmp_ne (tgt := 96) hx hb dX1_readNumber_76 (by decide) (fun c_76 => ?_) (fun c_76 => ?_)
    · replace hf := zIf c_76 hf
      exact hb96 S_71 _ _ _ hf hI (lv_sub hl [0] rfl)
    · replace hf := zIt c_76 hf
      refine lv_aload_n hx hb dX1_readNumber_79 rfl (lv_at hl 0 rfl) ?_
      refine va_get (D := D) (ci := 1) (v := .int (t_place S_71)) (C := RX1) (T := TX1) (N := 11) hx hb hts hiX1 hown hK hI.1 0 rfl rfl 2 (by decide) (hts (.fieldLink RX1 19 "NoughtSums$Text" "place" "I") (by decide +kernel)) (fun _ h9 => h9) rfl dX1_readNumber_80 ?_
      refine lv_aload_n hx hb dX1_readNumber_83 rfl (lv_at hl 0 rfl) ?_
      refine va_get (D := D) (ci := 1) (v := .int (t_start S_71)) (C := RX1) (T := TX1) (N := 11) hx hb hts hiX1 hown hK hI.1 0 rfl rfl 3 (by decide) (hts (.fieldLink RX1 22 "NoughtSums$Text" "start" "I") (by decide +kernel)) (fun _ h9 => h9) rfl dX1_readNumber_84 ?_
      refine lv_isub hx hb dX1_readNumber_87 ?_
      refine lv_iconst (v := 1) hx hb dX1_readNumber_88 (by decide) ?_
      refine lv_icmp_le (tgt := 96) hx hb dX1_readNumber_89 (by decide) (fun c_89 => ?_) (fun c_89 => ?_)
      · replace hf := zIt c_89 hf
        exact hb96 S_71 _ _ _ hf hI (lv_sub hl [0] rfl)
      · replace hf := zIf c_89 hf
        refine lv_iconst (v := 1) hx hb dX1_readNumber_92 (by decide) ?_
        refine lv_goto (tgt := 97) hx hb dX1_readNumber_93 (by decide) ?_
        exact hb97 (1 : Int32) S_71 _ _ _ hf hI (lv_sub hl [0] rfl)
  have hb0 : ∀ (n : Nat), ∀ (S : TS) (H : Heap) (locs : List Loc) (ls : Array Slot), fX1_readNumber_b0L n S = some S' → zI D A s H locs (wT cy ad S) → lv_has ls 2 [(0, .ref (ad 0))] → W p l e { frames := 1, cells := 0, slots := 0, locals := 21 } s m args below meth c H locs 0 0 Q (F0 m 0 ls []) := by
    intro n
    induction n with
    | zero => intro S H locs ls hf; cases (show (none : Option TS) = some S' from hf)
    | succ n ih =>
      intro S H locs ls hf hI hl
      have hf : fX1_readNumber_b0 (fX1_readNumber_b0L n) S = some S' := hf
      unfold fX1_readNumber_b0 at hf
      refine lv_aload_n hx hb dX1_readNumber_0 rfl (lv_at hl 0 rfl) ?_
      refine va_get (D := D) (ci := 1) (v := .int (t_place S)) (C := RX1) (T := TX1) (N := 11) hx hb hts hiX1 hown hK hI.1 0 rfl rfl 2 (by decide) (hts (.fieldLink RX1 19 "NoughtSums$Text" "place" "I") (by decide +kernel)) (fun _ h9 => h9) rfl dX1_readNumber_1 ?_
      refine lv_aload_n hx hb dX1_readNumber_4 rfl (lv_at hl 0 rfl) ?_
      refine va_get (D := D) (ci := 1) (v := .int (t_length S)) (C := RX1) (T := TX1) (N := 11) hx hb hts hiX1 hown hK hI.1 0 rfl rfl 1 (by decide) (hts (.fieldLink RX1 15 "NoughtSums$Text" "length" "I") (by decide +kernel)) (fun _ h9 => h9) rfl dX1_readNumber_5 ?_
      refine lv_icmp_ge (tgt := 66) hx hb dX1_readNumber_8 (by decide) (fun c_8 => ?_) (fun c_8 => ?_)
      · replace hf := zIt c_8 hf
        exact hb66 S _ _ _ hf hI (lv_sub hl [0] rfl)
      · replace hf := zIf c_8 hf
        refine lv_aload_n hx hb dX1_readNumber_11 rfl (lv_at hl 0 rfl) ?_
        refine lv_aload_n hx hb dX1_readNumber_12 rfl (lv_at hl 0 rfl) ?_
        refine va_get (D := D) (ci := 1) (v := .int (t_place S)) (C := RX1) (T := TX1) (N := 11) hx hb hts hiX1 hown hK hI.1 0 rfl rfl 2 (by decide) (hts (.fieldLink RX1 19 "NoughtSums$Text" "place" "I") (by decide +kernel)) (fun _ h9 => h9) rfl dX1_readNumber_13 ?_
        obtain ⟨r_16, S_16, hf_16, hf⟩ := zB2_s hf
        refine z_callV (w2 := (wT cy ad S_16)) C 1 (kX1_byteAt l zq D cy ad (t_place S) S S_16 r_16 hf_16) gX1_readNumber_X1_byteAt rfl (by decide +kernel) ⟨by decide, by decide⟩ hI 0 rfl rfl rfl hl.1 rfl (Nat.le_of_ble_eq_true rfl) dX1_readNumber_16 ⟨by decide, by decide⟩ (st2 := [.int r_16]) rfl (fun H locs hI => ?_)
        obtain ⟨r_19, hf_19, hf⟩ := zB1_s hf
        refine z_callS C 1 (kX1_isDigit l zq D r_16 r_19 hf_19) gX1_readNumber_X1_isDigit rfl (by decide +kernel) ⟨by decide, by decide⟩ hI rfl hl.1 rfl (Nat.le_of_ble_eq_true rfl) dX1_readNumber_19 ⟨by decide, by decide⟩ (st2 := [.int r_19]) rfl (fun H locs hI => ?_)
        refine lv_if_eq (tgt := 66) hx hb dX1_readNumber_22 (by decide) (fun c_22 => ?_) (fun c_22 => ?_)
        · replace hf := zIt c_22 hf
          exact hb66 S_16 _ _ _ hf hI (lv_sub hl [0] rfl)
        · replace hf := zIf c_22 hf
          refine lv_aload_n hx hb dX1_readNumber_25 rfl (lv_at hl 0 rfl) ?_
          refine lv_bipush (v := 10) hx hb dX1_readNumber_26 (by decide) ?_
          refine lv_aload_n hx hb dX1_readNumber_28 rfl (lv_at hl 0 rfl) ?_
          refine va_get (D := D) (ci := 1) (v := .int (t_meaning S_16)) (C := RX1) (T := TX1) (N := 11) hx hb hts hiX1 hown hK hI.1 0 rfl rfl 5 (by decide) (hts (.fieldLink RX1 28 "NoughtSums$Text" "meaning" "I") (by decide +kernel)) (fun _ h9 => h9) rfl dX1_readNumber_29 ?_
          refine lv_imul hx hb dX1_readNumber_32 ?_
          refine lv_aload_n hx hb dX1_readNumber_33 rfl (lv_at hl 0 rfl) ?_
          refine lv_aload_n hx hb dX1_readNumber_34 rfl (lv_at hl 0 rfl) ?_
          refine va_get (D := D) (ci := 1) (v := .int (t_place S_16)) (C := RX1) (T := TX1) (N := 11) hx hb hts hiX1 hown hK hI.1 0 rfl rfl 2 (by decide) (hts (.fieldLink RX1 19 "NoughtSums$Text" "place" "I") (by decide +kernel)) (fun _ h9 => h9) rfl dX1_readNumber_35 ?_
          obtain ⟨r_38, S_38, hf_38, hf⟩ := zB2_s hf
          refine z_callV (w2 := (wT cy ad S_38)) C 1 (kX1_byteAt l zq D cy ad (t_place S_16) S_16 S_38 r_38 hf_38) gX1_readNumber_X1_byteAt rfl (by decide +kernel) ⟨by decide, by decide⟩ hI 0 rfl rfl rfl hl.1 rfl (Nat.le_of_ble_eq_true rfl) dX1_readNumber_38 ⟨by decide, by decide⟩ (st2 := [.int r_38, .int ((10 : Int32) * (t_meaning S_16)), .ref (ad 0)]) rfl (fun H locs hI => ?_)
          refine lv_iadd hx hb dX1_readNumber_41 ?_
          refine lv_bipush (v := 48) hx hb dX1_readNumber_42 (by decide) ?_
          refine lv_isub hx hb dX1_readNumber_44 ?_
          refine lv_bipush (v := 100) hx hb dX1_readNumber_45 (by decide) ?_
          refine va_mmin hx hb (hml.trans hl.1.symm) hown (hts (.methodLink RX1 123 Lib.Math.min.name) (by decide +kernel)) (hts (.static Lib.Math.min.name) (by decide +kernel)) (hts (.initialized "java/lang/Math") (by decide +kernel)) (hts (.code Lib.Math.min.name Lib.Math.min.code 2 (some .int)) (by decide +kernel)) (by decide) (Nat.le_of_ble_eq_true rfl) (by decide) (by decide) dX1_readNumber_47 ?_
          obtain ⟨S_50, eS_50, hf⟩ := zL_e hf
          refine z_put (D := D) (ci := 1) (v := .int (if (100 : Int32) < ((((10 : Int32) * (t_meaning S_16)) + r_38) - (48 : Int32)) then (100 : Int32) else ((((10 : Int32) * (t_meaning S_16)) + r_38) - (48 : Int32)))) (ty := .int) (C := RX1) (T := TX1) (N := 11) (w2 := (wT cy ad S_50)) hx hb hts hiX1 tyX1 tyX1_ok nmX1 hown hK hI 0 rfl rfl 5 (by decide) (hts (.fieldLink RX1 28 "NoughtSums$Text" "meaning" "I") (by decide +kernel)) (fun _ h9 => h9) rfl (by decide +kernel) rfl rfl (Nat.le_of_ble_eq_true rfl) dX1_readNumber_50 (by rw [eS_50]; rfl) (fun H locs hI => ?_)
          refine lv_aload_n hx hb dX1_readNumber_53 rfl (lv_at hl 0 rfl) ?_
          refine lv_dup hx hb dX1_readNumber_54 rfl ?_
          refine va_get (D := D) (ci := 1) (v := .int (t_place S_50)) (C := RX1) (T := TX1) (N := 11) hx hb hts hiX1 hown hK hI.1 0 rfl rfl 2 (by decide) (hts (.fieldLink RX1 19 "NoughtSums$Text" "place" "I") (by decide +kernel)) (fun _ h9 => h9) rfl dX1_readNumber_55 ?_
          refine lv_iconst (v := 1) hx hb dX1_readNumber_58 (by decide) ?_
          refine lv_iadd hx hb dX1_readNumber_59 ?_
          obtain ⟨S_60, eS_60, hf⟩ := zL_e hf
          refine z_put (D := D) (ci := 1) (v := .int ((t_place S_50) + (1 : Int32))) (ty := .int) (C := RX1) (T := TX1) (N := 11) (w2 := (wT cy ad S_60)) hx hb hts hiX1 tyX1 tyX1_ok nmX1 hown hK hI 0 rfl rfl 2 (by decide) (hts (.fieldLink RX1 19 "NoughtSums$Text" "place" "I") (by decide +kernel)) (fun _ h9 => h9) rfl (by decide +kernel) rfl rfl (Nat.le_of_ble_eq_true rfl) dX1_readNumber_60 (by rw [eS_60]; rfl) (fun H locs hI => ?_)
          refine lv_goto (tgt := 0) hx hb dX1_readNumber_63 (by decide) ?_
          exact ih S_60 _ _ _ hf hI (lv_sub hl [0] rfl)
  unfold fX1_readNumber at hf
  refine lv_aload_n hx hb dX1_readNumber_0 rfl (lv_at hl 0 rfl) ?_
  refine va_get (D := D) (ci := 1) (v := .int (t_place S)) (C := RX1) (T := TX1) (N := 11) hx hb hts hiX1 hown hK hI.1 0 rfl rfl 2 (by decide) (hts (.fieldLink RX1 19 "NoughtSums$Text" "place" "I") (by decide +kernel)) (fun _ h9 => h9) rfl dX1_readNumber_1 ?_
  refine lv_aload_n hx hb dX1_readNumber_4 rfl (lv_at hl 0 rfl) ?_
  refine va_get (D := D) (ci := 1) (v := .int (t_length S)) (C := RX1) (T := TX1) (N := 11) hx hb hts hiX1 hown hK hI.1 0 rfl rfl 1 (by decide) (hts (.fieldLink RX1 15 "NoughtSums$Text" "length" "I") (by decide +kernel)) (fun _ h9 => h9) rfl dX1_readNumber_5 ?_
  refine lv_icmp_ge (tgt := 66) hx hb dX1_readNumber_8 (by decide) (fun c_8 => ?_) (fun c_8 => ?_)
  · replace hf := zIt c_8 hf
    exact hb66 S _ _ _ hf hI (lv_sub hl [0] rfl)
  · replace hf := zIf c_8 hf
    refine lv_aload_n hx hb dX1_readNumber_11 rfl (lv_at hl 0 rfl) ?_
    refine lv_aload_n hx hb dX1_readNumber_12 rfl (lv_at hl 0 rfl) ?_
    refine va_get (D := D) (ci := 1) (v := .int (t_place S)) (C := RX1) (T := TX1) (N := 11) hx hb hts hiX1 hown hK hI.1 0 rfl rfl 2 (by decide) (hts (.fieldLink RX1 19 "NoughtSums$Text" "place" "I") (by decide +kernel)) (fun _ h9 => h9) rfl dX1_readNumber_13 ?_
    obtain ⟨r_16, S_16, hf_16, hf⟩ := zB2_s hf
    refine z_callV (w2 := (wT cy ad S_16)) C 1 (kX1_byteAt l zq D cy ad (t_place S) S S_16 r_16 hf_16) gX1_readNumber_X1_byteAt rfl (by decide +kernel) ⟨by decide, by decide⟩ hI 0 rfl rfl rfl hl.1 rfl (Nat.le_of_ble_eq_true rfl) dX1_readNumber_16 ⟨by decide, by decide⟩ (st2 := [.int r_16]) rfl (fun H locs hI => ?_)
    obtain ⟨r_19, hf_19, hf⟩ := zB1_s hf
    refine z_callS C 1 (kX1_isDigit l zq D r_16 r_19 hf_19) gX1_readNumber_X1_isDigit rfl (by decide +kernel) ⟨by decide, by decide⟩ hI rfl hl.1 rfl (Nat.le_of_ble_eq_true rfl) dX1_readNumber_19 ⟨by decide, by decide⟩ (st2 := [.int r_19]) rfl (fun H locs hI => ?_)
    refine lv_if_eq (tgt := 66) hx hb dX1_readNumber_22 (by decide) (fun c_22 => ?_) (fun c_22 => ?_)
    · replace hf := zIt c_22 hf
      exact hb66 S_16 _ _ _ hf hI (lv_sub hl [0] rfl)
    · replace hf := zIf c_22 hf
      refine lv_aload_n hx hb dX1_readNumber_25 rfl (lv_at hl 0 rfl) ?_
      refine lv_bipush (v := 10) hx hb dX1_readNumber_26 (by decide) ?_
      refine lv_aload_n hx hb dX1_readNumber_28 rfl (lv_at hl 0 rfl) ?_
      refine va_get (D := D) (ci := 1) (v := .int (t_meaning S_16)) (C := RX1) (T := TX1) (N := 11) hx hb hts hiX1 hown hK hI.1 0 rfl rfl 5 (by decide) (hts (.fieldLink RX1 28 "NoughtSums$Text" "meaning" "I") (by decide +kernel)) (fun _ h9 => h9) rfl dX1_readNumber_29 ?_
      refine lv_imul hx hb dX1_readNumber_32 ?_
      refine lv_aload_n hx hb dX1_readNumber_33 rfl (lv_at hl 0 rfl) ?_
      refine lv_aload_n hx hb dX1_readNumber_34 rfl (lv_at hl 0 rfl) ?_
      refine va_get (D := D) (ci := 1) (v := .int (t_place S_16)) (C := RX1) (T := TX1) (N := 11) hx hb hts hiX1 hown hK hI.1 0 rfl rfl 2 (by decide) (hts (.fieldLink RX1 19 "NoughtSums$Text" "place" "I") (by decide +kernel)) (fun _ h9 => h9) rfl dX1_readNumber_35 ?_
      obtain ⟨r_38, S_38, hf_38, hf⟩ := zB2_s hf
      refine z_callV (w2 := (wT cy ad S_38)) C 1 (kX1_byteAt l zq D cy ad (t_place S_16) S_16 S_38 r_38 hf_38) gX1_readNumber_X1_byteAt rfl (by decide +kernel) ⟨by decide, by decide⟩ hI 0 rfl rfl rfl hl.1 rfl (Nat.le_of_ble_eq_true rfl) dX1_readNumber_38 ⟨by decide, by decide⟩ (st2 := [.int r_38, .int ((10 : Int32) * (t_meaning S_16)), .ref (ad 0)]) rfl (fun H locs hI => ?_)
      refine lv_iadd hx hb dX1_readNumber_41 ?_
      refine lv_bipush (v := 48) hx hb dX1_readNumber_42 (by decide) ?_
      refine lv_isub hx hb dX1_readNumber_44 ?_
      refine lv_bipush (v := 100) hx hb dX1_readNumber_45 (by decide) ?_
      refine va_mmin hx hb (hml.trans hl.1.symm) hown (hts (.methodLink RX1 123 Lib.Math.min.name) (by decide +kernel)) (hts (.static Lib.Math.min.name) (by decide +kernel)) (hts (.initialized "java/lang/Math") (by decide +kernel)) (hts (.code Lib.Math.min.name Lib.Math.min.code 2 (some .int)) (by decide +kernel)) (by decide) (Nat.le_of_ble_eq_true rfl) (by decide) (by decide) dX1_readNumber_47 ?_
      obtain ⟨S_50, eS_50, hf⟩ := zL_e hf
      refine z_put (D := D) (ci := 1) (v := .int (if (100 : Int32) < ((((10 : Int32) * (t_meaning S_16)) + r_38) - (48 : Int32)) then (100 : Int32) else ((((10 : Int32) * (t_meaning S_16)) + r_38) - (48 : Int32)))) (ty := .int) (C := RX1) (T := TX1) (N := 11) (w2 := (wT cy ad S_50)) hx hb hts hiX1 tyX1 tyX1_ok nmX1 hown hK hI 0 rfl rfl 5 (by decide) (hts (.fieldLink RX1 28 "NoughtSums$Text" "meaning" "I") (by decide +kernel)) (fun _ h9 => h9) rfl (by decide +kernel) rfl rfl (Nat.le_of_ble_eq_true rfl) dX1_readNumber_50 (by rw [eS_50]; rfl) (fun H locs hI => ?_)
      refine lv_aload_n hx hb dX1_readNumber_53 rfl (lv_at hl 0 rfl) ?_
      refine lv_dup hx hb dX1_readNumber_54 rfl ?_
      refine va_get (D := D) (ci := 1) (v := .int (t_place S_50)) (C := RX1) (T := TX1) (N := 11) hx hb hts hiX1 hown hK hI.1 0 rfl rfl 2 (by decide) (hts (.fieldLink RX1 19 "NoughtSums$Text" "place" "I") (by decide +kernel)) (fun _ h9 => h9) rfl dX1_readNumber_55 ?_
      refine lv_iconst (v := 1) hx hb dX1_readNumber_58 (by decide) ?_
      refine lv_iadd hx hb dX1_readNumber_59 ?_
      obtain ⟨S_60, eS_60, hf⟩ := zL_e hf
      refine z_put (D := D) (ci := 1) (v := .int ((t_place S_50) + (1 : Int32))) (ty := .int) (C := RX1) (T := TX1) (N := 11) (w2 := (wT cy ad S_60)) hx hb hts hiX1 tyX1 tyX1_ok nmX1 hown hK hI 0 rfl rfl 2 (by decide) (hts (.fieldLink RX1 19 "NoughtSums$Text" "place" "I") (by decide +kernel)) (fun _ h9 => h9) rfl (by decide +kernel) rfl rfl (Nat.le_of_ble_eq_true rfl) dX1_readNumber_60 (by rw [eS_60]; rfl) (fun H locs hI => ?_)
      refine lv_goto (tgt := 0) hx hb dX1_readNumber_63 (by decide) ?_
      exact hb0 zF S_60 _ _ _ hf hI (lv_sub hl [0] rfl)

def fX1_next_b37 (S : TS) : Option TS :=
(zL (t_start_u S (t_place S)) (fun S_42 =>
(zL (t_meaning_u S_42 (0 : Int32)) (fun S_47 =>
(zB2 (fX1_byteAt (t_start S_47) S_47) (fun r_55 S_55 =>
(if (t_start S_55) < (t_length S_55) then (zB1 (fX1_isSmallLetter r_55) (fun r_80 =>
(if r_80 = 0 then (zB1 (fX1_isDigit r_55) (fun r_94 =>
(if r_94 = 0 then (zL (t_place_u S_55 ((t_place S_55) + (1 : Int32))) (fun S_114 =>
(if r_55 = (43 : Int32) then (zL (t_token_u S_114 (7 : Int32)) (fun S_142 =>
some S_142)) else
(if r_55 = (59 : Int32) then (zL (t_token_u S_114 (8 : Int32)) (fun S_142 =>
some S_142)) else
(zL (t_token_u S_114 (10 : Int32)) (fun S_142 =>
some S_142)))))) else
(zB1 (fX1_readNumber S_55) (fun S_101 =>
some S_101))))) else
(zB1 (fX1_readWord S_55) (fun S_87 =>
some S_87))))) else
(zL (t_token_u S_55 (9 : Int32)) (fun S_73 =>
some S_73)))))))))

def fX1_next_b0 (k0 : TS → Option TS) (S : TS) : Option TS :=
(if (t_length S) ≤ (t_place S) then fX1_next_b37 S else
(zB2 (fX1_byteAt (t_place S) S) (fun r_16 S_16 =>
(if r_16 = (32 : Int32) then (zL (t_place_u S_16 ((t_place S_16) + (1 : Int32))) (fun S_31 =>
k0 S_31)) else
fX1_next_b37 S_16))))
def fX1_next_b0L : Nat → TS → Option TS
  | 0, _ => none
  | n + 1, S => fX1_next_b0 (fX1_next_b0L n) S

def fX1_next  (S : TS) : Option TS :=
(if (t_length S) ≤ (t_place S) then fX1_next_b37 S else
(zB2 (fX1_byteAt (t_place S) S) (fun r_16 S_16 =>
(if r_16 = (32 : Int32) then (zL (t_place_u S_16 ((t_place S_16) + (1 : Int32))) (fun S_31 =>
fX1_next_b0L zF S_31)) else
fX1_next_b37 S_16))))
set_option maxHeartbeats 4000000 in
set_option maxRecDepth 100000 in
theorem kX1_next (l : Launch) (zq : Nat → Nat) (D : va_G) (cy : Nat → ClassId) (ad : Nat → Nat)  (S S' : TS) (hf : fX1_next S = some S') : zMet l yX1_next wsX1_next 7 148 zq D (tT cy) (wT cy ad S) [.ref (ad 0)] none (wT cy ad S') := by
  refine zMet.of cX1_next 2 none (by decide) rfl (Nat.le_of_ble_eq_true rfl) ?_
  intro p e s m args below meth c A ls C hl hI
  have hl : lv_has ls 2 [(0, .ref (ad 0))] := hl
  have C : zC p s m args meth c cX1_next 2 none RX1 wsX1_next D (tT cy) zq A := C
  obtain ⟨hx, hb, hml, hown, hts, hret, hlk, hK, hX, hA⟩ := id C
  have hiX1 : ∀ w ∈ wsX10, w ∈ wsX1_next := by decide +kernel
  obtain ⟨Q, hQ⟩ : ∃ Q, Q = MQ below (zQ D (tT cy) (wT cy ad S') none A) args s 0 0 A := ⟨_, rfl⟩
  rw [← hQ]
  have hb37 : ∀ (S : TS) (H : Heap) (locs : List Loc) (ls : Array Slot), fX1_next_b37 S = some S' → zI D A s H locs (wT cy ad S) → lv_has ls 2 [(0, .ref (ad 0))] → W p l e { frames := 7, cells := 0, slots := 0, locals := 148 } s m args below meth c H locs 0 0 Q (F0 m 37 ls []) := by
    intro S H locs ls hf hI hl
    unfold fX1_next_b37 at hf
    refine lv_aload_n hx hb dX1_next_37 rfl (lv_at hl 0 rfl) ?_
    refine lv_aload_n hx hb dX1_next_38 rfl (lv_at hl 0 rfl) ?_
    refine va_get (D := D) (ci := 1) (v := .int (t_place S)) (C := RX1) (T := TX1) (N := 11) hx hb hts hiX1 hown hK hI.1 0 rfl rfl 2 (by decide) (hts (.fieldLink RX1 19 "NoughtSums$Text" "place" "I") (by decide +kernel)) (fun _ h9 => h9) rfl dX1_next_39 ?_
    obtain ⟨S_42, eS_42, hf⟩ := zL_e hf
    refine z_put (D := D) (ci := 1) (v := .int (t_place S)) (ty := .int) (C := RX1) (T := TX1) (N := 11) (w2 := (wT cy ad S_42)) hx hb hts hiX1 tyX1 tyX1_ok nmX1 hown hK hI 0 rfl rfl 3 (by decide) (hts (.fieldLink RX1 22 "NoughtSums$Text" "start" "I") (by decide +kernel)) (fun _ h9 => h9) rfl (by decide +kernel) rfl rfl (Nat.le_of_ble_eq_true rfl) dX1_next_42 (by rw [eS_42]; rfl) (fun H locs hI => ?_)
    refine lv_aload_n hx hb dX1_next_45 rfl (lv_at hl 0 rfl) ?_
    refine lv_iconst (v := 0) hx hb dX1_next_46 (by decide) ?_
    obtain ⟨S_47, eS_47, hf⟩ := zL_e hf
    refine z_put (D := D) (ci := 1) (v := .int (0 : Int32)) (ty := .int) (C := RX1) (T := TX1) (N := 11) (w2 := (wT cy ad S_47)) hx hb hts hiX1 tyX1 tyX1_ok nmX1 hown hK hI 0 rfl rfl 5 (by decide) (hts (.fieldLink RX1 28 "NoughtSums$Text" "meaning" "I") (by decide +kernel)) (fun _ h9 => h9) rfl (by decide +kernel) rfl rfl (Nat.le_of_ble_eq_true rfl) dX1_next_47 (by rw [eS_47]; rfl) (fun H locs hI => ?_)
    refine lv_aload_n hx hb dX1_next_50 rfl (lv_at hl 0 rfl) ?_
    refine lv_aload_n hx hb dX1_next_51 rfl (lv_at hl 0 rfl) ?_
    refine va_get (D := D) (ci := 1) (v := .int (t_start S_47)) (C := RX1) (T := TX1) (N := 11) hx hb hts hiX1 hown hK hI.1 0 rfl rfl 3 (by decide) (hts (.fieldLink RX1 22 "NoughtSums$Text" "start" "I") (by decide +kernel)) (fun _ h9 => h9) rfl dX1_next_52 ?_
    obtain ⟨r_55, S_55, hf_55, hf⟩ := zB2_s hf
    refine z_callV (w2 := (wT cy ad S_55)) C 1 (kX1_byteAt l zq D cy ad (t_start S_47) S_47 S_55 r_55 hf_55) gX1_next_X1_byteAt rfl (by decide +kernel) ⟨by decide, by decide⟩ hI 0 rfl rfl rfl hl.1 rfl (Nat.le_of_ble_eq_true rfl) dX1_next_55 ⟨by decide, by decide⟩ (st2 := [.int r_55]) rfl (fun H locs hI => ?_)
    refine lv_istore_n (lv' := [(1, .int r_55), (0, .ref (ad 0))]) hx hb dX1_next_58 rfl hl (by decide) rfl (fun ls hl => ?_)
    refine lv_aload_n hx hb dX1_next_59 rfl (lv_at hl 1 rfl) ?_
    refine va_get (D := D) (ci := 1) (v := .int (t_start S_55)) (C := RX1) (T := TX1) (N := 11) hx hb hts hiX1 hown hK hI.1 0 rfl rfl 3 (by decide) (hts (.fieldLink RX1 22 "NoughtSums$Text" "start" "I") (by decide +kernel)) (fun _ h9 => h9) rfl dX1_next_60 ?_
    refine lv_aload_n hx hb dX1_next_63 rfl (lv_at hl 1 rfl) ?_
    refine va_get (D := D) (ci := 1) (v := .int (t_length S_55)) (C := RX1) (T := TX1) (N := 11) hx hb hts hiX1 hown hK hI.1 0 rfl rfl 1 (by decide) (hts (.fieldLink RX1 15 "NoughtSums$Text" "length" "I") (by decide +kernel)) (fun _ h9 => h9) rfl dX1_next_64 ?_
    refine lv_icmp_lt (tgt := 79) hx hb dX1_next_67 (by decide) (fun c_67 => ?_) (fun c_67 => ?_)
    · replace hf := zIt c_67 hf
      refine lv_iload_n hx hb dX1_next_79 rfl (lv_at hl 0 rfl) ?_
      obtain ⟨r_80, hf_80, hf⟩ := zB1_s hf
      refine z_callS C 1 (kX1_isSmallLetter l zq D r_55 r_80 hf_80) gX1_next_X1_isSmallLetter rfl (by decide +kernel) ⟨by decide, by decide⟩ hI rfl hl.1 rfl (Nat.le_of_ble_eq_true rfl) dX1_next_80 ⟨by decide, by decide⟩ (st2 := [.int r_80]) rfl (fun H locs hI => ?_)
      refine lv_if_eq (tgt := 93) hx hb dX1_next_83 (by decide) (fun c_83 => ?_) (fun c_83 => ?_)
      · replace hf := zIt c_83 hf
        refine lv_iload_n hx hb dX1_next_93 rfl (lv_at hl 0 rfl) ?_
        obtain ⟨r_94, hf_94, hf⟩ := zB1_s hf
        refine z_callS C 1 (kX1_isDigit l zq D r_55 r_94 hf_94) gX1_next_X1_isDigit rfl (by decide +kernel) ⟨by decide, by decide⟩ hI rfl hl.1 rfl (Nat.le_of_ble_eq_true rfl) dX1_next_94 ⟨by decide, by decide⟩ (st2 := [.int r_94]) rfl (fun H locs hI => ?_)
        refine lv_if_eq (tgt := 107) hx hb dX1_next_97 (by decide) (fun c_97 => ?_) (fun c_97 => ?_)
        · replace hf := zIt c_97 hf
          refine lv_aload_n hx hb dX1_next_107 rfl (lv_at hl 1 rfl) ?_
          refine lv_dup hx hb dX1_next_108 rfl ?_
          refine va_get (D := D) (ci := 1) (v := .int (t_place S_55)) (C := RX1) (T := TX1) (N := 11) hx hb hts hiX1 hown hK hI.1 0 rfl rfl 2 (by decide) (hts (.fieldLink RX1 19 "NoughtSums$Text" "place" "I") (by decide +kernel)) (fun _ h9 => h9) rfl dX1_next_109 ?_
          refine lv_iconst (v := 1) hx hb dX1_next_112 (by decide) ?_
          refine lv_iadd hx hb dX1_next_113 ?_
          obtain ⟨S_114, eS_114, hf⟩ := zL_e hf
          refine z_put (D := D) (ci := 1) (v := .int ((t_place S_55) + (1 : Int32))) (ty := .int) (C := RX1) (T := TX1) (N := 11) (w2 := (wT cy ad S_114)) hx hb hts hiX1 tyX1 tyX1_ok nmX1 hown hK hI 0 rfl rfl 2 (by decide) (hts (.fieldLink RX1 19 "NoughtSums$Text" "place" "I") (by decide +kernel)) (fun _ h9 => h9) rfl (by decide +kernel) rfl rfl (Nat.le_of_ble_eq_true rfl) dX1_next_114 (by rw [eS_114]; rfl) (fun H locs hI => ?_)
          refine lv_aload_n hx hb dX1_next_117 rfl (lv_at hl 1 rfl) ?_
          refine lv_iload_n hx hb dX1_next_118 rfl (lv_at hl 0 rfl) ?_
          refine lv_bipush (v := 43) hx hb dX1_next_119 (by decide) ?_
          refine lv_icmp_ne (tgt := 129) hx hb dX1_next_121 (by decide) (fun c_121 => ?_) (fun c_121 => ?_)
          · replace hf := zIf c_121 hf
            refine lv_iload_n hx hb dX1_next_129 rfl (lv_at hl 0 rfl) ?_
            refine lv_bipush (v := 59) hx hb dX1_next_130 (by decide) ?_
            refine lv_icmp_ne (tgt := 140) hx hb dX1_next_132 (by decide) (fun c_132 => ?_) (fun c_132 => ?_)
            · replace hf := zIf c_132 hf
              refine lv_bipush (v := 10) hx hb dX1_next_140 (by decide) ?_
              obtain ⟨S_142, eS_142, hf⟩ := zL_e hf
              refine z_put (D := D) (ci := 1) (v := .int (10 : Int32)) (ty := .int) (C := RX1) (T := TX1) (N := 11) (w2 := (wT cy ad S_142)) hx hb hts hiX1 tyX1 tyX1_ok nmX1 hown hK hI 0 rfl rfl 4 (by decide) (hts (.fieldLink RX1 25 "NoughtSums$Text" "token" "I") (by decide +kernel)) (fun _ h9 => h9) rfl (by decide +kernel) rfl rfl (Nat.le_of_ble_eq_true rfl) dX1_next_142 (by rw [eS_142]; rfl) (fun H locs hI => ?_)
              have h2 := zP1 hf
              rw [hQ]
              exact z_vret C (by rw [h2]; exact hI) rfl dX1_next_145
            · replace hf := zIt c_132 hf
              refine lv_bipush (v := 8) hx hb dX1_next_135 (by decide) ?_
              refine lv_goto (tgt := 142) hx hb dX1_next_137 (by decide) ?_
              obtain ⟨S_142, eS_142, hf⟩ := zL_e hf
              refine z_put (D := D) (ci := 1) (v := .int (8 : Int32)) (ty := .int) (C := RX1) (T := TX1) (N := 11) (w2 := (wT cy ad S_142)) hx hb hts hiX1 tyX1 tyX1_ok nmX1 hown hK hI 0 rfl rfl 4 (by decide) (hts (.fieldLink RX1 25 "NoughtSums$Text" "token" "I") (by decide +kernel)) (fun _ h9 => h9) rfl (by decide +kernel) rfl rfl (Nat.le_of_ble_eq_true rfl) dX1_next_142 (by rw [eS_142]; rfl) (fun H locs hI => ?_)
              have h2 := zP1 hf
              rw [hQ]
              exact z_vret C (by rw [h2]; exact hI) rfl dX1_next_145
          · replace hf := zIt c_121 hf
            refine lv_bipush (v := 7) hx hb dX1_next_124 (by decide) ?_
            refine lv_goto (tgt := 142) hx hb dX1_next_126 (by decide) ?_
            obtain ⟨S_142, eS_142, hf⟩ := zL_e hf
            refine z_put (D := D) (ci := 1) (v := .int (7 : Int32)) (ty := .int) (C := RX1) (T := TX1) (N := 11) (w2 := (wT cy ad S_142)) hx hb hts hiX1 tyX1 tyX1_ok nmX1 hown hK hI 0 rfl rfl 4 (by decide) (hts (.fieldLink RX1 25 "NoughtSums$Text" "token" "I") (by decide +kernel)) (fun _ h9 => h9) rfl (by decide +kernel) rfl rfl (Nat.le_of_ble_eq_true rfl) dX1_next_142 (by rw [eS_142]; rfl) (fun H locs hI => ?_)
            have h2 := zP1 hf
            rw [hQ]
            exact z_vret C (by rw [h2]; exact hI) rfl dX1_next_145
        · replace hf := zIf c_97 hf
          refine lv_aload_n hx hb dX1_next_100 rfl (lv_at hl 1 rfl) ?_
          obtain ⟨S_101, hf_101, hf⟩ := zB1_s hf
          refine z_callV (w2 := (wT cy ad S_101)) C 0 (kX1_readNumber l zq D cy ad S_55 S_101 hf_101) gX1_next_X1_readNumber rfl (by decide +kernel) ⟨by decide, by decide⟩ hI 0 rfl rfl rfl hl.1 rfl (Nat.le_of_ble_eq_true rfl) dX1_next_101 ⟨by decide, by decide⟩ (st2 := []) rfl (fun H locs hI => ?_)
          refine lv_goto (tgt := 145) hx hb dX1_next_104 (by decide) ?_
          have h2 := zP1 hf
          rw [hQ]
          exact z_vret C (by rw [h2]; exact hI) rfl dX1_next_145
      · replace hf := zIf c_83 hf
        refine lv_aload_n hx hb dX1_next_86 rfl (lv_at hl 1 rfl) ?_
        obtain ⟨S_87, hf_87, hf⟩ := zB1_s hf
        refine z_callV (w2 := (wT cy ad S_87)) C 0 (kX1_readWord l zq D cy ad S_55 S_87 hf_87) gX1_next_X1_readWord rfl (by decide +kernel) ⟨by decide, by decide⟩ hI 0 rfl rfl rfl hl.1 rfl (Nat.le_of_ble_eq_true rfl) dX1_next_87 ⟨by decide, by decide⟩ (st2 := []) rfl (fun H locs hI => ?_)
        refine lv_goto (tgt := 145) hx hb dX1_next_90 (by decide) ?_
        have h2 := zP1 hf
        rw [hQ]
        exact z_vret C (by rw [h2]; exact hI) rfl dX1_next_145
    · replace hf := zIf c_67 hf
      refine lv_aload_n hx hb dX1_next_70 rfl (lv_at hl 1 rfl) ?_
      refine lv_bipush (v := 9) hx hb dX1_next_71 (by decide) ?_
      obtain ⟨S_73, eS_73, hf⟩ := zL_e hf
      refine z_put (D := D) (ci := 1) (v := .int (9 : Int32)) (ty := .int) (C := RX1) (T := TX1) (N := 11) (w2 := (wT cy ad S_73)) hx hb hts hiX1 tyX1 tyX1_ok nmX1 hown hK hI 0 rfl rfl 4 (by decide) (hts (.fieldLink RX1 25 "NoughtSums$Text" "token" "I") (by decide +kernel)) (fun _ h9 => h9) rfl (by decide +kernel) rfl rfl (Nat.le_of_ble_eq_true rfl) dX1_next_73 (by rw [eS_73]; rfl) (fun H locs hI => ?_)
      refine lv_goto (tgt := 145) hx hb dX1_next_76 (by decide) ?_
      have h2 := zP1 hf
      rw [hQ]
      exact z_vret C (by rw [h2]; exact hI) rfl dX1_next_145
  have hb0 : ∀ (n : Nat), ∀ (S : TS) (H : Heap) (locs : List Loc) (ls : Array Slot), fX1_next_b0L n S = some S' → zI D A s H locs (wT cy ad S) → lv_has ls 2 [(0, .ref (ad 0))] → W p l e { frames := 7, cells := 0, slots := 0, locals := 148 } s m args below meth c H locs 0 0 Q (F0 m 0 ls []) := by
    intro n
    induction n with
    | zero => intro S H locs ls hf; cases (show (none : Option TS) = some S' from hf)
    | succ n ih =>
      intro S H locs ls hf hI hl
      have hf : fX1_next_b0 (fX1_next_b0L n) S = some S' := hf
      unfold fX1_next_b0 at hf
      refine lv_aload_n hx hb dX1_next_0 rfl (lv_at hl 0 rfl) ?_
      refine va_get (D := D) (ci := 1) (v := .int (t_place S)) (C := RX1) (T := TX1) (N := 11) hx hb hts hiX1 hown hK hI.1 0 rfl rfl 2 (by decide) (hts (.fieldLink RX1 19 "NoughtSums$Text" "place" "I") (by decide +kernel)) (fun _ h9 => h9) rfl dX1_next_1 ?_
      refine lv_aload_n hx hb dX1_next_4 rfl (lv_at hl 0 rfl) ?_
      refine va_get (D := D) (ci := 1) (v := .int (t_length S)) (C := RX1) (T := TX1) (N := 11) hx hb hts hiX1 hown hK hI.1 0 rfl rfl 1 (by decide) (hts (.fieldLink RX1 15 "NoughtSums$Text" "length" "I") (by decide +kernel)) (fun _ h9 => h9) rfl dX1_next_5 ?_
      refine lv_icmp_ge (tgt := 37) hx hb dX1_next_8 (by decide) (fun c_8 => ?_) (fun c_8 => ?_)
      · replace hf := zIt c_8 hf
        exact hb37 S _ _ _ hf hI (lv_sub hl [0] rfl)
      · replace hf := zIf c_8 hf
        refine lv_aload_n hx hb dX1_next_11 rfl (lv_at hl 0 rfl) ?_
        refine lv_aload_n hx hb dX1_next_12 rfl (lv_at hl 0 rfl) ?_
        refine va_get (D := D) (ci := 1) (v := .int (t_place S)) (C := RX1) (T := TX1) (N := 11) hx hb hts hiX1 hown hK hI.1 0 rfl rfl 2 (by decide) (hts (.fieldLink RX1 19 "NoughtSums$Text" "place" "I") (by decide +kernel)) (fun _ h9 => h9) rfl dX1_next_13 ?_
        obtain ⟨r_16, S_16, hf_16, hf⟩ := zB2_s hf
        refine z_callV (w2 := (wT cy ad S_16)) C 1 (kX1_byteAt l zq D cy ad (t_place S) S S_16 r_16 hf_16) gX1_next_X1_byteAt rfl (by decide +kernel) ⟨by decide, by decide⟩ hI 0 rfl rfl rfl hl.1 rfl (Nat.le_of_ble_eq_true rfl) dX1_next_16 ⟨by decide, by decide⟩ (st2 := [.int r_16]) rfl (fun H locs hI => ?_)
        refine lv_bipush (v := 32) hx hb dX1_next_19 (by decide) ?_
        refine lv_icmp_ne (tgt := 37) hx hb dX1_next_21 (by decide) (fun c_21 => ?_) (fun c_21 => ?_)
        · replace hf := zIf c_21 hf
          exact hb37 S_16 _ _ _ hf hI (lv_sub hl [0] rfl)
        · replace hf := zIt c_21 hf
          refine lv_aload_n hx hb dX1_next_24 rfl (lv_at hl 0 rfl) ?_
          refine lv_dup hx hb dX1_next_25 rfl ?_
          refine va_get (D := D) (ci := 1) (v := .int (t_place S_16)) (C := RX1) (T := TX1) (N := 11) hx hb hts hiX1 hown hK hI.1 0 rfl rfl 2 (by decide) (hts (.fieldLink RX1 19 "NoughtSums$Text" "place" "I") (by decide +kernel)) (fun _ h9 => h9) rfl dX1_next_26 ?_
          refine lv_iconst (v := 1) hx hb dX1_next_29 (by decide) ?_
          refine lv_iadd hx hb dX1_next_30 ?_
          obtain ⟨S_31, eS_31, hf⟩ := zL_e hf
          refine z_put (D := D) (ci := 1) (v := .int ((t_place S_16) + (1 : Int32))) (ty := .int) (C := RX1) (T := TX1) (N := 11) (w2 := (wT cy ad S_31)) hx hb hts hiX1 tyX1 tyX1_ok nmX1 hown hK hI 0 rfl rfl 2 (by decide) (hts (.fieldLink RX1 19 "NoughtSums$Text" "place" "I") (by decide +kernel)) (fun _ h9 => h9) rfl (by decide +kernel) rfl rfl (Nat.le_of_ble_eq_true rfl) dX1_next_31 (by rw [eS_31]; rfl) (fun H locs hI => ?_)
          refine lv_goto (tgt := 0) hx hb dX1_next_34 (by decide) ?_
          exact ih S_31 _ _ _ hf hI (lv_sub hl [0] rfl)
  unfold fX1_next at hf
  refine lv_aload_n hx hb dX1_next_0 rfl (lv_at hl 0 rfl) ?_
  refine va_get (D := D) (ci := 1) (v := .int (t_place S)) (C := RX1) (T := TX1) (N := 11) hx hb hts hiX1 hown hK hI.1 0 rfl rfl 2 (by decide) (hts (.fieldLink RX1 19 "NoughtSums$Text" "place" "I") (by decide +kernel)) (fun _ h9 => h9) rfl dX1_next_1 ?_
  refine lv_aload_n hx hb dX1_next_4 rfl (lv_at hl 0 rfl) ?_
  refine va_get (D := D) (ci := 1) (v := .int (t_length S)) (C := RX1) (T := TX1) (N := 11) hx hb hts hiX1 hown hK hI.1 0 rfl rfl 1 (by decide) (hts (.fieldLink RX1 15 "NoughtSums$Text" "length" "I") (by decide +kernel)) (fun _ h9 => h9) rfl dX1_next_5 ?_
  refine lv_icmp_ge (tgt := 37) hx hb dX1_next_8 (by decide) (fun c_8 => ?_) (fun c_8 => ?_)
  · replace hf := zIt c_8 hf
    exact hb37 S _ _ _ hf hI (lv_sub hl [0] rfl)
  · replace hf := zIf c_8 hf
    refine lv_aload_n hx hb dX1_next_11 rfl (lv_at hl 0 rfl) ?_
    refine lv_aload_n hx hb dX1_next_12 rfl (lv_at hl 0 rfl) ?_
    refine va_get (D := D) (ci := 1) (v := .int (t_place S)) (C := RX1) (T := TX1) (N := 11) hx hb hts hiX1 hown hK hI.1 0 rfl rfl 2 (by decide) (hts (.fieldLink RX1 19 "NoughtSums$Text" "place" "I") (by decide +kernel)) (fun _ h9 => h9) rfl dX1_next_13 ?_
    obtain ⟨r_16, S_16, hf_16, hf⟩ := zB2_s hf
    refine z_callV (w2 := (wT cy ad S_16)) C 1 (kX1_byteAt l zq D cy ad (t_place S) S S_16 r_16 hf_16) gX1_next_X1_byteAt rfl (by decide +kernel) ⟨by decide, by decide⟩ hI 0 rfl rfl rfl hl.1 rfl (Nat.le_of_ble_eq_true rfl) dX1_next_16 ⟨by decide, by decide⟩ (st2 := [.int r_16]) rfl (fun H locs hI => ?_)
    refine lv_bipush (v := 32) hx hb dX1_next_19 (by decide) ?_
    refine lv_icmp_ne (tgt := 37) hx hb dX1_next_21 (by decide) (fun c_21 => ?_) (fun c_21 => ?_)
    · replace hf := zIf c_21 hf
      exact hb37 S_16 _ _ _ hf hI (lv_sub hl [0] rfl)
    · replace hf := zIt c_21 hf
      refine lv_aload_n hx hb dX1_next_24 rfl (lv_at hl 0 rfl) ?_
      refine lv_dup hx hb dX1_next_25 rfl ?_
      refine va_get (D := D) (ci := 1) (v := .int (t_place S_16)) (C := RX1) (T := TX1) (N := 11) hx hb hts hiX1 hown hK hI.1 0 rfl rfl 2 (by decide) (hts (.fieldLink RX1 19 "NoughtSums$Text" "place" "I") (by decide +kernel)) (fun _ h9 => h9) rfl dX1_next_26 ?_
      refine lv_iconst (v := 1) hx hb dX1_next_29 (by decide) ?_
      refine lv_iadd hx hb dX1_next_30 ?_
      obtain ⟨S_31, eS_31, hf⟩ := zL_e hf
      refine z_put (D := D) (ci := 1) (v := .int ((t_place S_16) + (1 : Int32))) (ty := .int) (C := RX1) (T := TX1) (N := 11) (w2 := (wT cy ad S_31)) hx hb hts hiX1 tyX1 tyX1_ok nmX1 hown hK hI 0 rfl rfl 2 (by decide) (hts (.fieldLink RX1 19 "NoughtSums$Text" "place" "I") (by decide +kernel)) (fun _ h9 => h9) rfl (by decide +kernel) rfl rfl (Nat.le_of_ble_eq_true rfl) dX1_next_31 (by rw [eS_31]; rfl) (fun H locs hI => ?_)
      refine lv_goto (tgt := 0) hx hb dX1_next_34 (by decide) ?_
      exact hb0 zF S_31 _ _ _ hf hI (lv_sub hl [0] rfl)

def fX1_begin  (S : TS) : Option TS :=
(zL (t_place_u S (0 : Int32)) (fun S_2 =>
(zL (t_told_u S_2 (0 : Int32)) (fun S_7 =>
(zB1 (fX1_next S_7) (fun S_11 =>
some S_11))))))
set_option maxHeartbeats 4000000 in
set_option maxRecDepth 100000 in
theorem kX1_begin (l : Launch) (zq : Nat → Nat) (D : va_G) (cy : Nat → ClassId) (ad : Nat → Nat)  (S S' : TS) (hf : fX1_begin S = some S') : zMet l yX1_begin wsX1_begin 8 169 zq D (tT cy) (wT cy ad S) [.ref (ad 0)] none (wT cy ad S') := by
  refine zMet.of cX1_begin 1 none (by decide) rfl (Nat.le_of_ble_eq_true rfl) ?_
  intro p e s m args below meth c A ls C hl hI
  have hl : lv_has ls 1 [(0, .ref (ad 0))] := hl
  have C : zC p s m args meth c cX1_begin 1 none RX1 wsX1_begin D (tT cy) zq A := C
  obtain ⟨hx, hb, hml, hown, hts, hret, hlk, hK, hX, hA⟩ := id C
  have hiX1 : ∀ w ∈ wsX10, w ∈ wsX1_begin := by decide +kernel
  obtain ⟨Q, hQ⟩ : ∃ Q, Q = MQ below (zQ D (tT cy) (wT cy ad S') none A) args s 0 0 A := ⟨_, rfl⟩
  rw [← hQ]
  unfold fX1_begin at hf
  refine lv_aload_n hx hb dX1_begin_0 rfl (lv_at hl 0 rfl) ?_
  refine lv_iconst (v := 0) hx hb dX1_begin_1 (by decide) ?_
  obtain ⟨S_2, eS_2, hf⟩ := zL_e hf
  refine z_put (D := D) (ci := 1) (v := .int (0 : Int32)) (ty := .int) (C := RX1) (T := TX1) (N := 11) (w2 := (wT cy ad S_2)) hx hb hts hiX1 tyX1 tyX1_ok nmX1 hown hK hI 0 rfl rfl 2 (by decide) (hts (.fieldLink RX1 19 "NoughtSums$Text" "place" "I") (by decide +kernel)) (fun _ h9 => h9) rfl (by decide +kernel) rfl rfl (Nat.le_of_ble_eq_true rfl) dX1_begin_2 (by rw [eS_2]; rfl) (fun H locs hI => ?_)
  refine lv_aload_n hx hb dX1_begin_5 rfl (lv_at hl 0 rfl) ?_
  refine lv_iconst (v := 0) hx hb dX1_begin_6 (by decide) ?_
  obtain ⟨S_7, eS_7, hf⟩ := zL_e hf
  refine z_put (D := D) (ci := 1) (v := .int (0 : Int32)) (ty := .int) (C := RX1) (T := TX1) (N := 11) (w2 := (wT cy ad S_7)) hx hb hts hiX1 tyX1 tyX1_ok nmX1 hown hK hI 0 rfl rfl 6 (by decide) (hts (.fieldLink RX1 31 "NoughtSums$Text" "told" "I") (by decide +kernel)) (fun _ h9 => h9) rfl (by decide +kernel) rfl rfl (Nat.le_of_ble_eq_true rfl) dX1_begin_7 (by rw [eS_7]; rfl) (fun H locs hI => ?_)
  refine lv_aload_n hx hb dX1_begin_10 rfl (lv_at hl 0 rfl) ?_
  obtain ⟨S_11, hf_11, hf⟩ := zB1_s hf
  refine z_callV (w2 := (wT cy ad S_11)) C 0 (kX1_next l zq D cy ad S_7 S_11 hf_11) gX1_begin_X1_next rfl (by decide +kernel) ⟨by decide, by decide⟩ hI 0 rfl rfl rfl hl.1 rfl (Nat.le_of_ble_eq_true rfl) dX1_begin_11 ⟨by decide, by decide⟩ (st2 := []) rfl (fun H locs hI => ?_)
  have h2 := zP1 hf
  rw [hQ]
  exact z_vret C (by rw [h2]; exact hI) rfl dX1_begin_14

def fX1_isTerm  (S : TS) : Option (Int32 × TS) :=
(if (t_token S) = (5 : Int32) then some ((1 : Int32), S) else
(if (t_token S) = (6 : Int32) then (if (1 : Int32) < (t_meaning S) then some ((0 : Int32), S) else
some ((1 : Int32), S)) else
some ((0 : Int32), S)))
set_option maxHeartbeats 4000000 in
set_option maxRecDepth 100000 in
theorem kX1_isTerm (l : Launch) (zq : Nat → Nat) (D : va_G) (cy : Nat → ClassId) (ad : Nat → Nat)  (S S' : TS) (r : Int32) (hf : fX1_isTerm S = some (r, S')) : zMet l yX1_isTerm wsX1_isTerm 0 0 zq D (tT cy) (wT cy ad S) [.ref (ad 0)] (some (.int r)) (wT cy ad S') := by
  refine zMet.of cX1_isTerm 1 (some .boolean) (by decide) rfl (Nat.le_of_ble_eq_true rfl) ?_
  intro p e s m args below meth c A ls C hl hI
  have hl : lv_has ls 1 [(0, .ref (ad 0))] := hl
  have C : zC p s m args meth c cX1_isTerm 1 (some .boolean) RX1 wsX1_isTerm D (tT cy) zq A := C
  obtain ⟨hx, hb, hml, hown, hts, hret, hlk, hK, hX, hA⟩ := id C
  have hiX1 : ∀ w ∈ wsX10, w ∈ wsX1_isTerm := by decide +kernel
  obtain ⟨Q, hQ⟩ : ∃ Q, Q = MQ below (zQ D (tT cy) (wT cy ad S') (some (.int r)) A) args s 0 0 A := ⟨_, rfl⟩
  rw [← hQ]
  unfold fX1_isTerm at hf
  refine lv_aload_n hx hb dX1_isTerm_0 rfl (lv_at hl 0 rfl) ?_
  refine va_get (D := D) (ci := 1) (v := .int (t_token S)) (C := RX1) (T := TX1) (N := 11) hx hb hts hiX1 hown hK hI.1 0 rfl rfl 4 (by decide) (hts (.fieldLink RX1 25 "NoughtSums$Text" "token" "I") (by decide +kernel)) (fun _ h9 => h9) rfl dX1_isTerm_1 ?_
  refine lv_iconst (v := 5) hx hb dX1_isTerm_4 (by decide) ?_
  refine lv_icmp_eq (tgt := 25) hx hb dX1_isTerm_5 (by decide) (fun c_5 => ?_) (fun c_5 => ?_)
  · replace hf := zIt c_5 hf
    refine lv_iconst (v := 1) hx hb dX1_isTerm_25 (by decide) ?_
    refine lv_goto (tgt := 30) hx hb dX1_isTerm_26 (by decide) ?_
    obtain ⟨h1, h2⟩ := zP2 hf
    rw [hQ]
    exact z_zret C (by rw [h2]; exact hI) (by rw [h1]) rfl dX1_isTerm_30
  · replace hf := zIf c_5 hf
    refine lv_aload_n hx hb dX1_isTerm_8 rfl (lv_at hl 0 rfl) ?_
    refine va_get (D := D) (ci := 1) (v := .int (t_token S)) (C := RX1) (T := TX1) (N := 11) hx hb hts hiX1 hown hK hI.1 0 rfl rfl 4 (by decide) (hts (.fieldLink RX1 25 "NoughtSums$Text" "token" "I") (by decide +kernel)) (fun _ h9 => h9) rfl dX1_isTerm_9 ?_
    refine lv_bipush (v := 6) hx hb dX1_isTerm_12 (by decide) ?_
    refine lv_icmp_ne (tgt := 29) hx hb dX1_isTerm_14 (by decide) (fun c_14 => ?_) (fun c_14 => ?_)
    · replace hf := zIf c_14 hf
      refine lv_iconst (v := 0) hx hb dX1_isTerm_29 (by decide) ?_
      obtain ⟨h1, h2⟩ := zP2 hf
      rw [hQ]
      exact z_zret C (by rw [h2]; exact hI) (by rw [h1]) rfl dX1_isTerm_30
    · replace hf := zIt c_14 hf
      refine lv_aload_n hx hb dX1_isTerm_17 rfl (lv_at hl 0 rfl) ?_
      refine va_get (D := D) (ci := 1) (v := .int (t_meaning S)) (C := RX1) (T := TX1) (N := 11) hx hb hts hiX1 hown hK hI.1 0 rfl rfl 5 (by decide) (hts (.fieldLink RX1 28 "NoughtSums$Text" "meaning" "I") (by decide +kernel)) (fun _ h9 => h9) rfl dX1_isTerm_18 ?_
      refine lv_iconst (v := 1) hx hb dX1_isTerm_21 (by decide) ?_
      refine lv_icmp_gt (tgt := 29) hx hb dX1_isTerm_22 (by decide) (fun c_22 => ?_) (fun c_22 => ?_)
      · replace hf := zIt c_22 hf
        refine lv_iconst (v := 0) hx hb dX1_isTerm_29 (by decide) ?_
        obtain ⟨h1, h2⟩ := zP2 hf
        rw [hQ]
        exact z_zret C (by rw [h2]; exact hI) (by rw [h1]) rfl dX1_isTerm_30
      · replace hf := zIf c_22 hf
        refine lv_iconst (v := 1) hx hb dX1_isTerm_25 (by decide) ?_
        refine lv_goto (tgt := 30) hx hb dX1_isTerm_26 (by decide) ?_
        obtain ⟨h1, h2⟩ := zP2 hf
        rw [hQ]
        exact z_zret C (by rw [h2]; exact hI) (by rw [h1]) rfl dX1_isTerm_30

def fX1_termAtHand  (S : TS) : Option (Int64 × TS) :=
(if (t_token S) = (5 : Int32) then some (((1 : Int64) <<< ((t_meaning S).toInt64 &&& 63)), S) else
(if (t_meaning S) = (1 : Int32) then some ((1 : Int64), S) else
some ((0 : Int64), S)))
set_option maxHeartbeats 4000000 in
set_option maxRecDepth 100000 in
theorem kX1_termAtHand (l : Launch) (zq : Nat → Nat) (D : va_G) (cy : Nat → ClassId) (ad : Nat → Nat)  (S S' : TS) (r : Int64) (hf : fX1_termAtHand S = some (r, S')) : zMet l yX1_termAtHand wsX1_termAtHand 0 0 zq D (tT cy) (wT cy ad S) [.ref (ad 0)] (some (.long r)) (wT cy ad S') := by
  refine zMet.of cX1_termAtHand 1 (some .long) (by decide) rfl (Nat.le_of_ble_eq_true rfl) ?_
  intro p e s m args below meth c A ls C hl hI
  have hl : lv_has ls 1 [(0, .ref (ad 0))] := hl
  have C : zC p s m args meth c cX1_termAtHand 1 (some .long) RX1 wsX1_termAtHand D (tT cy) zq A := C
  obtain ⟨hx, hb, hml, hown, hts, hret, hlk, hK, hX, hA⟩ := id C
  have hiX1 : ∀ w ∈ wsX10, w ∈ wsX1_termAtHand := by decide +kernel
  obtain ⟨Q, hQ⟩ : ∃ Q, Q = MQ below (zQ D (tT cy) (wT cy ad S') (some (.long r)) A) args s 0 0 A := ⟨_, rfl⟩
  rw [← hQ]
  unfold fX1_termAtHand at hf
  refine lv_aload_n hx hb dX1_termAtHand_0 rfl (lv_at hl 0 rfl) ?_
  refine va_get (D := D) (ci := 1) (v := .int (t_token S)) (C := RX1) (T := TX1) (N := 11) hx hb hts hiX1 hown hK hI.1 0 rfl rfl 4 (by decide) (hts (.fieldLink RX1 25 "NoughtSums$Text" "token" "I") (by decide +kernel)) (fun _ h9 => h9) rfl dX1_termAtHand_1 ?_
  refine lv_iconst (v := 5) hx hb dX1_termAtHand_4 (by decide) ?_
  refine lv_icmp_ne (tgt := 15) hx hb dX1_termAtHand_5 (by decide) (fun c_5 => ?_) (fun c_5 => ?_)
  · replace hf := zIf c_5 hf
    refine lv_aload_n hx hb dX1_termAtHand_15 rfl (lv_at hl 0 rfl) ?_
    refine va_get (D := D) (ci := 1) (v := .int (t_meaning S)) (C := RX1) (T := TX1) (N := 11) hx hb hts hiX1 hown hK hI.1 0 rfl rfl 5 (by decide) (hts (.fieldLink RX1 28 "NoughtSums$Text" "meaning" "I") (by decide +kernel)) (fun _ h9 => h9) rfl dX1_termAtHand_16 ?_
    refine lv_iconst (v := 1) hx hb dX1_termAtHand_19 (by decide) ?_
    refine lv_icmp_ne (tgt := 27) hx hb dX1_termAtHand_20 (by decide) (fun c_20 => ?_) (fun c_20 => ?_)
    · replace hf := zIf c_20 hf
      refine lv_lconst (v := 0) hx hb dX1_termAtHand_27 (by decide) ?_
      obtain ⟨h1, h2⟩ := zP2 hf
      rw [hQ]
      exact z_lret C (by rw [h2]; exact hI) (by rw [h1]) dX1_termAtHand_28
    · replace hf := zIt c_20 hf
      refine lv_lconst (v := 1) hx hb dX1_termAtHand_23 (by decide) ?_
      refine lv_goto (tgt := 28) hx hb dX1_termAtHand_24 (by decide) ?_
      obtain ⟨h1, h2⟩ := zP2 hf
      rw [hQ]
      exact z_lret C (by rw [h2]; exact hI) (by rw [h1]) dX1_termAtHand_28
  · replace hf := zIt c_5 hf
    refine lv_lconst (v := 1) hx hb dX1_termAtHand_8 (by decide) ?_
    refine lv_aload_n hx hb dX1_termAtHand_9 rfl (lv_at hl 0 rfl) ?_
    refine va_get (D := D) (ci := 1) (v := .int (t_meaning S)) (C := RX1) (T := TX1) (N := 11) hx hb hts hiX1 hown hK hI.1 0 rfl rfl 5 (by decide) (hts (.fieldLink RX1 28 "NoughtSums$Text" "meaning" "I") (by decide +kernel)) (fun _ h9 => h9) rfl dX1_termAtHand_10 ?_
    refine lv_lshl hx hb dX1_termAtHand_13 rfl ?_
    obtain ⟨h1, h2⟩ := zP2 hf
    rw [hQ]
    exact z_lret C (by rw [h2]; exact hI) (by rw [h1]) dX1_termAtHand_14

def fX1_readSum_b53 (v1 : Int64) (S : TS) : Option (Int32 × TS) :=
(if (t_token S) = (8 : Int32) then (if (t_told S) < 0 then some ((0 : Int32), S) else
(if (t_told S) < (24 : Int32) then (zGI (t_told S) 24
(zL (t_sums_u S (vp_updL (t_sums S) (t_told S).toNatClampNeg v1)) (fun S_89 =>
some ((1 : Int32), S_89)))) else
some ((0 : Int32), S))) else
some ((0 : Int32), S))

def fX1_readSum_b4 (k4 : Int64 → Int32 → TS → Option (Int32 × TS)) (v1 : Int64) (v3 : Int32) (S : TS) : Option (Int32 × TS) :=
(if (400 : Int32) ≤ v3 then fX1_readSum_b53 v1 S else
(zB2 (fX1_isTerm S) (fun r_12 S_12 =>
(if r_12 = 0 then some ((0 : Int32), S_12) else
(zB2 (fX1_termAtHand S_12) (fun r_22 S_22 =>
(zB1 (fX1_next S_22) (fun S_28 =>
(if (t_token S_28) = (7 : Int32) then (zB1 (fX1_next S_28) (fun S_44 =>
k4 (v1 ^^^ r_22) (v3 + (1 : Int32)) S_44)) else
fX1_readSum_b53 (v1 ^^^ r_22) S_28)))))))))
def fX1_readSum_b4L : Nat → Int64 → Int32 → TS → Option (Int32 × TS)
  | 0, _, _, _ => none
  | n + 1, v1, v3, S => fX1_readSum_b4 (fX1_readSum_b4L n) v1 v3 S

def fX1_readSum  (S : TS) : Option (Int32 × TS) :=
fX1_readSum_b4L zF (0 : Int64) (0 : Int32) S
set_option maxHeartbeats 4000000 in
set_option maxRecDepth 100000 in
theorem kX1_readSum (l : Launch) (zq : Nat → Nat) (D : va_G) (cy : Nat → ClassId) (ad : Nat → Nat)  (S S' : TS) (r : Int32) (hf : fX1_readSum S = some (r, S')) : zMet l yX1_readSum wsX1_readSum 8 169 zq D (tT cy) (wT cy ad S) [.ref (ad 0)] (some (.int r)) (wT cy ad S') := by
  refine zMet.of cX1_readSum 4 (some .boolean) (by decide) rfl (Nat.le_of_ble_eq_true rfl) ?_
  intro p e s m args below meth c A ls C hl hI
  have hl : lv_has ls 4 [(0, .ref (ad 0))] := hl
  have C : zC p s m args meth c cX1_readSum 4 (some .boolean) RX1 wsX1_readSum D (tT cy) zq A := C
  obtain ⟨hx, hb, hml, hown, hts, hret, hlk, hK, hX, hA⟩ := id C
  have hiX1 : ∀ w ∈ wsX10, w ∈ wsX1_readSum := by decide +kernel
  obtain ⟨Q, hQ⟩ : ∃ Q, Q = MQ below (zQ D (tT cy) (wT cy ad S') (some (.int r)) A) args s 0 0 A := ⟨_, rfl⟩
  rw [← hQ]
  have hb53 : ∀ (v1 : Int64) (S : TS) (H : Heap) (locs : List Loc) (ls : Array Slot), fX1_readSum_b53 v1 S = some (r, S') → zI D A s H locs (wT cy ad S) → lv_has ls 4 [(0, .ref (ad 0)), (1, .long v1)] → W p l e { frames := 8, cells := 0, slots := 0, locals := 169 } s m args below meth c H locs 0 0 Q (F0 m 53 ls []) := by
    intro v1 S H locs ls hf hI hl
    unfold fX1_readSum_b53 at hf
    refine lv_aload_n hx hb dX1_readSum_53 rfl (lv_at hl 0 rfl) ?_
    refine va_get (D := D) (ci := 1) (v := .int (t_token S)) (C := RX1) (T := TX1) (N := 11) hx hb hts hiX1 hown hK hI.1 0 rfl rfl 4 (by decide) (hts (.fieldLink RX1 25 "NoughtSums$Text" "token" "I") (by decide +kernel)) (fun _ h9 => h9) rfl dX1_readSum_54 ?_
    refine lv_bipush (v := 8) hx hb dX1_readSum_57 (by decide) ?_
    refine lv_icmp_ne (tgt := 78) hx hb dX1_readSum_59 (by decide) (fun c_59 => ?_) (fun c_59 => ?_)
    · replace hf := zIf c_59 hf
      refine lv_iconst (v := 0) hx hb dX1_readSum_78 (by decide) ?_
      obtain ⟨h1, h2⟩ := zP2 hf
      rw [hQ]
      exact z_zret C (by rw [h2]; exact hI) (by rw [h1]) rfl dX1_readSum_79
    · replace hf := zIt c_59 hf
      refine lv_aload_n hx hb dX1_readSum_62 rfl (lv_at hl 0 rfl) ?_
      refine va_get (D := D) (ci := 1) (v := .int (t_told S)) (C := RX1) (T := TX1) (N := 11) hx hb hts hiX1 hown hK hI.1 0 rfl rfl 6 (by decide) (hts (.fieldLink RX1 31 "NoughtSums$Text" "told" "I") (by decide +kernel)) (fun _ h9 => h9) rfl dX1_readSum_63 ?_
      refine lv_if_lt (tgt := 78) hx hb dX1_readSum_66 (by decide) (fun c_66 => ?_) (fun c_66 => ?_)
      · replace hf := zIt c_66 hf
        refine lv_iconst (v := 0) hx hb dX1_readSum_78 (by decide) ?_
        obtain ⟨h1, h2⟩ := zP2 hf
        rw [hQ]
        exact z_zret C (by rw [h2]; exact hI) (by rw [h1]) rfl dX1_readSum_79
      · replace hf := zIf c_66 hf
        refine lv_aload_n hx hb dX1_readSum_69 rfl (lv_at hl 0 rfl) ?_
        refine va_get (D := D) (ci := 1) (v := .int (t_told S)) (C := RX1) (T := TX1) (N := 11) hx hb hts hiX1 hown hK hI.1 0 rfl rfl 6 (by decide) (hts (.fieldLink RX1 31 "NoughtSums$Text" "told" "I") (by decide +kernel)) (fun _ h9 => h9) rfl dX1_readSum_70 ?_
        refine lv_bipush (v := 24) hx hb dX1_readSum_73 (by decide) ?_
        refine lv_icmp_lt (tgt := 80) hx hb dX1_readSum_75 (by decide) (fun c_75 => ?_) (fun c_75 => ?_)
        · replace hf := zIt c_75 hf
          refine lv_aload_n hx hb dX1_readSum_80 rfl (lv_at hl 0 rfl) ?_
          refine va_get (D := D) (ci := 1) (v := .ref (ad 2)) (C := RX1) (T := TX1) (N := 11) hx hb hts hiX1 hown hK hI.1 0 rfl rfl 7 (by decide) (hts (.fieldLink RX1 34 "NoughtSums$Text" "sums" "[J") (by decide +kernel)) (fun _ h9 => h9) rfl dX1_readSum_81 ?_
          refine lv_aload_n hx hb dX1_readSum_84 rfl (lv_at hl 0 rfl) ?_
          refine va_get (D := D) (ci := 1) (v := .int (t_told S)) (C := RX1) (T := TX1) (N := 11) hx hb hts hiX1 hown hK hI.1 0 rfl rfl 6 (by decide) (hts (.fieldLink RX1 31 "NoughtSums$Text" "told" "I") (by decide +kernel)) (fun _ h9 => h9) rfl dX1_readSum_85 ?_
          refine lv_lload_n hx hb dX1_readSum_88 rfl (lv_at hl 1 rfl) ?_
          obtain ⟨g_89, hf⟩ := zGI_s hf
          obtain ⟨S_89, eS_89, hf⟩ := zL_e hf
          refine z_last (f := (t_sums S)) (w2 := (wT cy ad S_89)) hx hb hK hI 2 1 rfl rfl g_89 dX1_readSum_89 (by rw [eS_89]; rfl) (fun H locs hI => ?_)
          refine lv_iconst (v := 1) hx hb dX1_readSum_90 (by decide) ?_
          obtain ⟨h1, h2⟩ := zP2 hf
          rw [hQ]
          exact z_zret C (by rw [h2]; exact hI) (by rw [h1]) rfl dX1_readSum_91
        · replace hf := zIf c_75 hf
          refine lv_iconst (v := 0) hx hb dX1_readSum_78 (by decide) ?_
          obtain ⟨h1, h2⟩ := zP2 hf
          rw [hQ]
          exact z_zret C (by rw [h2]; exact hI) (by rw [h1]) rfl dX1_readSum_79
  have hb4 : ∀ (n : Nat), ∀ (v1 : Int64) (v3 : Int32) (S : TS) (H : Heap) (locs : List Loc) (ls : Array Slot), fX1_readSum_b4L n v1 v3 S = some (r, S') → zI D A s H locs (wT cy ad S) → lv_has ls 4 [(0, .ref (ad 0)), (1, .long v1), (3, .int v3)] → W p l e { frames := 8, cells := 0, slots := 0, locals := 169 } s m args below meth c H locs 0 0 Q (F0 m 4 ls []) := by
    intro n
    induction n with
    | zero => intro v1 v3 S H locs ls hf; cases (show (none : Option (Int32 × TS)) = some (r, S') from hf)
    | succ n ih =>
      intro v1 v3 S H locs ls hf hI hl
      have hf : fX1_readSum_b4 (fX1_readSum_b4L n) v1 v3 S = some (r, S') := hf
      unfold fX1_readSum_b4 at hf
      refine lv_iload_n hx hb dX1_readSum_4 rfl (lv_at hl 2 rfl) ?_
      refine lv_sipush (v := 400) hx hb dX1_readSum_5 (by decide) ?_
      refine lv_icmp_ge (tgt := 53) hx hb dX1_readSum_8 (by decide) (fun c_8 => ?_) (fun c_8 => ?_)
      · replace hf := zIt c_8 hf
        exact hb53 v1 S _ _ _ hf hI (lv_sub hl [0, 1] rfl)
      · replace hf := zIf c_8 hf
        refine lv_aload_n hx hb dX1_readSum_11 rfl (lv_at hl 0 rfl) ?_
        obtain ⟨r_12, S_12, hf_12, hf⟩ := zB2_s hf
        refine z_callV (w2 := (wT cy ad S_12)) C 0 (kX1_isTerm l zq D cy ad S S_12 r_12 hf_12) gX1_readSum_X1_isTerm rfl (by decide +kernel) ⟨by decide, by decide⟩ hI 0 rfl rfl rfl hl.1 rfl (Nat.le_of_ble_eq_true rfl) dX1_readSum_12 ⟨by decide, by decide⟩ (st2 := [.int r_12]) rfl (fun H locs hI => ?_)
        refine lv_if_ne (tgt := 20) hx hb dX1_readSum_15 (by decide) (fun c_15 => ?_) (fun c_15 => ?_)
        · replace hf := zIf c_15 hf
          refine lv_lload_n hx hb dX1_readSum_20 rfl (lv_at hl 1 rfl) ?_
          refine lv_aload_n hx hb dX1_readSum_21 rfl (lv_at hl 0 rfl) ?_
          obtain ⟨r_22, S_22, hf_22, hf⟩ := zB2_s hf
          refine z_callV (w2 := (wT cy ad S_22)) C 0 (kX1_termAtHand l zq D cy ad S_12 S_22 r_22 hf_22) gX1_readSum_X1_termAtHand rfl (by decide +kernel) ⟨by decide, by decide⟩ hI 0 rfl rfl rfl hl.1 rfl (Nat.le_of_ble_eq_true rfl) dX1_readSum_22 ⟨by decide, by decide⟩ (st2 := [.long r_22, .long v1]) rfl (fun H locs hI => ?_)
          refine lv_lxor hx hb dX1_readSum_25 ?_
          refine lv_lstore_n (lv' := [(1, .long (v1 ^^^ r_22)), (0, .ref (ad 0)), (3, .int v3)]) hx hb dX1_readSum_26 rfl hl (by decide) rfl (fun ls hl => ?_)
          refine lv_aload_n hx hb dX1_readSum_27 rfl (lv_at hl 1 rfl) ?_
          obtain ⟨S_28, hf_28, hf⟩ := zB1_s hf
          refine z_callV (w2 := (wT cy ad S_28)) C 0 (kX1_next l zq D cy ad S_22 S_28 hf_28) gX1_readSum_X1_next rfl (by decide +kernel) ⟨by decide, by decide⟩ hI 0 rfl rfl rfl hl.1 rfl (Nat.le_of_ble_eq_true rfl) dX1_readSum_28 ⟨by decide, by decide⟩ (st2 := []) rfl (fun H locs hI => ?_)
          refine lv_aload_n hx hb dX1_readSum_31 rfl (lv_at hl 1 rfl) ?_
          refine va_get (D := D) (ci := 1) (v := .int (t_token S_28)) (C := RX1) (T := TX1) (N := 11) hx hb hts hiX1 hown hK hI.1 0 rfl rfl 4 (by decide) (hts (.fieldLink RX1 25 "NoughtSums$Text" "token" "I") (by decide +kernel)) (fun _ h9 => h9) rfl dX1_readSum_32 ?_
          refine lv_bipush (v := 7) hx hb dX1_readSum_35 (by decide) ?_
          refine lv_icmp_eq (tgt := 43) hx hb dX1_readSum_37 (by decide) (fun c_37 => ?_) (fun c_37 => ?_)
          · replace hf := zIt c_37 hf
            refine lv_aload_n hx hb dX1_readSum_43 rfl (lv_at hl 1 rfl) ?_
            obtain ⟨S_44, hf_44, hf⟩ := zB1_s hf
            refine z_callV (w2 := (wT cy ad S_44)) C 0 (kX1_next l zq D cy ad S_28 S_44 hf_44) gX1_readSum_X1_next rfl (by decide +kernel) ⟨by decide, by decide⟩ hI 0 rfl rfl rfl hl.1 rfl (Nat.le_of_ble_eq_true rfl) dX1_readSum_44 ⟨by decide, by decide⟩ (st2 := []) rfl (fun H locs hI => ?_)
            refine lv_iinc (v := (v3 + (1 : Int32))) (lv' := [(3, .int (v3 + (1 : Int32))), (1, .long (v1 ^^^ r_22)), (0, .ref (ad 0))]) hx hb dX1_readSum_47 hl (k := 2) rfl rfl (by decide) rfl (fun ls hl => ?_)
            refine lv_goto (tgt := 4) hx hb dX1_readSum_50 (by decide) ?_
            exact ih (v1 ^^^ r_22) (v3 + (1 : Int32)) S_44 _ _ _ hf hI (lv_sub hl [2, 1, 0] rfl)
          · replace hf := zIf c_37 hf
            refine lv_goto (tgt := 53) hx hb dX1_readSum_40 (by decide) ?_
            exact hb53 (v1 ^^^ r_22) S_28 _ _ _ hf hI (lv_sub hl [1, 0] rfl)
        · replace hf := zIt c_15 hf
          refine lv_iconst (v := 0) hx hb dX1_readSum_18 (by decide) ?_
          obtain ⟨h1, h2⟩ := zP2 hf
          rw [hQ]
          exact z_zret C (by rw [h2]; exact hI) (by rw [h1]) rfl dX1_readSum_19
  unfold fX1_readSum at hf
  refine lv_lconst (v := 0) hx hb dX1_readSum_0 (by decide) ?_
  refine lv_lstore_n (lv' := [(1, .long (0 : Int64)), (0, .ref (ad 0))]) hx hb dX1_readSum_1 rfl hl (by decide) rfl (fun ls hl => ?_)
  refine lv_iconst (v := 0) hx hb dX1_readSum_2 (by decide) ?_
  refine lv_istore_n (lv' := [(3, .int (0 : Int32)), (1, .long (0 : Int64)), (0, .ref (ad 0))]) hx hb dX1_readSum_3 rfl hl (by decide) rfl (fun ls hl => ?_)
  exact hb4 zF (0 : Int64) (0 : Int32) S _ _ _ hf hI (lv_sub hl [2, 1, 0] rfl)

def fX1_readGiven_b51 (S : TS) : Option (Int32 × TS) :=
(if (t_token S) = (9 : Int32) then some ((-1 : Int32), S) else
some ((t_start S), S))

def fX1_readGiven_b4 (k4 : TS → Option (Int32 × TS)) (S : TS) : Option (Int32 × TS) :=
(if (8 : Int32) ≤ (t_told S) then fX1_readGiven_b51 S else
(if (t_token S) = (9 : Int32) then fX1_readGiven_b51 S else
(zB2 (fX1_readSum S) (fun r_23 S_23 =>
(if r_23 = 0 then some ((t_start S_23), S_23) else
(zL (t_told_u S_23 ((t_told S_23) + (1 : Int32))) (fun S_41 =>
(zB1 (fX1_next S_41) (fun S_45 =>
k4 S_45)))))))))
def fX1_readGiven_b4L : Nat → TS → Option (Int32 × TS)
  | 0, _ => none
  | n + 1, S => fX1_readGiven_b4 (fX1_readGiven_b4L n) S

def fX1_readGiven  (S : TS) : Option (Int32 × TS) :=
(zB1 (fX1_begin S) (fun S_1 =>
fX1_readGiven_b4L zF S_1))
set_option maxHeartbeats 4000000 in
set_option maxRecDepth 100000 in
theorem kX1_readGiven (l : Launch) (zq : Nat → Nat) (D : va_G) (cy : Nat → ClassId) (ad : Nat → Nat)  (S S' : TS) (r : Int32) (hf : fX1_readGiven S = some (r, S')) : zMet l yX1_readGiven wsX1_readGiven 9 192 zq D (tT cy) (wT cy ad S) [.ref (ad 0)] (some (.int r)) (wT cy ad S') := by
  refine zMet.of cX1_readGiven 1 (some .int) (by decide) rfl (Nat.le_of_ble_eq_true rfl) ?_
  intro p e s m args below meth c A ls C hl hI
  have hl : lv_has ls 1 [(0, .ref (ad 0))] := hl
  have C : zC p s m args meth c cX1_readGiven 1 (some .int) RX1 wsX1_readGiven D (tT cy) zq A := C
  obtain ⟨hx, hb, hml, hown, hts, hret, hlk, hK, hX, hA⟩ := id C
  have hiX1 : ∀ w ∈ wsX10, w ∈ wsX1_readGiven := by decide +kernel
  obtain ⟨Q, hQ⟩ : ∃ Q, Q = MQ below (zQ D (tT cy) (wT cy ad S') (some (.int r)) A) args s 0 0 A := ⟨_, rfl⟩
  rw [← hQ]
  have hb51 : ∀ (S : TS) (H : Heap) (locs : List Loc) (ls : Array Slot), fX1_readGiven_b51 S = some (r, S') → zI D A s H locs (wT cy ad S) → lv_has ls 1 [(0, .ref (ad 0))] → W p l e { frames := 9, cells := 0, slots := 0, locals := 192 } s m args below meth c H locs 0 0 Q (F0 m 51 ls []) := by
    intro S H locs ls hf hI hl
    unfold fX1_readGiven_b51 at hf
    refine lv_aload_n hx hb dX1_readGiven_51 rfl (lv_at hl 0 rfl) ?_
    refine va_get (D := D) (ci := 1) (v := .int (t_token S)) (C := RX1) (T := TX1) (N := 11) hx hb hts hiX1 hown hK hI.1 0 rfl rfl 4 (by decide) (hts (.fieldLink RX1 25 "NoughtSums$Text" "token" "I") (by decide +kernel)) (fun _ h9 => h9) rfl dX1_readGiven_52 ?_
    refine lv_bipush (v := 9) hx hb dX1_readGiven_55 (by decide) ?_
    refine lv_icmp_ne (tgt := 64) hx hb dX1_readGiven_57 (by decide) (fun c_57 => ?_) (fun c_57 => ?_)
    · replace hf := zIf c_57 hf
      refine lv_aload_n hx hb dX1_readGiven_64 rfl (lv_at hl 0 rfl) ?_
      refine va_get (D := D) (ci := 1) (v := .int (t_start S)) (C := RX1) (T := TX1) (N := 11) hx hb hts hiX1 hown hK hI.1 0 rfl rfl 3 (by decide) (hts (.fieldLink RX1 22 "NoughtSums$Text" "start" "I") (by decide +kernel)) (fun _ h9 => h9) rfl dX1_readGiven_65 ?_
      obtain ⟨h1, h2⟩ := zP2 hf
      rw [hQ]
      exact z_iret C (by rw [h2]; exact hI) (by rw [h1]) dX1_readGiven_68
    · replace hf := zIt c_57 hf
      refine lv_iconst (v := -1) hx hb dX1_readGiven_60 (by decide) ?_
      refine lv_goto (tgt := 68) hx hb dX1_readGiven_61 (by decide) ?_
      obtain ⟨h1, h2⟩ := zP2 hf
      rw [hQ]
      exact z_iret C (by rw [h2]; exact hI) (by rw [h1]) dX1_readGiven_68
  have hb4 : ∀ (n : Nat), ∀ (S : TS) (H : Heap) (locs : List Loc) (ls : Array Slot), fX1_readGiven_b4L n S = some (r, S') → zI D A s H locs (wT cy ad S) → lv_has ls 1 [(0, .ref (ad 0))] → W p l e { frames := 9, cells := 0, slots := 0, locals := 192 } s m args below meth c H locs 0 0 Q (F0 m 4 ls []) := by
    intro n
    induction n with
    | zero => intro S H locs ls hf; cases (show (none : Option (Int32 × TS)) = some (r, S') from hf)
    | succ n ih =>
      intro S H locs ls hf hI hl
      have hf : fX1_readGiven_b4 (fX1_readGiven_b4L n) S = some (r, S') := hf
      unfold fX1_readGiven_b4 at hf
      refine lv_aload_n hx hb dX1_readGiven_4 rfl (lv_at hl 0 rfl) ?_
      refine va_get (D := D) (ci := 1) (v := .int (t_told S)) (C := RX1) (T := TX1) (N := 11) hx hb hts hiX1 hown hK hI.1 0 rfl rfl 6 (by decide) (hts (.fieldLink RX1 31 "NoughtSums$Text" "told" "I") (by decide +kernel)) (fun _ h9 => h9) rfl dX1_readGiven_5 ?_
      refine lv_bipush (v := 8) hx hb dX1_readGiven_8 (by decide) ?_
      refine lv_icmp_ge (tgt := 51) hx hb dX1_readGiven_10 (by decide) (fun c_10 => ?_) (fun c_10 => ?_)
      · replace hf := zIt c_10 hf
        exact hb51 S _ _ _ hf hI (lv_sub hl [0] rfl)
      · replace hf := zIf c_10 hf
        refine lv_aload_n hx hb dX1_readGiven_13 rfl (lv_at hl 0 rfl) ?_
        refine va_get (D := D) (ci := 1) (v := .int (t_token S)) (C := RX1) (T := TX1) (N := 11) hx hb hts hiX1 hown hK hI.1 0 rfl rfl 4 (by decide) (hts (.fieldLink RX1 25 "NoughtSums$Text" "token" "I") (by decide +kernel)) (fun _ h9 => h9) rfl dX1_readGiven_14 ?_
        refine lv_bipush (v := 9) hx hb dX1_readGiven_17 (by decide) ?_
        refine lv_icmp_eq (tgt := 51) hx hb dX1_readGiven_19 (by decide) (fun c_19 => ?_) (fun c_19 => ?_)
        · replace hf := zIt c_19 hf
          exact hb51 S _ _ _ hf hI (lv_sub hl [0] rfl)
        · replace hf := zIf c_19 hf
          refine lv_aload_n hx hb dX1_readGiven_22 rfl (lv_at hl 0 rfl) ?_
          obtain ⟨r_23, S_23, hf_23, hf⟩ := zB2_s hf
          refine z_callV (w2 := (wT cy ad S_23)) C 0 (kX1_readSum l zq D cy ad S S_23 r_23 hf_23) gX1_readGiven_X1_readSum rfl (by decide +kernel) ⟨by decide, by decide⟩ hI 0 rfl rfl rfl hl.1 rfl (Nat.le_of_ble_eq_true rfl) dX1_readGiven_23 ⟨by decide, by decide⟩ (st2 := [.int r_23]) rfl (fun H locs hI => ?_)
          refine lv_if_ne (tgt := 34) hx hb dX1_readGiven_26 (by decide) (fun c_26 => ?_) (fun c_26 => ?_)
          · replace hf := zIf c_26 hf
            refine lv_aload_n hx hb dX1_readGiven_34 rfl (lv_at hl 0 rfl) ?_
            refine lv_dup hx hb dX1_readGiven_35 rfl ?_
            refine va_get (D := D) (ci := 1) (v := .int (t_told S_23)) (C := RX1) (T := TX1) (N := 11) hx hb hts hiX1 hown hK hI.1 0 rfl rfl 6 (by decide) (hts (.fieldLink RX1 31 "NoughtSums$Text" "told" "I") (by decide +kernel)) (fun _ h9 => h9) rfl dX1_readGiven_36 ?_
            refine lv_iconst (v := 1) hx hb dX1_readGiven_39 (by decide) ?_
            refine lv_iadd hx hb dX1_readGiven_40 ?_
            obtain ⟨S_41, eS_41, hf⟩ := zL_e hf
            refine z_put (D := D) (ci := 1) (v := .int ((t_told S_23) + (1 : Int32))) (ty := .int) (C := RX1) (T := TX1) (N := 11) (w2 := (wT cy ad S_41)) hx hb hts hiX1 tyX1 tyX1_ok nmX1 hown hK hI 0 rfl rfl 6 (by decide) (hts (.fieldLink RX1 31 "NoughtSums$Text" "told" "I") (by decide +kernel)) (fun _ h9 => h9) rfl (by decide +kernel) rfl rfl (Nat.le_of_ble_eq_true rfl) dX1_readGiven_41 (by rw [eS_41]; rfl) (fun H locs hI => ?_)
            refine lv_aload_n hx hb dX1_readGiven_44 rfl (lv_at hl 0 rfl) ?_
            obtain ⟨S_45, hf_45, hf⟩ := zB1_s hf
            refine z_callV (w2 := (wT cy ad S_45)) C 0 (kX1_next l zq D cy ad S_41 S_45 hf_45) gX1_readGiven_X1_next rfl (by decide +kernel) ⟨by decide, by decide⟩ hI 0 rfl rfl rfl hl.1 rfl (Nat.le_of_ble_eq_true rfl) dX1_readGiven_45 ⟨by decide, by decide⟩ (st2 := []) rfl (fun H locs hI => ?_)
            refine lv_goto (tgt := 4) hx hb dX1_readGiven_48 (by decide) ?_
            exact ih S_45 _ _ _ hf hI (lv_sub hl [0] rfl)
          · replace hf := zIt c_26 hf
            refine lv_aload_n hx hb dX1_readGiven_29 rfl (lv_at hl 0 rfl) ?_
            refine va_get (D := D) (ci := 1) (v := .int (t_start S_23)) (C := RX1) (T := TX1) (N := 11) hx hb hts hiX1 hown hK hI.1 0 rfl rfl 3 (by decide) (hts (.fieldLink RX1 22 "NoughtSums$Text" "start" "I") (by decide +kernel)) (fun _ h9 => h9) rfl dX1_readGiven_30 ?_
            obtain ⟨h1, h2⟩ := zP2 hf
            rw [hQ]
            exact z_iret C (by rw [h2]; exact hI) (by rw [h1]) dX1_readGiven_33
  unfold fX1_readGiven at hf
  refine lv_aload_n hx hb dX1_readGiven_0 rfl (lv_at hl 0 rfl) ?_
  obtain ⟨S_1, hf_1, hf⟩ := zB1_s hf
  refine z_callV (w2 := (wT cy ad S_1)) C 0 (kX1_begin l zq D cy ad S S_1 hf_1) gX1_readGiven_X1_begin rfl (by decide +kernel) ⟨by decide, by decide⟩ hI 0 rfl rfl rfl hl.1 rfl (Nat.le_of_ble_eq_true rfl) dX1_readGiven_1 ⟨by decide, by decide⟩ (st2 := []) rfl (fun H locs hI => ?_)
  exact hb4 zF S_1 _ _ _ hf hI (lv_sub hl [0] rfl)

def fX1_readLine_4 (a2 : Int32) (S : TS) : Option (Int32 × TS) :=
(zB1 (fX1_next S) (fun S_1 =>
(if (t_token S_1) = (6 : Int32) then (if a2 ≤ (t_meaning S_1) then some ((0 : Int32), S_1) else
(if (t_told S_1) < 0 then some ((0 : Int32), S_1) else
(if (t_told S_1) < (24 : Int32) then (zGI (t_told S_1) 24
(zL (t_firsts_u S_1 (upd (t_firsts S_1) (t_told S_1).toNatClampNeg (t_meaning S_1))) (fun S_48 =>
some ((1 : Int32), S_48)))) else
some ((0 : Int32), S_1)))) else
some ((0 : Int32), S_1))))
set_option maxHeartbeats 4000000 in
set_option maxRecDepth 100000 in
theorem kX1_readLine_4 (l : Launch) (zq : Nat → Nat) (D : va_G) (cy : Nat → ClassId) (ad : Nat → Nat) (a2 : Int32) (S S' : TS) (r : Int32) (hf : fX1_readLine_4 a2 S = some (r, S')) : zMet l yX1_readLine wsX1_readLine 8 169 zq D (tT cy) (wT cy ad S) [.ref (ad 0), .ref (ad 4), .int a2] (some (.int r)) (wT cy ad S') := by
  refine zMet.of cX1_readLine 3 (some .boolean) (by decide) rfl (Nat.le_of_ble_eq_true rfl) ?_
  intro p e s m args below meth c A ls C hl hI
  have hl : lv_has ls 3 [(0, .ref (ad 0)), (1, .ref (ad 4)), (2, .int a2)] := hl
  have C : zC p s m args meth c cX1_readLine 3 (some .boolean) RX1 wsX1_readLine D (tT cy) zq A := C
  obtain ⟨hx, hb, hml, hown, hts, hret, hlk, hK, hX, hA⟩ := id C
  have hiX1 : ∀ w ∈ wsX10, w ∈ wsX1_readLine := by decide +kernel
  obtain ⟨Q, hQ⟩ : ∃ Q, Q = MQ below (zQ D (tT cy) (wT cy ad S') (some (.int r)) A) args s 0 0 A := ⟨_, rfl⟩
  rw [← hQ]
  unfold fX1_readLine_4 at hf
  refine lv_aload_n hx hb dX1_readLine_0 rfl (lv_at hl 0 rfl) ?_
  obtain ⟨S_1, hf_1, hf⟩ := zB1_s hf
  refine z_callV (w2 := (wT cy ad S_1)) C 0 (kX1_next l zq D cy ad S S_1 hf_1) gX1_readLine_X1_next rfl (by decide +kernel) ⟨by decide, by decide⟩ hI 0 rfl rfl rfl hl.1 rfl (Nat.le_of_ble_eq_true rfl) dX1_readLine_1 ⟨by decide, by decide⟩ (st2 := []) rfl (fun H locs hI => ?_)
  refine lv_aload_n hx hb dX1_readLine_4 rfl (lv_at hl 0 rfl) ?_
  refine va_get (D := D) (ci := 1) (v := .int (t_token S_1)) (C := RX1) (T := TX1) (N := 11) hx hb hts hiX1 hown hK hI.1 0 rfl rfl 4 (by decide) (hts (.fieldLink RX1 25 "NoughtSums$Text" "token" "I") (by decide +kernel)) (fun _ h9 => h9) rfl dX1_readLine_5 ?_
  refine lv_bipush (v := 6) hx hb dX1_readLine_8 (by decide) ?_
  refine lv_icmp_ne (tgt := 37) hx hb dX1_readLine_10 (by decide) (fun c_10 => ?_) (fun c_10 => ?_)
  · replace hf := zIf c_10 hf
    refine lv_iconst (v := 0) hx hb dX1_readLine_37 (by decide) ?_
    obtain ⟨h1, h2⟩ := zP2 hf
    rw [hQ]
    exact z_zret C (by rw [h2]; exact hI) (by rw [h1]) rfl dX1_readLine_38
  · replace hf := zIt c_10 hf
    refine lv_aload_n hx hb dX1_readLine_13 rfl (lv_at hl 0 rfl) ?_
    refine va_get (D := D) (ci := 1) (v := .int (t_meaning S_1)) (C := RX1) (T := TX1) (N := 11) hx hb hts hiX1 hown hK hI.1 0 rfl rfl 5 (by decide) (hts (.fieldLink RX1 28 "NoughtSums$Text" "meaning" "I") (by decide +kernel)) (fun _ h9 => h9) rfl dX1_readLine_14 ?_
    refine lv_iload_n hx hb dX1_readLine_17 rfl (lv_at hl 2 rfl) ?_
    refine lv_icmp_ge (tgt := 37) hx hb dX1_readLine_18 (by decide) (fun c_18 => ?_) (fun c_18 => ?_)
    · replace hf := zIt c_18 hf
      refine lv_iconst (v := 0) hx hb dX1_readLine_37 (by decide) ?_
      obtain ⟨h1, h2⟩ := zP2 hf
      rw [hQ]
      exact z_zret C (by rw [h2]; exact hI) (by rw [h1]) rfl dX1_readLine_38
    · replace hf := zIf c_18 hf
      refine lv_aload_n hx hb dX1_readLine_21 rfl (lv_at hl 0 rfl) ?_
      refine va_get (D := D) (ci := 1) (v := .int (t_told S_1)) (C := RX1) (T := TX1) (N := 11) hx hb hts hiX1 hown hK hI.1 0 rfl rfl 6 (by decide) (hts (.fieldLink RX1 31 "NoughtSums$Text" "told" "I") (by decide +kernel)) (fun _ h9 => h9) rfl dX1_readLine_22 ?_
      refine lv_if_lt (tgt := 37) hx hb dX1_readLine_25 (by decide) (fun c_25 => ?_) (fun c_25 => ?_)
      · replace hf := zIt c_25 hf
        refine lv_iconst (v := 0) hx hb dX1_readLine_37 (by decide) ?_
        obtain ⟨h1, h2⟩ := zP2 hf
        rw [hQ]
        exact z_zret C (by rw [h2]; exact hI) (by rw [h1]) rfl dX1_readLine_38
      · replace hf := zIf c_25 hf
        refine lv_aload_n hx hb dX1_readLine_28 rfl (lv_at hl 0 rfl) ?_
        refine va_get (D := D) (ci := 1) (v := .int (t_told S_1)) (C := RX1) (T := TX1) (N := 11) hx hb hts hiX1 hown hK hI.1 0 rfl rfl 6 (by decide) (hts (.fieldLink RX1 31 "NoughtSums$Text" "told" "I") (by decide +kernel)) (fun _ h9 => h9) rfl dX1_readLine_29 ?_
        refine lv_aload_n hx hb dX1_readLine_32 rfl (lv_at hl 1 rfl) ?_
        refine va_alen (v := 24) hx hb hK hI.1 4 3 rfl rfl rfl dX1_readLine_33 ?_
        refine lv_icmp_lt (tgt := 39) hx hb dX1_readLine_34 (by decide) (fun c_34 => ?_) (fun c_34 => ?_)
        · replace hf := zIt c_34 hf
          refine lv_aload_n hx hb dX1_readLine_39 rfl (lv_at hl 1 rfl) ?_
          refine lv_aload_n hx hb dX1_readLine_40 rfl (lv_at hl 0 rfl) ?_
          refine va_get (D := D) (ci := 1) (v := .int (t_told S_1)) (C := RX1) (T := TX1) (N := 11) hx hb hts hiX1 hown hK hI.1 0 rfl rfl 6 (by decide) (hts (.fieldLink RX1 31 "NoughtSums$Text" "told" "I") (by decide +kernel)) (fun _ h9 => h9) rfl dX1_readLine_41 ?_
          refine lv_aload_n hx hb dX1_readLine_44 rfl (lv_at hl 0 rfl) ?_
          refine va_get (D := D) (ci := 1) (v := .int (t_meaning S_1)) (C := RX1) (T := TX1) (N := 11) hx hb hts hiX1 hown hK hI.1 0 rfl rfl 5 (by decide) (hts (.fieldLink RX1 28 "NoughtSums$Text" "meaning" "I") (by decide +kernel)) (fun _ h9 => h9) rfl dX1_readLine_45 ?_
          obtain ⟨g_48, hf⟩ := zGI_s hf
          obtain ⟨S_48, eS_48, hf⟩ := zL_e hf
          refine z_iast (f := (t_firsts S_1)) (w2 := (wT cy ad S_48)) hx hb hK hI 4 3 rfl rfl g_48 dX1_readLine_48 (by rw [eS_48]; rfl) (fun H locs hI => ?_)
          refine lv_iconst (v := 1) hx hb dX1_readLine_49 (by decide) ?_
          obtain ⟨h1, h2⟩ := zP2 hf
          rw [hQ]
          exact z_zret C (by rw [h2]; exact hI) (by rw [h1]) rfl dX1_readLine_50
        · replace hf := zIf c_34 hf
          refine lv_iconst (v := 0) hx hb dX1_readLine_37 (by decide) ?_
          obtain ⟨h1, h2⟩ := zP2 hf
          rw [hQ]
          exact z_zret C (by rw [h2]; exact hI) (by rw [h1]) rfl dX1_readLine_38

def fX1_readLine_5 (a2 : Int32) (S : TS) : Option (Int32 × TS) :=
(zB1 (fX1_next S) (fun S_1 =>
(if (t_token S_1) = (6 : Int32) then (if a2 ≤ (t_meaning S_1) then some ((0 : Int32), S_1) else
(if (t_told S_1) < 0 then some ((0 : Int32), S_1) else
(if (t_told S_1) < (24 : Int32) then (zGI (t_told S_1) 24
(zL (t_seconds_u S_1 (upd (t_seconds S_1) (t_told S_1).toNatClampNeg (t_meaning S_1))) (fun S_48 =>
some ((1 : Int32), S_48)))) else
some ((0 : Int32), S_1)))) else
some ((0 : Int32), S_1))))
set_option maxHeartbeats 4000000 in
set_option maxRecDepth 100000 in
theorem kX1_readLine_5 (l : Launch) (zq : Nat → Nat) (D : va_G) (cy : Nat → ClassId) (ad : Nat → Nat) (a2 : Int32) (S S' : TS) (r : Int32) (hf : fX1_readLine_5 a2 S = some (r, S')) : zMet l yX1_readLine wsX1_readLine 8 169 zq D (tT cy) (wT cy ad S) [.ref (ad 0), .ref (ad 5), .int a2] (some (.int r)) (wT cy ad S') := by
  refine zMet.of cX1_readLine 3 (some .boolean) (by decide) rfl (Nat.le_of_ble_eq_true rfl) ?_
  intro p e s m args below meth c A ls C hl hI
  have hl : lv_has ls 3 [(0, .ref (ad 0)), (1, .ref (ad 5)), (2, .int a2)] := hl
  have C : zC p s m args meth c cX1_readLine 3 (some .boolean) RX1 wsX1_readLine D (tT cy) zq A := C
  obtain ⟨hx, hb, hml, hown, hts, hret, hlk, hK, hX, hA⟩ := id C
  have hiX1 : ∀ w ∈ wsX10, w ∈ wsX1_readLine := by decide +kernel
  obtain ⟨Q, hQ⟩ : ∃ Q, Q = MQ below (zQ D (tT cy) (wT cy ad S') (some (.int r)) A) args s 0 0 A := ⟨_, rfl⟩
  rw [← hQ]
  unfold fX1_readLine_5 at hf
  refine lv_aload_n hx hb dX1_readLine_0 rfl (lv_at hl 0 rfl) ?_
  obtain ⟨S_1, hf_1, hf⟩ := zB1_s hf
  refine z_callV (w2 := (wT cy ad S_1)) C 0 (kX1_next l zq D cy ad S S_1 hf_1) gX1_readLine_X1_next rfl (by decide +kernel) ⟨by decide, by decide⟩ hI 0 rfl rfl rfl hl.1 rfl (Nat.le_of_ble_eq_true rfl) dX1_readLine_1 ⟨by decide, by decide⟩ (st2 := []) rfl (fun H locs hI => ?_)
  refine lv_aload_n hx hb dX1_readLine_4 rfl (lv_at hl 0 rfl) ?_
  refine va_get (D := D) (ci := 1) (v := .int (t_token S_1)) (C := RX1) (T := TX1) (N := 11) hx hb hts hiX1 hown hK hI.1 0 rfl rfl 4 (by decide) (hts (.fieldLink RX1 25 "NoughtSums$Text" "token" "I") (by decide +kernel)) (fun _ h9 => h9) rfl dX1_readLine_5 ?_
  refine lv_bipush (v := 6) hx hb dX1_readLine_8 (by decide) ?_
  refine lv_icmp_ne (tgt := 37) hx hb dX1_readLine_10 (by decide) (fun c_10 => ?_) (fun c_10 => ?_)
  · replace hf := zIf c_10 hf
    refine lv_iconst (v := 0) hx hb dX1_readLine_37 (by decide) ?_
    obtain ⟨h1, h2⟩ := zP2 hf
    rw [hQ]
    exact z_zret C (by rw [h2]; exact hI) (by rw [h1]) rfl dX1_readLine_38
  · replace hf := zIt c_10 hf
    refine lv_aload_n hx hb dX1_readLine_13 rfl (lv_at hl 0 rfl) ?_
    refine va_get (D := D) (ci := 1) (v := .int (t_meaning S_1)) (C := RX1) (T := TX1) (N := 11) hx hb hts hiX1 hown hK hI.1 0 rfl rfl 5 (by decide) (hts (.fieldLink RX1 28 "NoughtSums$Text" "meaning" "I") (by decide +kernel)) (fun _ h9 => h9) rfl dX1_readLine_14 ?_
    refine lv_iload_n hx hb dX1_readLine_17 rfl (lv_at hl 2 rfl) ?_
    refine lv_icmp_ge (tgt := 37) hx hb dX1_readLine_18 (by decide) (fun c_18 => ?_) (fun c_18 => ?_)
    · replace hf := zIt c_18 hf
      refine lv_iconst (v := 0) hx hb dX1_readLine_37 (by decide) ?_
      obtain ⟨h1, h2⟩ := zP2 hf
      rw [hQ]
      exact z_zret C (by rw [h2]; exact hI) (by rw [h1]) rfl dX1_readLine_38
    · replace hf := zIf c_18 hf
      refine lv_aload_n hx hb dX1_readLine_21 rfl (lv_at hl 0 rfl) ?_
      refine va_get (D := D) (ci := 1) (v := .int (t_told S_1)) (C := RX1) (T := TX1) (N := 11) hx hb hts hiX1 hown hK hI.1 0 rfl rfl 6 (by decide) (hts (.fieldLink RX1 31 "NoughtSums$Text" "told" "I") (by decide +kernel)) (fun _ h9 => h9) rfl dX1_readLine_22 ?_
      refine lv_if_lt (tgt := 37) hx hb dX1_readLine_25 (by decide) (fun c_25 => ?_) (fun c_25 => ?_)
      · replace hf := zIt c_25 hf
        refine lv_iconst (v := 0) hx hb dX1_readLine_37 (by decide) ?_
        obtain ⟨h1, h2⟩ := zP2 hf
        rw [hQ]
        exact z_zret C (by rw [h2]; exact hI) (by rw [h1]) rfl dX1_readLine_38
      · replace hf := zIf c_25 hf
        refine lv_aload_n hx hb dX1_readLine_28 rfl (lv_at hl 0 rfl) ?_
        refine va_get (D := D) (ci := 1) (v := .int (t_told S_1)) (C := RX1) (T := TX1) (N := 11) hx hb hts hiX1 hown hK hI.1 0 rfl rfl 6 (by decide) (hts (.fieldLink RX1 31 "NoughtSums$Text" "told" "I") (by decide +kernel)) (fun _ h9 => h9) rfl dX1_readLine_29 ?_
        refine lv_aload_n hx hb dX1_readLine_32 rfl (lv_at hl 1 rfl) ?_
        refine va_alen (v := 24) hx hb hK hI.1 5 4 rfl rfl rfl dX1_readLine_33 ?_
        refine lv_icmp_lt (tgt := 39) hx hb dX1_readLine_34 (by decide) (fun c_34 => ?_) (fun c_34 => ?_)
        · replace hf := zIt c_34 hf
          refine lv_aload_n hx hb dX1_readLine_39 rfl (lv_at hl 1 rfl) ?_
          refine lv_aload_n hx hb dX1_readLine_40 rfl (lv_at hl 0 rfl) ?_
          refine va_get (D := D) (ci := 1) (v := .int (t_told S_1)) (C := RX1) (T := TX1) (N := 11) hx hb hts hiX1 hown hK hI.1 0 rfl rfl 6 (by decide) (hts (.fieldLink RX1 31 "NoughtSums$Text" "told" "I") (by decide +kernel)) (fun _ h9 => h9) rfl dX1_readLine_41 ?_
          refine lv_aload_n hx hb dX1_readLine_44 rfl (lv_at hl 0 rfl) ?_
          refine va_get (D := D) (ci := 1) (v := .int (t_meaning S_1)) (C := RX1) (T := TX1) (N := 11) hx hb hts hiX1 hown hK hI.1 0 rfl rfl 5 (by decide) (hts (.fieldLink RX1 28 "NoughtSums$Text" "meaning" "I") (by decide +kernel)) (fun _ h9 => h9) rfl dX1_readLine_45 ?_
          obtain ⟨g_48, hf⟩ := zGI_s hf
          obtain ⟨S_48, eS_48, hf⟩ := zL_e hf
          refine z_iast (f := (t_seconds S_1)) (w2 := (wT cy ad S_48)) hx hb hK hI 5 4 rfl rfl g_48 dX1_readLine_48 (by rw [eS_48]; rfl) (fun H locs hI => ?_)
          refine lv_iconst (v := 1) hx hb dX1_readLine_49 (by decide) ?_
          obtain ⟨h1, h2⟩ := zP2 hf
          rw [hQ]
          exact z_zret C (by rw [h2]; exact hI) (by rw [h1]) rfl dX1_readLine_50
        · replace hf := zIf c_34 hf
          refine lv_iconst (v := 0) hx hb dX1_readLine_37 (by decide) ?_
          obtain ⟨h1, h2⟩ := zP2 hf
          rw [hQ]
          exact z_zret C (by rw [h2]; exact hI) (by rw [h1]) rfl dX1_readLine_38

def fX1_readSemicolon  (S : TS) : Option (Int32 × TS) :=
(zB1 (fX1_next S) (fun S_1 =>
(if (t_token S_1) = (8 : Int32) then some ((1 : Int32), S_1) else
some ((0 : Int32), S_1))))
set_option maxHeartbeats 4000000 in
set_option maxRecDepth 100000 in
theorem kX1_readSemicolon (l : Launch) (zq : Nat → Nat) (D : va_G) (cy : Nat → ClassId) (ad : Nat → Nat)  (S S' : TS) (r : Int32) (hf : fX1_readSemicolon S = some (r, S')) : zMet l yX1_readSemicolon wsX1_readSemicolon 8 169 zq D (tT cy) (wT cy ad S) [.ref (ad 0)] (some (.int r)) (wT cy ad S') := by
  refine zMet.of cX1_readSemicolon 1 (some .boolean) (by decide) rfl (Nat.le_of_ble_eq_true rfl) ?_
  intro p e s m args below meth c A ls C hl hI
  have hl : lv_has ls 1 [(0, .ref (ad 0))] := hl
  have C : zC p s m args meth c cX1_readSemicolon 1 (some .boolean) RX1 wsX1_readSemicolon D (tT cy) zq A := C
  obtain ⟨hx, hb, hml, hown, hts, hret, hlk, hK, hX, hA⟩ := id C
  have hiX1 : ∀ w ∈ wsX10, w ∈ wsX1_readSemicolon := by decide +kernel
  obtain ⟨Q, hQ⟩ : ∃ Q, Q = MQ below (zQ D (tT cy) (wT cy ad S') (some (.int r)) A) args s 0 0 A := ⟨_, rfl⟩
  rw [← hQ]
  unfold fX1_readSemicolon at hf
  refine lv_aload_n hx hb dX1_readSemicolon_0 rfl (lv_at hl 0 rfl) ?_
  obtain ⟨S_1, hf_1, hf⟩ := zB1_s hf
  refine z_callV (w2 := (wT cy ad S_1)) C 0 (kX1_next l zq D cy ad S S_1 hf_1) gX1_readSemicolon_X1_next rfl (by decide +kernel) ⟨by decide, by decide⟩ hI 0 rfl rfl rfl hl.1 rfl (Nat.le_of_ble_eq_true rfl) dX1_readSemicolon_1 ⟨by decide, by decide⟩ (st2 := []) rfl (fun H locs hI => ?_)
  refine lv_aload_n hx hb dX1_readSemicolon_4 rfl (lv_at hl 0 rfl) ?_
  refine va_get (D := D) (ci := 1) (v := .int (t_token S_1)) (C := RX1) (T := TX1) (N := 11) hx hb hts hiX1 hown hK hI.1 0 rfl rfl 4 (by decide) (hts (.fieldLink RX1 25 "NoughtSums$Text" "token" "I") (by decide +kernel)) (fun _ h9 => h9) rfl dX1_readSemicolon_5 ?_
  refine lv_bipush (v := 8) hx hb dX1_readSemicolon_8 (by decide) ?_
  refine lv_icmp_ne (tgt := 17) hx hb dX1_readSemicolon_10 (by decide) (fun c_10 => ?_) (fun c_10 => ?_)
  · replace hf := zIf c_10 hf
    refine lv_iconst (v := 0) hx hb dX1_readSemicolon_17 (by decide) ?_
    obtain ⟨h1, h2⟩ := zP2 hf
    rw [hQ]
    exact z_zret C (by rw [h2]; exact hI) (by rw [h1]) rfl dX1_readSemicolon_18
  · replace hf := zIt c_10 hf
    refine lv_iconst (v := 1) hx hb dX1_readSemicolon_13 (by decide) ?_
    refine lv_goto (tgt := 18) hx hb dX1_readSemicolon_14 (by decide) ?_
    obtain ⟨h1, h2⟩ := zP2 hf
    rw [hQ]
    exact z_zret C (by rw [h2]; exact hI) (by rw [h1]) rfl dX1_readSemicolon_18

def fX1_readLetter  (S : TS) : Option (Int32 × TS) :=
(zB1 (fX1_next S) (fun S_1 =>
(if (t_token S_1) = (5 : Int32) then (zB1 (fJ6_bitCount_0f7a4 (t_meaning S_1)) (fun r_16 =>
(if r_16 = (1 : Int32) then (if (t_told S_1) < 0 then some ((0 : Int32), S_1) else
(if (t_told S_1) < (24 : Int32) then (zGI (t_told S_1) 24
(zL (t_seconds_u S_1 (upd (t_seconds S_1) (t_told S_1).toNatClampNeg (t_meaning S_1))) (fun S_53 =>
some ((1 : Int32), S_53)))) else
some ((0 : Int32), S_1))) else
some ((0 : Int32), S_1)))) else
some ((0 : Int32), S_1))))
set_option maxHeartbeats 4000000 in
set_option maxRecDepth 100000 in
theorem kX1_readLetter (l : Launch) (zq : Nat → Nat) (D : va_G) (cy : Nat → ClassId) (ad : Nat → Nat)  (S S' : TS) (r : Int32) (hf : fX1_readLetter S = some (r, S')) : zMet l yX1_readLetter wsX1_readLetter 8 169 zq D (tT cy) (wT cy ad S) [.ref (ad 0)] (some (.int r)) (wT cy ad S') := by
  refine zMet.of cX1_readLetter 1 (some .boolean) (by decide) rfl (Nat.le_of_ble_eq_true rfl) ?_
  intro p e s m args below meth c A ls C hl hI
  have hl : lv_has ls 1 [(0, .ref (ad 0))] := hl
  have C : zC p s m args meth c cX1_readLetter 1 (some .boolean) RX1 wsX1_readLetter D (tT cy) zq A := C
  obtain ⟨hx, hb, hml, hown, hts, hret, hlk, hK, hX, hA⟩ := id C
  have hiX1 : ∀ w ∈ wsX10, w ∈ wsX1_readLetter := by decide +kernel
  obtain ⟨Q, hQ⟩ : ∃ Q, Q = MQ below (zQ D (tT cy) (wT cy ad S') (some (.int r)) A) args s 0 0 A := ⟨_, rfl⟩
  rw [← hQ]
  unfold fX1_readLetter at hf
  refine lv_aload_n hx hb dX1_readLetter_0 rfl (lv_at hl 0 rfl) ?_
  obtain ⟨S_1, hf_1, hf⟩ := zB1_s hf
  refine z_callV (w2 := (wT cy ad S_1)) C 0 (kX1_next l zq D cy ad S S_1 hf_1) gX1_readLetter_X1_next rfl (by decide +kernel) ⟨by decide, by decide⟩ hI 0 rfl rfl rfl hl.1 rfl (Nat.le_of_ble_eq_true rfl) dX1_readLetter_1 ⟨by decide, by decide⟩ (st2 := []) rfl (fun H locs hI => ?_)
  refine lv_aload_n hx hb dX1_readLetter_4 rfl (lv_at hl 0 rfl) ?_
  refine va_get (D := D) (ci := 1) (v := .int (t_token S_1)) (C := RX1) (T := TX1) (N := 11) hx hb hts hiX1 hown hK hI.1 0 rfl rfl 4 (by decide) (hts (.fieldLink RX1 25 "NoughtSums$Text" "token" "I") (by decide +kernel)) (fun _ h9 => h9) rfl dX1_readLetter_5 ?_
  refine lv_iconst (v := 5) hx hb dX1_readLetter_8 (by decide) ?_
  refine lv_icmp_ne (tgt := 39) hx hb dX1_readLetter_9 (by decide) (fun c_9 => ?_) (fun c_9 => ?_)
  · replace hf := zIf c_9 hf
    refine lv_iconst (v := 0) hx hb dX1_readLetter_39 (by decide) ?_
    obtain ⟨h1, h2⟩ := zP2 hf
    rw [hQ]
    exact z_zret C (by rw [h2]; exact hI) (by rw [h1]) rfl dX1_readLetter_40
  · replace hf := zIt c_9 hf
    refine lv_aload_n hx hb dX1_readLetter_12 rfl (lv_at hl 0 rfl) ?_
    refine va_get (D := D) (ci := 1) (v := .int (t_meaning S_1)) (C := RX1) (T := TX1) (N := 11) hx hb hts hiX1 hown hK hI.1 0 rfl rfl 5 (by decide) (hts (.fieldLink RX1 28 "NoughtSums$Text" "meaning" "I") (by decide +kernel)) (fun _ h9 => h9) rfl dX1_readLetter_13 ?_
    obtain ⟨r_16, hf_16, hf⟩ := zB1_s hf
    refine z_callS C 1 (kJ6_bitCount_0f7a4 l zq D (t_meaning S_1) r_16 hf_16) gX1_readLetter_J6_bitCount_0f7a4 rfl (by decide +kernel) ⟨by decide, by decide⟩ hI rfl hl.1 rfl (Nat.le_of_ble_eq_true rfl) dX1_readLetter_16 ⟨by decide, by decide⟩ (st2 := [.int r_16]) rfl (fun H locs hI => ?_)
    refine lv_iconst (v := 1) hx hb dX1_readLetter_19 (by decide) ?_
    refine lv_icmp_ne (tgt := 39) hx hb dX1_readLetter_20 (by decide) (fun c_20 => ?_) (fun c_20 => ?_)
    · replace hf := zIf c_20 hf
      refine lv_iconst (v := 0) hx hb dX1_readLetter_39 (by decide) ?_
      obtain ⟨h1, h2⟩ := zP2 hf
      rw [hQ]
      exact z_zret C (by rw [h2]; exact hI) (by rw [h1]) rfl dX1_readLetter_40
    · replace hf := zIt c_20 hf
      refine lv_aload_n hx hb dX1_readLetter_23 rfl (lv_at hl 0 rfl) ?_
      refine va_get (D := D) (ci := 1) (v := .int (t_told S_1)) (C := RX1) (T := TX1) (N := 11) hx hb hts hiX1 hown hK hI.1 0 rfl rfl 6 (by decide) (hts (.fieldLink RX1 31 "NoughtSums$Text" "told" "I") (by decide +kernel)) (fun _ h9 => h9) rfl dX1_readLetter_24 ?_
      refine lv_if_lt (tgt := 39) hx hb dX1_readLetter_27 (by decide) (fun c_27 => ?_) (fun c_27 => ?_)
      · replace hf := zIt c_27 hf
        refine lv_iconst (v := 0) hx hb dX1_readLetter_39 (by decide) ?_
        obtain ⟨h1, h2⟩ := zP2 hf
        rw [hQ]
        exact z_zret C (by rw [h2]; exact hI) (by rw [h1]) rfl dX1_readLetter_40
      · replace hf := zIf c_27 hf
        refine lv_aload_n hx hb dX1_readLetter_30 rfl (lv_at hl 0 rfl) ?_
        refine va_get (D := D) (ci := 1) (v := .int (t_told S_1)) (C := RX1) (T := TX1) (N := 11) hx hb hts hiX1 hown hK hI.1 0 rfl rfl 6 (by decide) (hts (.fieldLink RX1 31 "NoughtSums$Text" "told" "I") (by decide +kernel)) (fun _ h9 => h9) rfl dX1_readLetter_31 ?_
        refine lv_bipush (v := 24) hx hb dX1_readLetter_34 (by decide) ?_
        refine lv_icmp_lt (tgt := 41) hx hb dX1_readLetter_36 (by decide) (fun c_36 => ?_) (fun c_36 => ?_)
        · replace hf := zIt c_36 hf
          refine lv_aload_n hx hb dX1_readLetter_41 rfl (lv_at hl 0 rfl) ?_
          refine va_get (D := D) (ci := 1) (v := .ref (ad 5)) (C := RX1) (T := TX1) (N := 11) hx hb hts hiX1 hown hK hI.1 0 rfl rfl 10 (by decide) (hts (.fieldLink RX1 44 "NoughtSums$Text" "seconds" "[I") (by decide +kernel)) (fun _ h9 => h9) rfl dX1_readLetter_42 ?_
          refine lv_aload_n hx hb dX1_readLetter_45 rfl (lv_at hl 0 rfl) ?_
          refine va_get (D := D) (ci := 1) (v := .int (t_told S_1)) (C := RX1) (T := TX1) (N := 11) hx hb hts hiX1 hown hK hI.1 0 rfl rfl 6 (by decide) (hts (.fieldLink RX1 31 "NoughtSums$Text" "told" "I") (by decide +kernel)) (fun _ h9 => h9) rfl dX1_readLetter_46 ?_
          refine lv_aload_n hx hb dX1_readLetter_49 rfl (lv_at hl 0 rfl) ?_
          refine va_get (D := D) (ci := 1) (v := .int (t_meaning S_1)) (C := RX1) (T := TX1) (N := 11) hx hb hts hiX1 hown hK hI.1 0 rfl rfl 5 (by decide) (hts (.fieldLink RX1 28 "NoughtSums$Text" "meaning" "I") (by decide +kernel)) (fun _ h9 => h9) rfl dX1_readLetter_50 ?_
          obtain ⟨g_53, hf⟩ := zGI_s hf
          obtain ⟨S_53, eS_53, hf⟩ := zL_e hf
          refine z_iast (f := (t_seconds S_1)) (w2 := (wT cy ad S_53)) hx hb hK hI 5 4 rfl rfl g_53 dX1_readLetter_53 (by rw [eS_53]; rfl) (fun H locs hI => ?_)
          refine lv_iconst (v := 1) hx hb dX1_readLetter_54 (by decide) ?_
          obtain ⟨h1, h2⟩ := zP2 hf
          rw [hQ]
          exact z_zret C (by rw [h2]; exact hI) (by rw [h1]) rfl dX1_readLetter_55
        · replace hf := zIf c_36 hf
          refine lv_iconst (v := 0) hx hb dX1_readLetter_39 (by decide) ?_
          obtain ⟨h1, h2⟩ := zP2 hf
          rw [hQ]
          exact z_zret C (by rw [h2]; exact hI) (by rw [h1]) rfl dX1_readLetter_40

def fX1_readStep_b64 (v1 : Int32) (S : TS) : Option (Int32 × TS) :=
(zB2 (fX1_readLine_4 v1 S) (fun r_70 S_70 =>
(if r_70 = 0 then some ((0 : Int32), S_70) else
(zB2 (fX1_readLine_5 v1 S_70) (fun r_82 S_82 =>
(if r_82 = 0 then some ((0 : Int32), S_82) else
(zB2 (fX1_readSemicolon S_82) (fun r_89 S_89 =>
(if r_89 = 0 then some ((0 : Int32), S_89) else
some ((1 : Int32), S_89))))))))))

def fX1_readStep (a1 : Int32) (S : TS) : Option (Int32 × TS) :=
(if (t_told S) < 0 then some ((0 : Int32), S) else
(if (t_told S) < (24 : Int32) then (zGI (t_told S) 24
(zL (t_ops_u S (upd (t_ops S) (t_told S).toNatClampNeg (t_token S))) (fun S_30 =>
(if (t_token S_30) = 1 then fX1_readStep_b64 a1 S_30 else
(if (t_token S_30) = 2 then (zB2 (fX1_readLine_4 a1 S_30) (fun r_107 S_107 =>
(if r_107 = 0 then some ((0 : Int32), S_107) else
(zB2 (fX1_readLetter S_107) (fun r_114 S_114 =>
(if r_114 = 0 then some ((0 : Int32), S_114) else
(zB2 (fX1_readSemicolon S_114) (fun r_121 S_121 =>
(if r_121 = 0 then some ((0 : Int32), S_121) else
some ((1 : Int32), S_121)))))))))) else
(if (t_token S_30) = 3 then fX1_readStep_b64 a1 S_30 else
(if (t_token S_30) = 4 then (zB1 (fX1_next S_30) (fun S_134 =>
(zB2 (fX1_readSum S_134) (fun r_138 S_138 =>
(zG (r_138 = 0 ∨ r_138 = 1) (some (r_138, S_138))))))) else
some ((0 : Int32), S_30)))))))) else
some ((0 : Int32), S)))
set_option maxHeartbeats 4000000 in
set_option maxRecDepth 100000 in
theorem kX1_readStep (l : Launch) (zq : Nat → Nat) (D : va_G) (cy : Nat → ClassId) (ad : Nat → Nat) (a1 : Int32) (S S' : TS) (r : Int32) (hf : fX1_readStep a1 S = some (r, S')) : zMet l yX1_readStep wsX1_readStep 9 192 zq D (tT cy) (wT cy ad S) [.ref (ad 0), .int a1] (some (.int r)) (wT cy ad S') := by
  refine zMet.of cX1_readStep 2 (some .boolean) (by decide) rfl (Nat.le_of_ble_eq_true rfl) ?_
  intro p e s m args below meth c A ls C hl hI
  have hl : lv_has ls 2 [(0, .ref (ad 0)), (1, .int a1)] := hl
  have C : zC p s m args meth c cX1_readStep 2 (some .boolean) RX1 wsX1_readStep D (tT cy) zq A := C
  obtain ⟨hx, hb, hml, hown, hts, hret, hlk, hK, hX, hA⟩ := id C
  have hiX1 : ∀ w ∈ wsX10, w ∈ wsX1_readStep := by decide +kernel
  obtain ⟨Q, hQ⟩ : ∃ Q, Q = MQ below (zQ D (tT cy) (wT cy ad S') (some (.int r)) A) args s 0 0 A := ⟨_, rfl⟩
  rw [← hQ]
  have hb64 : ∀ (v1 : Int32) (S : TS) (H : Heap) (locs : List Loc) (ls : Array Slot), fX1_readStep_b64 v1 S = some (r, S') → zI D A s H locs (wT cy ad S) → lv_has ls 2 [(0, .ref (ad 0)), (1, .int v1)] → W p l e { frames := 9, cells := 0, slots := 0, locals := 192 } s m args below meth c H locs 0 0 Q (F0 m 64 ls []) := by
    intro v1 S H locs ls hf hI hl
    unfold fX1_readStep_b64 at hf
    refine lv_aload_n hx hb dX1_readStep_64 rfl (lv_at hl 0 rfl) ?_
    refine lv_aload_n hx hb dX1_readStep_65 rfl (lv_at hl 0 rfl) ?_
    refine va_get (D := D) (ci := 1) (v := .ref (ad 4)) (C := RX1) (T := TX1) (N := 11) hx hb hts hiX1 hown hK hI.1 0 rfl rfl 9 (by decide) (hts (.fieldLink RX1 41 "NoughtSums$Text" "firsts" "[I") (by decide +kernel)) (fun _ h9 => h9) rfl dX1_readStep_66 ?_
    refine lv_iload_n hx hb dX1_readStep_69 rfl (lv_at hl 1 rfl) ?_
    obtain ⟨r_70, S_70, hf_70, hf⟩ := zB2_s hf
    refine z_callV (w2 := (wT cy ad S_70)) C 2 (kX1_readLine_4 l zq D cy ad v1 S S_70 r_70 hf_70) gX1_readStep_X1_readLine rfl (by decide +kernel) ⟨by decide, by decide⟩ hI 0 rfl rfl rfl hl.1 rfl (Nat.le_of_ble_eq_true rfl) dX1_readStep_70 ⟨by decide, by decide⟩ (st2 := [.int r_70]) rfl (fun H locs hI => ?_)
    refine lv_if_eq (tgt := 99) hx hb dX1_readStep_73 (by decide) (fun c_73 => ?_) (fun c_73 => ?_)
    · replace hf := zIt c_73 hf
      refine lv_iconst (v := 0) hx hb dX1_readStep_99 (by decide) ?_
      obtain ⟨h1, h2⟩ := zP2 hf
      rw [hQ]
      exact z_zret C (by rw [h2]; exact hI) (by rw [h1]) rfl dX1_readStep_100
    · replace hf := zIf c_73 hf
      refine lv_aload_n hx hb dX1_readStep_76 rfl (lv_at hl 0 rfl) ?_
      refine lv_aload_n hx hb dX1_readStep_77 rfl (lv_at hl 0 rfl) ?_
      refine va_get (D := D) (ci := 1) (v := .ref (ad 5)) (C := RX1) (T := TX1) (N := 11) hx hb hts hiX1 hown hK hI.1 0 rfl rfl 10 (by decide) (hts (.fieldLink RX1 44 "NoughtSums$Text" "seconds" "[I") (by decide +kernel)) (fun _ h9 => h9) rfl dX1_readStep_78 ?_
      refine lv_iload_n hx hb dX1_readStep_81 rfl (lv_at hl 1 rfl) ?_
      obtain ⟨r_82, S_82, hf_82, hf⟩ := zB2_s hf
      refine z_callV (w2 := (wT cy ad S_82)) C 2 (kX1_readLine_5 l zq D cy ad v1 S_70 S_82 r_82 hf_82) gX1_readStep_X1_readLine rfl (by decide +kernel) ⟨by decide, by decide⟩ hI 0 rfl rfl rfl hl.1 rfl (Nat.le_of_ble_eq_true rfl) dX1_readStep_82 ⟨by decide, by decide⟩ (st2 := [.int r_82]) rfl (fun H locs hI => ?_)
      refine lv_if_eq (tgt := 99) hx hb dX1_readStep_85 (by decide) (fun c_85 => ?_) (fun c_85 => ?_)
      · replace hf := zIt c_85 hf
        refine lv_iconst (v := 0) hx hb dX1_readStep_99 (by decide) ?_
        obtain ⟨h1, h2⟩ := zP2 hf
        rw [hQ]
        exact z_zret C (by rw [h2]; exact hI) (by rw [h1]) rfl dX1_readStep_100
      · replace hf := zIf c_85 hf
        refine lv_aload_n hx hb dX1_readStep_88 rfl (lv_at hl 0 rfl) ?_
        obtain ⟨r_89, S_89, hf_89, hf⟩ := zB2_s hf
        refine z_callV (w2 := (wT cy ad S_89)) C 0 (kX1_readSemicolon l zq D cy ad S_82 S_89 r_89 hf_89) gX1_readStep_X1_readSemicolon rfl (by decide +kernel) ⟨by decide, by decide⟩ hI 0 rfl rfl rfl hl.1 rfl (Nat.le_of_ble_eq_true rfl) dX1_readStep_89 ⟨by decide, by decide⟩ (st2 := [.int r_89]) rfl (fun H locs hI => ?_)
        refine lv_if_eq (tgt := 99) hx hb dX1_readStep_92 (by decide) (fun c_92 => ?_) (fun c_92 => ?_)
        · replace hf := zIt c_92 hf
          refine lv_iconst (v := 0) hx hb dX1_readStep_99 (by decide) ?_
          obtain ⟨h1, h2⟩ := zP2 hf
          rw [hQ]
          exact z_zret C (by rw [h2]; exact hI) (by rw [h1]) rfl dX1_readStep_100
        · replace hf := zIf c_92 hf
          refine lv_iconst (v := 1) hx hb dX1_readStep_95 (by decide) ?_
          refine lv_goto (tgt := 100) hx hb dX1_readStep_96 (by decide) ?_
          obtain ⟨h1, h2⟩ := zP2 hf
          rw [hQ]
          exact z_zret C (by rw [h2]; exact hI) (by rw [h1]) rfl dX1_readStep_100
  unfold fX1_readStep at hf
  refine lv_aload_n hx hb dX1_readStep_0 rfl (lv_at hl 0 rfl) ?_
  refine va_get (D := D) (ci := 1) (v := .int (t_told S)) (C := RX1) (T := TX1) (N := 11) hx hb hts hiX1 hown hK hI.1 0 rfl rfl 6 (by decide) (hts (.fieldLink RX1 31 "NoughtSums$Text" "told" "I") (by decide +kernel)) (fun _ h9 => h9) rfl dX1_readStep_1 ?_
  refine lv_if_lt (tgt := 16) hx hb dX1_readStep_4 (by decide) (fun c_4 => ?_) (fun c_4 => ?_)
  · replace hf := zIt c_4 hf
    refine lv_iconst (v := 0) hx hb dX1_readStep_16 (by decide) ?_
    obtain ⟨h1, h2⟩ := zP2 hf
    rw [hQ]
    exact z_zret C (by rw [h2]; exact hI) (by rw [h1]) rfl dX1_readStep_17
  · replace hf := zIf c_4 hf
    refine lv_aload_n hx hb dX1_readStep_7 rfl (lv_at hl 0 rfl) ?_
    refine va_get (D := D) (ci := 1) (v := .int (t_told S)) (C := RX1) (T := TX1) (N := 11) hx hb hts hiX1 hown hK hI.1 0 rfl rfl 6 (by decide) (hts (.fieldLink RX1 31 "NoughtSums$Text" "told" "I") (by decide +kernel)) (fun _ h9 => h9) rfl dX1_readStep_8 ?_
    refine lv_bipush (v := 24) hx hb dX1_readStep_11 (by decide) ?_
    refine lv_icmp_lt (tgt := 18) hx hb dX1_readStep_13 (by decide) (fun c_13 => ?_) (fun c_13 => ?_)
    · replace hf := zIt c_13 hf
      refine lv_aload_n hx hb dX1_readStep_18 rfl (lv_at hl 0 rfl) ?_
      refine va_get (D := D) (ci := 1) (v := .ref (ad 3)) (C := RX1) (T := TX1) (N := 11) hx hb hts hiX1 hown hK hI.1 0 rfl rfl 8 (by decide) (hts (.fieldLink RX1 38 "NoughtSums$Text" "ops" "[I") (by decide +kernel)) (fun _ h9 => h9) rfl dX1_readStep_19 ?_
      refine lv_aload_n hx hb dX1_readStep_22 rfl (lv_at hl 0 rfl) ?_
      refine va_get (D := D) (ci := 1) (v := .int (t_told S)) (C := RX1) (T := TX1) (N := 11) hx hb hts hiX1 hown hK hI.1 0 rfl rfl 6 (by decide) (hts (.fieldLink RX1 31 "NoughtSums$Text" "told" "I") (by decide +kernel)) (fun _ h9 => h9) rfl dX1_readStep_23 ?_
      refine lv_aload_n hx hb dX1_readStep_26 rfl (lv_at hl 0 rfl) ?_
      refine va_get (D := D) (ci := 1) (v := .int (t_token S)) (C := RX1) (T := TX1) (N := 11) hx hb hts hiX1 hown hK hI.1 0 rfl rfl 4 (by decide) (hts (.fieldLink RX1 25 "NoughtSums$Text" "token" "I") (by decide +kernel)) (fun _ h9 => h9) rfl dX1_readStep_27 ?_
      obtain ⟨g_30, hf⟩ := zGI_s hf
      obtain ⟨S_30, eS_30, hf⟩ := zL_e hf
      refine z_iast (f := (t_ops S)) (w2 := (wT cy ad S_30)) hx hb hK hI 3 2 rfl rfl g_30 dX1_readStep_30 (by rw [eS_30]; rfl) (fun H locs hI => ?_)
      refine lv_aload_n hx hb dX1_readStep_31 rfl (lv_at hl 0 rfl) ?_
      refine va_get (D := D) (ci := 1) (v := .int (t_token S_30)) (C := RX1) (T := TX1) (N := 11) hx hb hts hiX1 hown hK hI.1 0 rfl rfl 4 (by decide) (hts (.fieldLink RX1 25 "NoughtSums$Text" "token" "I") (by decide +kernel)) (fun _ h9 => h9) rfl dX1_readStep_32 ?_
      by_cases c_35_1 : (t_token S_30) = 1
      · replace hf := zIt c_35_1 hf
        refine lv_tableIn (tgt := 64) (off := 29) hx hb dX1_readStep_35 (by rw [c_35_1]; decide) (by rw [c_35_1]; decide) (by rw [c_35_1]; rfl) (by decide) ?_
        exact hb64 a1 S_30 _ _ _ hf hI (lv_sub hl [0, 1] rfl)
      replace hf := zIf c_35_1 hf
      by_cases c_35_2 : (t_token S_30) = 2
      · replace hf := zIt c_35_2 hf
        refine lv_tableIn (tgt := 101) (off := 66) hx hb dX1_readStep_35 (by rw [c_35_2]; decide) (by rw [c_35_2]; decide) (by rw [c_35_2]; rfl) (by decide) ?_
        refine lv_aload_n hx hb dX1_readStep_101 rfl (lv_at hl 0 rfl) ?_
        refine lv_aload_n hx hb dX1_readStep_102 rfl (lv_at hl 0 rfl) ?_
        refine va_get (D := D) (ci := 1) (v := .ref (ad 4)) (C := RX1) (T := TX1) (N := 11) hx hb hts hiX1 hown hK hI.1 0 rfl rfl 9 (by decide) (hts (.fieldLink RX1 41 "NoughtSums$Text" "firsts" "[I") (by decide +kernel)) (fun _ h9 => h9) rfl dX1_readStep_103 ?_
        refine lv_iload_n hx hb dX1_readStep_106 rfl (lv_at hl 1 rfl) ?_
        obtain ⟨r_107, S_107, hf_107, hf⟩ := zB2_s hf
        refine z_callV (w2 := (wT cy ad S_107)) C 2 (kX1_readLine_4 l zq D cy ad a1 S_30 S_107 r_107 hf_107) gX1_readStep_X1_readLine rfl (by decide +kernel) ⟨by decide, by decide⟩ hI 0 rfl rfl rfl hl.1 rfl (Nat.le_of_ble_eq_true rfl) dX1_readStep_107 ⟨by decide, by decide⟩ (st2 := [.int r_107]) rfl (fun H locs hI => ?_)
        refine lv_if_eq (tgt := 131) hx hb dX1_readStep_110 (by decide) (fun c_110 => ?_) (fun c_110 => ?_)
        · replace hf := zIt c_110 hf
          refine lv_iconst (v := 0) hx hb dX1_readStep_131 (by decide) ?_
          obtain ⟨h1, h2⟩ := zP2 hf
          rw [hQ]
          exact z_zret C (by rw [h2]; exact hI) (by rw [h1]) rfl dX1_readStep_132
        · replace hf := zIf c_110 hf
          refine lv_aload_n hx hb dX1_readStep_113 rfl (lv_at hl 0 rfl) ?_
          obtain ⟨r_114, S_114, hf_114, hf⟩ := zB2_s hf
          refine z_callV (w2 := (wT cy ad S_114)) C 0 (kX1_readLetter l zq D cy ad S_107 S_114 r_114 hf_114) gX1_readStep_X1_readLetter rfl (by decide +kernel) ⟨by decide, by decide⟩ hI 0 rfl rfl rfl hl.1 rfl (Nat.le_of_ble_eq_true rfl) dX1_readStep_114 ⟨by decide, by decide⟩ (st2 := [.int r_114]) rfl (fun H locs hI => ?_)
          refine lv_if_eq (tgt := 131) hx hb dX1_readStep_117 (by decide) (fun c_117 => ?_) (fun c_117 => ?_)
          · replace hf := zIt c_117 hf
            refine lv_iconst (v := 0) hx hb dX1_readStep_131 (by decide) ?_
            obtain ⟨h1, h2⟩ := zP2 hf
            rw [hQ]
            exact z_zret C (by rw [h2]; exact hI) (by rw [h1]) rfl dX1_readStep_132
          · replace hf := zIf c_117 hf
            refine lv_aload_n hx hb dX1_readStep_120 rfl (lv_at hl 0 rfl) ?_
            obtain ⟨r_121, S_121, hf_121, hf⟩ := zB2_s hf
            refine z_callV (w2 := (wT cy ad S_121)) C 0 (kX1_readSemicolon l zq D cy ad S_114 S_121 r_121 hf_121) gX1_readStep_X1_readSemicolon rfl (by decide +kernel) ⟨by decide, by decide⟩ hI 0 rfl rfl rfl hl.1 rfl (Nat.le_of_ble_eq_true rfl) dX1_readStep_121 ⟨by decide, by decide⟩ (st2 := [.int r_121]) rfl (fun H locs hI => ?_)
            refine lv_if_eq (tgt := 131) hx hb dX1_readStep_124 (by decide) (fun c_124 => ?_) (fun c_124 => ?_)
            · replace hf := zIt c_124 hf
              refine lv_iconst (v := 0) hx hb dX1_readStep_131 (by decide) ?_
              obtain ⟨h1, h2⟩ := zP2 hf
              rw [hQ]
              exact z_zret C (by rw [h2]; exact hI) (by rw [h1]) rfl dX1_readStep_132
            · replace hf := zIf c_124 hf
              refine lv_iconst (v := 1) hx hb dX1_readStep_127 (by decide) ?_
              refine lv_goto (tgt := 132) hx hb dX1_readStep_128 (by decide) ?_
              obtain ⟨h1, h2⟩ := zP2 hf
              rw [hQ]
              exact z_zret C (by rw [h2]; exact hI) (by rw [h1]) rfl dX1_readStep_132
      replace hf := zIf c_35_2 hf
      by_cases c_35_3 : (t_token S_30) = 3
      · replace hf := zIt c_35_3 hf
        refine lv_tableIn (tgt := 64) (off := 29) hx hb dX1_readStep_35 (by rw [c_35_3]; decide) (by rw [c_35_3]; decide) (by rw [c_35_3]; rfl) (by decide) ?_
        exact hb64 a1 S_30 _ _ _ hf hI (lv_sub hl [0, 1] rfl)
      replace hf := zIf c_35_3 hf
      by_cases c_35_4 : (t_token S_30) = 4
      · replace hf := zIt c_35_4 hf
        refine lv_tableIn (tgt := 133) (off := 98) hx hb dX1_readStep_35 (by rw [c_35_4]; decide) (by rw [c_35_4]; decide) (by rw [c_35_4]; rfl) (by decide) ?_
        refine lv_aload_n hx hb dX1_readStep_133 rfl (lv_at hl 0 rfl) ?_
        obtain ⟨S_134, hf_134, hf⟩ := zB1_s hf
        refine z_callV (w2 := (wT cy ad S_134)) C 0 (kX1_next l zq D cy ad S_30 S_134 hf_134) gX1_readStep_X1_next rfl (by decide +kernel) ⟨by decide, by decide⟩ hI 0 rfl rfl rfl hl.1 rfl (Nat.le_of_ble_eq_true rfl) dX1_readStep_134 ⟨by decide, by decide⟩ (st2 := []) rfl (fun H locs hI => ?_)
        refine lv_aload_n hx hb dX1_readStep_137 rfl (lv_at hl 0 rfl) ?_
        obtain ⟨r_138, S_138, hf_138, hf⟩ := zB2_s hf
        refine z_callV (w2 := (wT cy ad S_138)) C 0 (kX1_readSum l zq D cy ad S_134 S_138 r_138 hf_138) gX1_readStep_X1_readSum rfl (by decide +kernel) ⟨by decide, by decide⟩ hI 0 rfl rfl rfl hl.1 rfl (Nat.le_of_ble_eq_true rfl) dX1_readStep_138 ⟨by decide, by decide⟩ (st2 := [.int r_138]) rfl (fun H locs hI => ?_)
        obtain ⟨g_141, hf⟩ := zG_s hf
        obtain ⟨h1, h2⟩ := zP2 hf
        rw [hQ]
        exact z_zret C (by rw [h2]; exact hI) (by rw [h1]) (zNarB g_141) dX1_readStep_141
      replace hf := zIf c_35_4 hf
      refine lv_tableOut (tgt := 142) hx hb dX1_readStep_35 (zTab (t_token S_30) 1 4 (fun k h1 h2 => ?_)) (by decide) ?_
      · rcases (show k = 1 ∨ k = 2 ∨ k = 3 ∨ k = 4 by omega) with rfl | rfl | rfl | rfl
        · exact c_35_1
        · exact c_35_2
        · exact c_35_3
        · exact c_35_4
      refine lv_iconst (v := 0) hx hb dX1_readStep_142 (by decide) ?_
      obtain ⟨h1, h2⟩ := zP2 hf
      rw [hQ]
      exact z_zret C (by rw [h2]; exact hI) (by rw [h1]) rfl dX1_readStep_143
    · replace hf := zIf c_13 hf
      refine lv_iconst (v := 0) hx hb dX1_readStep_16 (by decide) ?_
      obtain ⟨h1, h2⟩ := zP2 hf
      rw [hQ]
      exact z_zret C (by rw [h2]; exact hI) (by rw [h1]) rfl dX1_readStep_17

def fX1_readProof_b57 (S : TS) : Option (Int32 × TS) :=
(if (t_token S) = (9 : Int32) then some ((-1 : Int32), S) else
some ((t_start S), S))

def fX1_readProof_b4 (k4 : Int32 → TS → Option (Int32 × TS)) (v1 : Int32) (S : TS) : Option (Int32 × TS) :=
(if (24 : Int32) ≤ (t_told S) then fX1_readProof_b57 S else
(if (t_token S) = (9 : Int32) then fX1_readProof_b57 S else
(zB2 (fX1_readStep (v1 + (t_told S)) S) (fun r_29 S_29 =>
(if r_29 = 0 then some ((t_start S_29), S_29) else
(zL (t_told_u S_29 ((t_told S_29) + (1 : Int32))) (fun S_47 =>
(zB1 (fX1_next S_47) (fun S_51 =>
k4 v1 S_51)))))))))
def fX1_readProof_b4L : Nat → Int32 → TS → Option (Int32 × TS)
  | 0, _, _ => none
  | n + 1, v1, S => fX1_readProof_b4 (fX1_readProof_b4L n) v1 S

def fX1_readProof (a1 : Int32) (S : TS) : Option (Int32 × TS) :=
(zB1 (fX1_begin S) (fun S_1 =>
fX1_readProof_b4L zF a1 S_1))
set_option maxHeartbeats 4000000 in
set_option maxRecDepth 100000 in
theorem kX1_readProof (l : Launch) (zq : Nat → Nat) (D : va_G) (cy : Nat → ClassId) (ad : Nat → Nat) (a1 : Int32) (S S' : TS) (r : Int32) (hf : fX1_readProof a1 S = some (r, S')) : zMet l yX1_readProof wsX1_readProof 10 213 zq D (tT cy) (wT cy ad S) [.ref (ad 0), .int a1] (some (.int r)) (wT cy ad S') := by
  refine zMet.of cX1_readProof 2 (some .int) (by decide) rfl (Nat.le_of_ble_eq_true rfl) ?_
  intro p e s m args below meth c A ls C hl hI
  have hl : lv_has ls 2 [(0, .ref (ad 0)), (1, .int a1)] := hl
  have C : zC p s m args meth c cX1_readProof 2 (some .int) RX1 wsX1_readProof D (tT cy) zq A := C
  obtain ⟨hx, hb, hml, hown, hts, hret, hlk, hK, hX, hA⟩ := id C
  have hiX1 : ∀ w ∈ wsX10, w ∈ wsX1_readProof := by decide +kernel
  obtain ⟨Q, hQ⟩ : ∃ Q, Q = MQ below (zQ D (tT cy) (wT cy ad S') (some (.int r)) A) args s 0 0 A := ⟨_, rfl⟩
  rw [← hQ]
  have hb57 : ∀ (S : TS) (H : Heap) (locs : List Loc) (ls : Array Slot), fX1_readProof_b57 S = some (r, S') → zI D A s H locs (wT cy ad S) → lv_has ls 2 [(0, .ref (ad 0))] → W p l e { frames := 10, cells := 0, slots := 0, locals := 213 } s m args below meth c H locs 0 0 Q (F0 m 57 ls []) := by
    intro S H locs ls hf hI hl
    unfold fX1_readProof_b57 at hf
    refine lv_aload_n hx hb dX1_readProof_57 rfl (lv_at hl 0 rfl) ?_
    refine va_get (D := D) (ci := 1) (v := .int (t_token S)) (C := RX1) (T := TX1) (N := 11) hx hb hts hiX1 hown hK hI.1 0 rfl rfl 4 (by decide) (hts (.fieldLink RX1 25 "NoughtSums$Text" "token" "I") (by decide +kernel)) (fun _ h9 => h9) rfl dX1_readProof_58 ?_
    refine lv_bipush (v := 9) hx hb dX1_readProof_61 (by decide) ?_
    refine lv_icmp_ne (tgt := 70) hx hb dX1_readProof_63 (by decide) (fun c_63 => ?_) (fun c_63 => ?_)
    · replace hf := zIf c_63 hf
      refine lv_aload_n hx hb dX1_readProof_70 rfl (lv_at hl 0 rfl) ?_
      refine va_get (D := D) (ci := 1) (v := .int (t_start S)) (C := RX1) (T := TX1) (N := 11) hx hb hts hiX1 hown hK hI.1 0 rfl rfl 3 (by decide) (hts (.fieldLink RX1 22 "NoughtSums$Text" "start" "I") (by decide +kernel)) (fun _ h9 => h9) rfl dX1_readProof_71 ?_
      obtain ⟨h1, h2⟩ := zP2 hf
      rw [hQ]
      exact z_iret C (by rw [h2]; exact hI) (by rw [h1]) dX1_readProof_74
    · replace hf := zIt c_63 hf
      refine lv_iconst (v := -1) hx hb dX1_readProof_66 (by decide) ?_
      refine lv_goto (tgt := 74) hx hb dX1_readProof_67 (by decide) ?_
      obtain ⟨h1, h2⟩ := zP2 hf
      rw [hQ]
      exact z_iret C (by rw [h2]; exact hI) (by rw [h1]) dX1_readProof_74
  have hb4 : ∀ (n : Nat), ∀ (v1 : Int32) (S : TS) (H : Heap) (locs : List Loc) (ls : Array Slot), fX1_readProof_b4L n v1 S = some (r, S') → zI D A s H locs (wT cy ad S) → lv_has ls 2 [(0, .ref (ad 0)), (1, .int v1)] → W p l e { frames := 10, cells := 0, slots := 0, locals := 213 } s m args below meth c H locs 0 0 Q (F0 m 4 ls []) := by
    intro n
    induction n with
    | zero => intro v1 S H locs ls hf; cases (show (none : Option (Int32 × TS)) = some (r, S') from hf)
    | succ n ih =>
      intro v1 S H locs ls hf hI hl
      have hf : fX1_readProof_b4 (fX1_readProof_b4L n) v1 S = some (r, S') := hf
      unfold fX1_readProof_b4 at hf
      refine lv_aload_n hx hb dX1_readProof_4 rfl (lv_at hl 0 rfl) ?_
      refine va_get (D := D) (ci := 1) (v := .int (t_told S)) (C := RX1) (T := TX1) (N := 11) hx hb hts hiX1 hown hK hI.1 0 rfl rfl 6 (by decide) (hts (.fieldLink RX1 31 "NoughtSums$Text" "told" "I") (by decide +kernel)) (fun _ h9 => h9) rfl dX1_readProof_5 ?_
      refine lv_bipush (v := 24) hx hb dX1_readProof_8 (by decide) ?_
      refine lv_icmp_ge (tgt := 57) hx hb dX1_readProof_10 (by decide) (fun c_10 => ?_) (fun c_10 => ?_)
      · replace hf := zIt c_10 hf
        exact hb57 S _ _ _ hf hI (lv_sub hl [0] rfl)
      · replace hf := zIf c_10 hf
        refine lv_aload_n hx hb dX1_readProof_13 rfl (lv_at hl 0 rfl) ?_
        refine va_get (D := D) (ci := 1) (v := .int (t_token S)) (C := RX1) (T := TX1) (N := 11) hx hb hts hiX1 hown hK hI.1 0 rfl rfl 4 (by decide) (hts (.fieldLink RX1 25 "NoughtSums$Text" "token" "I") (by decide +kernel)) (fun _ h9 => h9) rfl dX1_readProof_14 ?_
        refine lv_bipush (v := 9) hx hb dX1_readProof_17 (by decide) ?_
        refine lv_icmp_eq (tgt := 57) hx hb dX1_readProof_19 (by decide) (fun c_19 => ?_) (fun c_19 => ?_)
        · replace hf := zIt c_19 hf
          exact hb57 S _ _ _ hf hI (lv_sub hl [0] rfl)
        · replace hf := zIf c_19 hf
          refine lv_aload_n hx hb dX1_readProof_22 rfl (lv_at hl 0 rfl) ?_
          refine lv_iload_n hx hb dX1_readProof_23 rfl (lv_at hl 1 rfl) ?_
          refine lv_aload_n hx hb dX1_readProof_24 rfl (lv_at hl 0 rfl) ?_
          refine va_get (D := D) (ci := 1) (v := .int (t_told S)) (C := RX1) (T := TX1) (N := 11) hx hb hts hiX1 hown hK hI.1 0 rfl rfl 6 (by decide) (hts (.fieldLink RX1 31 "NoughtSums$Text" "told" "I") (by decide +kernel)) (fun _ h9 => h9) rfl dX1_readProof_25 ?_
          refine lv_iadd hx hb dX1_readProof_28 ?_
          obtain ⟨r_29, S_29, hf_29, hf⟩ := zB2_s hf
          refine z_callV (w2 := (wT cy ad S_29)) C 1 (kX1_readStep l zq D cy ad (v1 + (t_told S)) S S_29 r_29 hf_29) gX1_readProof_X1_readStep rfl (by decide +kernel) ⟨by decide, by decide⟩ hI 0 rfl rfl rfl hl.1 rfl (Nat.le_of_ble_eq_true rfl) dX1_readProof_29 ⟨by decide, by decide⟩ (st2 := [.int r_29]) rfl (fun H locs hI => ?_)
          refine lv_if_ne (tgt := 40) hx hb dX1_readProof_32 (by decide) (fun c_32 => ?_) (fun c_32 => ?_)
          · replace hf := zIf c_32 hf
            refine lv_aload_n hx hb dX1_readProof_40 rfl (lv_at hl 0 rfl) ?_
            refine lv_dup hx hb dX1_readProof_41 rfl ?_
            refine va_get (D := D) (ci := 1) (v := .int (t_told S_29)) (C := RX1) (T := TX1) (N := 11) hx hb hts hiX1 hown hK hI.1 0 rfl rfl 6 (by decide) (hts (.fieldLink RX1 31 "NoughtSums$Text" "told" "I") (by decide +kernel)) (fun _ h9 => h9) rfl dX1_readProof_42 ?_
            refine lv_iconst (v := 1) hx hb dX1_readProof_45 (by decide) ?_
            refine lv_iadd hx hb dX1_readProof_46 ?_
            obtain ⟨S_47, eS_47, hf⟩ := zL_e hf
            refine z_put (D := D) (ci := 1) (v := .int ((t_told S_29) + (1 : Int32))) (ty := .int) (C := RX1) (T := TX1) (N := 11) (w2 := (wT cy ad S_47)) hx hb hts hiX1 tyX1 tyX1_ok nmX1 hown hK hI 0 rfl rfl 6 (by decide) (hts (.fieldLink RX1 31 "NoughtSums$Text" "told" "I") (by decide +kernel)) (fun _ h9 => h9) rfl (by decide +kernel) rfl rfl (Nat.le_of_ble_eq_true rfl) dX1_readProof_47 (by rw [eS_47]; rfl) (fun H locs hI => ?_)
            refine lv_aload_n hx hb dX1_readProof_50 rfl (lv_at hl 0 rfl) ?_
            obtain ⟨S_51, hf_51, hf⟩ := zB1_s hf
            refine z_callV (w2 := (wT cy ad S_51)) C 0 (kX1_next l zq D cy ad S_47 S_51 hf_51) gX1_readProof_X1_next rfl (by decide +kernel) ⟨by decide, by decide⟩ hI 0 rfl rfl rfl hl.1 rfl (Nat.le_of_ble_eq_true rfl) dX1_readProof_51 ⟨by decide, by decide⟩ (st2 := []) rfl (fun H locs hI => ?_)
            refine lv_goto (tgt := 4) hx hb dX1_readProof_54 (by decide) ?_
            exact ih v1 S_51 _ _ _ hf hI (lv_sub hl [0, 1] rfl)
          · replace hf := zIt c_32 hf
            refine lv_aload_n hx hb dX1_readProof_35 rfl (lv_at hl 0 rfl) ?_
            refine va_get (D := D) (ci := 1) (v := .int (t_start S_29)) (C := RX1) (T := TX1) (N := 11) hx hb hts hiX1 hown hK hI.1 0 rfl rfl 3 (by decide) (hts (.fieldLink RX1 22 "NoughtSums$Text" "start" "I") (by decide +kernel)) (fun _ h9 => h9) rfl dX1_readProof_36 ?_
            obtain ⟨h1, h2⟩ := zP2 hf
            rw [hQ]
            exact z_iret C (by rw [h2]; exact hI) (by rw [h1]) dX1_readProof_39
  unfold fX1_readProof at hf
  refine lv_aload_n hx hb dX1_readProof_0 rfl (lv_at hl 0 rfl) ?_
  obtain ⟨S_1, hf_1, hf⟩ := zB1_s hf
  refine z_callV (w2 := (wT cy ad S_1)) C 0 (kX1_begin l zq D cy ad S S_1 hf_1) gX1_readProof_X1_begin rfl (by decide +kernel) ⟨by decide, by decide⟩ hI 0 rfl rfl rfl hl.1 rfl (Nat.le_of_ble_eq_true rfl) dX1_readProof_1 ⟨by decide, by decide⟩ (st2 := []) rfl (fun H locs hI => ?_)
  exact hb4 zF a1 S_1 _ _ _ hf hI (lv_sub hl [0, 1] rfl)

