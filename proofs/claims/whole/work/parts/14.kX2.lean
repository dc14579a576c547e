def fX2_type_b36 (k36 : Int64 → Int32 → XS → Option (Int32 × XS)) (v1 : Int64) (v4 : Int32) (S : XS) : Option (Int32 × XS) :=
(if v4 < 0 then some ((t_length (x_text S)), S) else
(zB1 (fX1_append ((((zLushr v1 ((8 : Int32) * v4))).toInt32) &&& (255 : Int32)) (x_text S)) (fun S_57 =>
(zL (x_text_u S S_57) (fun W_57 =>
k36 v1 (v4 + (-1 : Int32)) W_57)))))
def fX2_type_b36L : Nat → Int64 → Int32 → XS → Option (Int32 × XS)
  | 0, _, _, _ => none
  | n + 1, v1, v4, S => fX2_type_b36 (fX2_type_b36L n) v1 v4 S

def fX2_type (a1 : Int64) (a3 : Int32) (S : XS) : Option (Int32 × XS) :=
(if a3 < (1 : Int32) then some ((-1 : Int32), S) else
(if a3 ≤ (8 : Int32) then (if ((t_length (x_text S)) + a3) ≤ (400 : Int32) then fX2_type_b36L zF a1 (a3 - (1 : Int32)) S else
some ((-3 : Int32), S)) else
some ((-1 : Int32), S)))
set_option maxHeartbeats 4000000 in
set_option maxRecDepth 100000 in
theorem kX2_type (l : Launch) (zq : Nat → Nat) (D : va_G) (cy : Nat → ClassId) (ad : Nat → Nat) (a1 : Int64) (a3 : Int32) (S S' : XS) (r : Int32) (hf : fX2_type a1 a3 S = some (r, S')) : zMet l yX2_type wsX2_type 1 21 zq D (tX cy) (wX cy ad S) [.ref (ad 0), .long a1, .int a3] (some (.int r)) (wX cy ad S') := by
  refine zMet.of cX2_type 5 (some .int) (by decide) rfl (Nat.le_of_ble_eq_true rfl) ?_
  intro p e s m args below meth c A ls C hl hI
  have hl : lv_has ls 5 [(0, .ref (ad 0)), (1, .long a1), (3, .int a3)] := hl
  have C : zC p s m args meth c cX2_type 5 (some .int) RX2 wsX2_type D (tX cy) zq A := C
  obtain ⟨hx, hb, hml, hown, hts, hret, hlk, hK, hX, hA⟩ := id C
  have hiX1 : ∀ w ∈ wsX10, w ∈ wsX2_type := by decide +kernel
  have hiX2 : ∀ w ∈ wsX20, w ∈ wsX2_type := by decide +kernel
  obtain ⟨Q, hQ⟩ : ∃ Q, Q = MQ below (zQ D (tX cy) (wX cy ad S') (some (.int r)) A) args s 0 0 A := ⟨_, rfl⟩
  rw [← hQ]
  have hb36 : ∀ (n : Nat), ∀ (v1 : Int64) (v4 : Int32) (S : XS) (H : Heap) (locs : List Loc) (ls : Array Slot), fX2_type_b36L n v1 v4 S = some (r, S') → zI D A s H locs (wX cy ad S) → lv_has ls 5 [(0, .ref (ad 0)), (1, .long v1), (4, .int v4)] → W p l e { frames := 1, cells := 0, slots := 0, locals := 21 } s m args below meth c H locs 0 0 Q (F0 m 36 ls []) := by
    intro n
    induction n with
    | zero => intro v1 v4 S H locs ls hf; cases (show (none : Option (Int32 × XS)) = some (r, S') from hf)
    | succ n ih =>
      intro v1 v4 S H locs ls hf hI hl
      have hf : fX2_type_b36 (fX2_type_b36L n) v1 v4 S = some (r, S') := hf
      unfold fX2_type_b36 at hf
      refine lv_iload hx hb dX2_type_36 (lv_at hl 2 rfl) ?_
      refine lv_if_lt (tgt := 66) hx hb dX2_type_38 (by decide) (fun c_38 => ?_) (fun c_38 => ?_)
      · replace hf := zIt c_38 hf
        refine lv_aload_n hx hb dX2_type_66 rfl (lv_at hl 0 rfl) ?_
        refine va_get (D := D) (ci := 2) (v := .ref (ad 1)) (C := RX2) (T := TX2) (N := 13) hx hb hts hiX2 hown hK hI.1 0 rfl rfl 0 (by decide) (hts (.fieldLink RX2 12 "NoughtSums" "text" "LNoughtSums$Text;") (by decide +kernel)) (fun _ h9 => h9) rfl dX2_type_67 ?_
        refine va_get (D := D) (ci := 1) (v := .int (t_length (x_text S))) (C := RX1) (T := TX1) (N := 11) hx hb hts hiX1 hown hK hI.1 1 rfl rfl 1 (by decide) (hts (.fieldLink RX2 62 "NoughtSums$Text" "length" "I") (by decide +kernel)) (fun _ h9 => h9) rfl dX2_type_70 ?_
        obtain ⟨h1, h2⟩ := zP2 hf
        rw [hQ]
        exact z_iret C (by rw [h2]; exact hI) (by rw [h1]) dX2_type_73
      · replace hf := zIf c_38 hf
        refine lv_aload_n hx hb dX2_type_41 rfl (lv_at hl 0 rfl) ?_
        refine va_get (D := D) (ci := 2) (v := .ref (ad 1)) (C := RX2) (T := TX2) (N := 13) hx hb hts hiX2 hown hK hI.1 0 rfl rfl 0 (by decide) (hts (.fieldLink RX2 12 "NoughtSums" "text" "LNoughtSums$Text;") (by decide +kernel)) (fun _ h9 => h9) rfl dX2_type_42 ?_
        refine lv_lload_n hx hb dX2_type_45 rfl (lv_at hl 1 rfl) ?_
        refine lv_bipush (v := 8) hx hb dX2_type_46 (by decide) ?_
        refine lv_iload hx hb dX2_type_48 (lv_at hl 2 rfl) ?_
        refine lv_imul hx hb dX2_type_50 ?_
        refine lv_lushr (v := zLushr v1 ((8 : Int32) * v4)) hx hb dX2_type_51 rfl ?_
        refine lv_l2i hx hb dX2_type_52 rfl ?_
        refine lv_sipush (v := 255) hx hb dX2_type_53 (by decide) ?_
        refine lv_iand hx hb dX2_type_56 ?_
        obtain ⟨S_57, hf_57, hf⟩ := zB1_s hf
        obtain ⟨W_57, eW_57, hf⟩ := zL_e hf
        refine z_callX (w2 := (wX cy ad W_57)) C 1 (kX1_append l zq D (fun k => cy (k + 1)) (fun k => ad (k + 1)) ((((zLushr v1 ((8 : Int32) * v4))).toInt32) &&& (255 : Int32)) (x_text S) S_57 hf_57) gX2_type_X1_append rfl (by decide +kernel) ⟨by decide, by decide⟩ hI 1 rfl rfl [1, 2, 3, 4, 5, 6] [0, 7, 8, 9, 10, 11, 12, 13, 14, 15, 16] [0, 11, 12, 13, 14, 15, 16, 1, 2, 3, 4, 5, 6, 7, 8, 9, 10] [0, 1, 2, 3, 4] rfl rfl rfl rfl (by decide) rfl (by rw [eW_57]; rfl) rfl rfl hl.1 rfl (Nat.le_of_ble_eq_true rfl) dX2_type_57 ⟨by decide, by decide⟩ (st2 := []) rfl (fun H locs hI => ?_)
        refine lv_iinc (v := (v4 + (-1 : Int32))) (lv' := [(4, .int (v4 + (-1 : Int32))), (0, .ref (ad 0)), (1, .long v1)]) hx hb dX2_type_60 hl (k := 2) rfl rfl (by decide) rfl (fun ls hl => ?_)
        refine lv_goto (tgt := 36) hx hb dX2_type_63 (by decide) ?_
        exact ih v1 (v4 + (-1 : Int32)) W_57 _ _ _ hf hI (lv_sub hl [1, 2, 0] rfl)
  unfold fX2_type at hf
  refine lv_iload_n hx hb dX2_type_0 rfl (lv_at hl 2 rfl) ?_
  refine lv_iconst (v := 1) hx hb dX2_type_1 (by decide) ?_
  refine lv_icmp_lt (tgt := 11) hx hb dX2_type_2 (by decide) (fun c_2 => ?_) (fun c_2 => ?_)
  · replace hf := zIt c_2 hf
    refine lv_iconst (v := -1) hx hb dX2_type_11 (by decide) ?_
    obtain ⟨h1, h2⟩ := zP2 hf
    rw [hQ]
    exact z_iret C (by rw [h2]; exact hI) (by rw [h1]) dX2_type_12
  · replace hf := zIf c_2 hf
    refine lv_iload_n hx hb dX2_type_5 rfl (lv_at hl 2 rfl) ?_
    refine lv_bipush (v := 8) hx hb dX2_type_6 (by decide) ?_
    refine lv_icmp_le (tgt := 13) hx hb dX2_type_8 (by decide) (fun c_8 => ?_) (fun c_8 => ?_)
    · replace hf := zIt c_8 hf
      refine lv_aload_n hx hb dX2_type_13 rfl (lv_at hl 0 rfl) ?_
      refine va_get (D := D) (ci := 2) (v := .ref (ad 1)) (C := RX2) (T := TX2) (N := 13) hx hb hts hiX2 hown hK hI.1 0 rfl rfl 0 (by decide) (hts (.fieldLink RX2 12 "NoughtSums" "text" "LNoughtSums$Text;") (by decide +kernel)) (fun _ h9 => h9) rfl dX2_type_14 ?_
      refine va_get (D := D) (ci := 1) (v := .int (t_length (x_text S))) (C := RX1) (T := TX1) (N := 11) hx hb hts hiX1 hown hK hI.1 1 rfl rfl 1 (by decide) (hts (.fieldLink RX2 62 "NoughtSums$Text" "length" "I") (by decide +kernel)) (fun _ h9 => h9) rfl dX2_type_17 ?_
      refine lv_iload_n hx hb dX2_type_20 rfl (lv_at hl 2 rfl) ?_
      refine lv_iadd hx hb dX2_type_21 ?_
      refine lv_sipush (v := 400) hx hb dX2_type_22 (by decide) ?_
      refine lv_icmp_le (tgt := 31) hx hb dX2_type_25 (by decide) (fun c_25 => ?_) (fun c_25 => ?_)
      · replace hf := zIt c_25 hf
        refine lv_iload_n hx hb dX2_type_31 rfl (lv_at hl 2 rfl) ?_
        refine lv_iconst (v := 1) hx hb dX2_type_32 (by decide) ?_
        refine lv_isub hx hb dX2_type_33 ?_
        refine lv_istore (lv' := [(4, .int (a3 - (1 : Int32))), (0, .ref (ad 0)), (1, .long a1), (3, .int a3)]) hx hb dX2_type_34 hl (by decide) rfl (fun ls hl => ?_)
        exact hb36 zF a1 (a3 - (1 : Int32)) S _ _ _ hf hI (lv_sub hl [1, 2, 0] rfl)
      · replace hf := zIf c_25 hf
        refine lv_bipush (v := -3) hx hb dX2_type_28 (by decide) ?_
        obtain ⟨h1, h2⟩ := zP2 hf
        rw [hQ]
        exact z_iret C (by rw [h2]; exact hI) (by rw [h1]) dX2_type_30
    · replace hf := zIf c_8 hf
      refine lv_iconst (v := -1) hx hb dX2_type_11 (by decide) ?_
      obtain ⟨h1, h2⟩ := zP2 hf
      rw [hQ]
      exact z_iret C (by rw [h2]; exact hI) (by rw [h1]) dX2_type_12

def fX2_clear  (S : XS) : Option (Int32 × XS) :=
(zL (x_text_u S (t_length_u (x_text S) (0 : Int32))) (fun S_13 =>
some ((t_length (x_text S)), S_13)))
set_option maxHeartbeats 4000000 in
set_option maxRecDepth 100000 in
theorem kX2_clear (l : Launch) (zq : Nat → Nat) (D : va_G) (cy : Nat → ClassId) (ad : Nat → Nat)  (S S' : XS) (r : Int32) (hf : fX2_clear S = some (r, S')) : zMet l yX2_clear wsX2_clear 0 0 zq D (tX cy) (wX cy ad S) [.ref (ad 0)] (some (.int r)) (wX cy ad S') := by
  refine zMet.of cX2_clear 2 (some .int) (by decide) rfl (Nat.le_of_ble_eq_true rfl) ?_
  intro p e s m args below meth c A ls C hl hI
  have hl : lv_has ls 2 [(0, .ref (ad 0))] := hl
  have C : zC p s m args meth c cX2_clear 2 (some .int) RX2 wsX2_clear D (tX cy) zq A := C
  obtain ⟨hx, hb, hml, hown, hts, hret, hlk, hK, hX, hA⟩ := id C
  have hiX1 : ∀ w ∈ wsX10, w ∈ wsX2_clear := by decide +kernel
  have hiX2 : ∀ w ∈ wsX20, w ∈ wsX2_clear := by decide +kernel
  obtain ⟨Q, hQ⟩ : ∃ Q, Q = MQ below (zQ D (tX cy) (wX cy ad S') (some (.int r)) A) args s 0 0 A := ⟨_, rfl⟩
  rw [← hQ]
  unfold fX2_clear at hf
  refine lv_aload_n hx hb dX2_clear_0 rfl (lv_at hl 0 rfl) ?_
  refine va_get (D := D) (ci := 2) (v := .ref (ad 1)) (C := RX2) (T := TX2) (N := 13) hx hb hts hiX2 hown hK hI.1 0 rfl rfl 0 (by decide) (hts (.fieldLink RX2 12 "NoughtSums" "text" "LNoughtSums$Text;") (by decide +kernel)) (fun _ h9 => h9) rfl dX2_clear_1 ?_
  refine va_get (D := D) (ci := 1) (v := .int (t_length (x_text S))) (C := RX1) (T := TX1) (N := 11) hx hb hts hiX1 hown hK hI.1 1 rfl rfl 1 (by decide) (hts (.fieldLink RX2 62 "NoughtSums$Text" "length" "I") (by decide +kernel)) (fun _ h9 => h9) rfl dX2_clear_4 ?_
  refine lv_istore_n (lv' := [(1, .int (t_length (x_text S))), (0, .ref (ad 0))]) hx hb dX2_clear_7 rfl hl (by decide) rfl (fun ls hl => ?_)
  refine lv_aload_n hx hb dX2_clear_8 rfl (lv_at hl 1 rfl) ?_
  refine va_get (D := D) (ci := 2) (v := .ref (ad 1)) (C := RX2) (T := TX2) (N := 13) hx hb hts hiX2 hown hK hI.1 0 rfl rfl 0 (by decide) (hts (.fieldLink RX2 12 "NoughtSums" "text" "LNoughtSums$Text;") (by decide +kernel)) (fun _ h9 => h9) rfl dX2_clear_9 ?_
  refine lv_iconst (v := 0) hx hb dX2_clear_12 (by decide) ?_
  obtain ⟨S_13, eS_13, hf⟩ := zL_e hf
  refine z_put (D := D) (ci := 1) (v := .int (0 : Int32)) (ty := .int) (C := RX1) (T := TX1) (N := 11) (w2 := (wX cy ad S_13)) hx hb hts hiX1 tyX1 tyX1_ok nmX1 hown hK hI 1 rfl rfl 1 (by decide) (hts (.fieldLink RX2 62 "NoughtSums$Text" "length" "I") (by decide +kernel)) (fun _ h9 => h9) rfl (by decide +kernel) rfl rfl (Nat.le_of_ble_eq_true rfl) dX2_clear_13 (by rw [eS_13]; rfl) (fun H locs hI => ?_)
  refine lv_iload_n hx hb dX2_clear_16 rfl (lv_at hl 0 rfl) ?_
  obtain ⟨h1, h2⟩ := zP2 hf
  rw [hQ]
  exact z_iret C (by rw [h2]; exact hI) (by rw [h1]) dX2_clear_17

def fX2_dropProof  (S : XS) : Option XS :=
(zL (x_steps_u S (0 : Int32)) (fun S_2 =>
(zL (x_wrongStep_u S_2 (-9 : Int32)) (fun S_8 =>
some S_8))))
set_option maxHeartbeats 4000000 in
set_option maxRecDepth 100000 in
theorem kX2_dropProof (l : Launch) (zq : Nat → Nat) (D : va_G) (cy : Nat → ClassId) (ad : Nat → Nat)  (S S' : XS) (hf : fX2_dropProof S = some S') : zMet l yX2_dropProof wsX2_dropProof 0 0 zq D (tX cy) (wX cy ad S) [.ref (ad 0)] none (wX cy ad S') := by
  refine zMet.of cX2_dropProof 1 none (by decide) rfl (Nat.le_of_ble_eq_true rfl) ?_
  intro p e s m args below meth c A ls C hl hI
  have hl : lv_has ls 1 [(0, .ref (ad 0))] := hl
  have C : zC p s m args meth c cX2_dropProof 1 none RX2 wsX2_dropProof D (tX cy) zq A := C
  obtain ⟨hx, hb, hml, hown, hts, hret, hlk, hK, hX, hA⟩ := id C
  have hiX2 : ∀ w ∈ wsX20, w ∈ wsX2_dropProof := by decide +kernel
  obtain ⟨Q, hQ⟩ : ∃ Q, Q = MQ below (zQ D (tX cy) (wX cy ad S') none A) args s 0 0 A := ⟨_, rfl⟩
  rw [← hQ]
  unfold fX2_dropProof at hf
  refine lv_aload_n hx hb dX2_dropProof_0 rfl (lv_at hl 0 rfl) ?_
  refine lv_iconst (v := 0) hx hb dX2_dropProof_1 (by decide) ?_
  obtain ⟨S_2, eS_2, hf⟩ := zL_e hf
  refine z_put (D := D) (ci := 2) (v := .int (0 : Int32)) (ty := .int) (C := RX2) (T := TX2) (N := 13) (w2 := (wX cy ad S_2)) hx hb hts hiX2 tyX2 tyX2_ok nmX2 hown hK hI 0 rfl rfl 5 (by decide) (hts (.fieldLink RX2 30 "NoughtSums" "steps" "I") (by decide +kernel)) (fun _ h9 => h9) rfl (by decide +kernel) rfl rfl (Nat.le_of_ble_eq_true rfl) dX2_dropProof_2 (by rw [eS_2]; rfl) (fun H locs hI => ?_)
  refine lv_aload_n hx hb dX2_dropProof_5 rfl (lv_at hl 0 rfl) ?_
  refine lv_bipush (v := -9) hx hb dX2_dropProof_6 (by decide) ?_
  obtain ⟨S_8, eS_8, hf⟩ := zL_e hf
  refine z_put (D := D) (ci := 2) (v := .int (-9 : Int32)) (ty := .int) (C := RX2) (T := TX2) (N := 13) (w2 := (wX cy ad S_8)) hx hb hts hiX2 tyX2 tyX2_ok nmX2 hown hK hI 0 rfl rfl 6 (by decide) (hts (.fieldLink RX2 33 "NoughtSums" "wrongStep" "I") (by decide +kernel)) (fun _ h9 => h9) rfl (by decide +kernel) rfl rfl (Nat.le_of_ble_eq_true rfl) dX2_dropProof_8 (by rw [eS_8]; rfl) (fun H locs hI => ?_)
  have h2 := zP1 hf
  rw [hQ]
  exact z_vret C (by rw [h2]; exact hI) rfl dX2_dropProof_11

def fX2_appendLine (a1 : Int64) (S : XS) : Option XS :=
(if (x_lines S) < 0 then some S else
(if (32 : Int32) ≤ (x_lines S) then some S else
(zGI (x_lines S) 32
(zL (x_lineSums_u S (vp_updL (x_lineSums S) (x_lines S).toNatClampNeg a1)) (fun S_25 =>
(zB1 (fX2_valuesOf a1) (fun r_35 =>
(zGI (x_lines S_25) 32
(zL (x_lineValues_u S_25 (vp_updL (x_lineValues S_25) (x_lines S_25).toNatClampNeg r_35)) (fun S_38 =>
(zL (x_lines_u S_38 ((x_lines S_38) + (1 : Int32))) (fun S_46 =>
some S_46))))))))))))
set_option maxHeartbeats 4000000 in
set_option maxRecDepth 100000 in
theorem kX2_appendLine (l : Launch) (zq : Nat → Nat) (D : va_G) (cy : Nat → ClassId) (ad : Nat → Nat) (a1 : Int64) (S S' : XS) (hf : fX2_appendLine a1 S = some S') : zMet l yX2_appendLine wsX2_appendLine 1 24 zq D (tX cy) (wX cy ad S) [.ref (ad 0), .long a1] none (wX cy ad S') := by
  refine zMet.of cX2_appendLine 3 none (by decide) rfl (Nat.le_of_ble_eq_true rfl) ?_
  intro p e s m args below meth c A ls C hl hI
  have hl : lv_has ls 3 [(0, .ref (ad 0)), (1, .long a1)] := hl
  have C : zC p s m args meth c cX2_appendLine 3 none RX2 wsX2_appendLine D (tX cy) zq A := C
  obtain ⟨hx, hb, hml, hown, hts, hret, hlk, hK, hX, hA⟩ := id C
  have hiX2 : ∀ w ∈ wsX20, w ∈ wsX2_appendLine := by decide +kernel
  obtain ⟨Q, hQ⟩ : ∃ Q, Q = MQ below (zQ D (tX cy) (wX cy ad S') none A) args s 0 0 A := ⟨_, rfl⟩
  rw [← hQ]
  unfold fX2_appendLine at hf
  refine lv_aload_n hx hb dX2_appendLine_0 rfl (lv_at hl 0 rfl) ?_
  refine va_get (D := D) (ci := 2) (v := .int (x_lines S)) (C := RX2) (T := TX2) (N := 13) hx hb hts hiX2 hown hK hI.1 0 rfl rfl 3 (by decide) (hts (.fieldLink RX2 23 "NoughtSums" "lines" "I") (by decide +kernel)) (fun _ h9 => h9) rfl dX2_appendLine_1 ?_
  refine lv_if_lt (tgt := 49) hx hb dX2_appendLine_4 (by decide) (fun c_4 => ?_) (fun c_4 => ?_)
  · replace hf := zIt c_4 hf
    have h2 := zP1 hf
    rw [hQ]
    exact z_vret C (by rw [h2]; exact hI) rfl dX2_appendLine_49
  · replace hf := zIf c_4 hf
    refine lv_aload_n hx hb dX2_appendLine_7 rfl (lv_at hl 0 rfl) ?_
    refine va_get (D := D) (ci := 2) (v := .int (x_lines S)) (C := RX2) (T := TX2) (N := 13) hx hb hts hiX2 hown hK hI.1 0 rfl rfl 3 (by decide) (hts (.fieldLink RX2 23 "NoughtSums" "lines" "I") (by decide +kernel)) (fun _ h9 => h9) rfl dX2_appendLine_8 ?_
    refine lv_bipush (v := 32) hx hb dX2_appendLine_11 (by decide) ?_
    refine lv_icmp_ge (tgt := 49) hx hb dX2_appendLine_13 (by decide) (fun c_13 => ?_) (fun c_13 => ?_)
    · replace hf := zIt c_13 hf
      have h2 := zP1 hf
      rw [hQ]
      exact z_vret C (by rw [h2]; exact hI) rfl dX2_appendLine_49
    · replace hf := zIf c_13 hf
      refine lv_aload_n hx hb dX2_appendLine_16 rfl (lv_at hl 0 rfl) ?_
      refine va_get (D := D) (ci := 2) (v := .ref (ad 7)) (C := RX2) (T := TX2) (N := 13) hx hb hts hiX2 hown hK hI.1 0 rfl rfl 1 (by decide) (hts (.fieldLink RX2 16 "NoughtSums" "lineSums" "[J") (by decide +kernel)) (fun _ h9 => h9) rfl dX2_appendLine_17 ?_
      refine lv_aload_n hx hb dX2_appendLine_20 rfl (lv_at hl 0 rfl) ?_
      refine va_get (D := D) (ci := 2) (v := .int (x_lines S)) (C := RX2) (T := TX2) (N := 13) hx hb hts hiX2 hown hK hI.1 0 rfl rfl 3 (by decide) (hts (.fieldLink RX2 23 "NoughtSums" "lines" "I") (by decide +kernel)) (fun _ h9 => h9) rfl dX2_appendLine_21 ?_
      refine lv_lload_n hx hb dX2_appendLine_24 rfl (lv_at hl 1 rfl) ?_
      obtain ⟨g_25, hf⟩ := zGI_s hf
      obtain ⟨S_25, eS_25, hf⟩ := zL_e hf
      refine z_last (f := (x_lineSums S)) (w2 := (wX cy ad S_25)) hx hb hK hI 7 5 rfl rfl g_25 dX2_appendLine_25 (by rw [eS_25]; rfl) (fun H locs hI => ?_)
      refine lv_aload_n hx hb dX2_appendLine_26 rfl (lv_at hl 0 rfl) ?_
      refine va_get (D := D) (ci := 2) (v := .ref (ad 8)) (C := RX2) (T := TX2) (N := 13) hx hb hts hiX2 hown hK hI.1 0 rfl rfl 2 (by decide) (hts (.fieldLink RX2 20 "NoughtSums" "lineValues" "[J") (by decide +kernel)) (fun _ h9 => h9) rfl dX2_appendLine_27 ?_
      refine lv_aload_n hx hb dX2_appendLine_30 rfl (lv_at hl 0 rfl) ?_
      refine va_get (D := D) (ci := 2) (v := .int (x_lines S_25)) (C := RX2) (T := TX2) (N := 13) hx hb hts hiX2 hown hK hI.1 0 rfl rfl 3 (by decide) (hts (.fieldLink RX2 23 "NoughtSums" "lines" "I") (by decide +kernel)) (fun _ h9 => h9) rfl dX2_appendLine_31 ?_
      refine lv_lload_n hx hb dX2_appendLine_34 rfl (lv_at hl 1 rfl) ?_
      obtain ⟨r_35, hf_35, hf⟩ := zB1_s hf
      refine z_callS C 1 (kX2_valuesOf l zq D a1 r_35 hf_35) gX2_appendLine_X2_valuesOf rfl (by decide +kernel) ⟨by decide, by decide⟩ hI rfl hl.1 rfl (Nat.le_of_ble_eq_true rfl) dX2_appendLine_35 ⟨by decide, by decide⟩ (st2 := [.long r_35, .int (x_lines S_25), .ref (ad 8)]) rfl (fun H locs hI => ?_)
      obtain ⟨g_38, hf⟩ := zGI_s hf
      obtain ⟨S_38, eS_38, hf⟩ := zL_e hf
      refine z_last (f := (x_lineValues S_25)) (w2 := (wX cy ad S_38)) hx hb hK hI 8 6 rfl rfl g_38 dX2_appendLine_38 (by rw [eS_38]; rfl) (fun H locs hI => ?_)
      refine lv_aload_n hx hb dX2_appendLine_39 rfl (lv_at hl 0 rfl) ?_
      refine lv_dup hx hb dX2_appendLine_40 rfl ?_
      refine va_get (D := D) (ci := 2) (v := .int (x_lines S_38)) (C := RX2) (T := TX2) (N := 13) hx hb hts hiX2 hown hK hI.1 0 rfl rfl 3 (by decide) (hts (.fieldLink RX2 23 "NoughtSums" "lines" "I") (by decide +kernel)) (fun _ h9 => h9) rfl dX2_appendLine_41 ?_
      refine lv_iconst (v := 1) hx hb dX2_appendLine_44 (by decide) ?_
      refine lv_iadd hx hb dX2_appendLine_45 ?_
      obtain ⟨S_46, eS_46, hf⟩ := zL_e hf
      refine z_put (D := D) (ci := 2) (v := .int ((x_lines S_38) + (1 : Int32))) (ty := .int) (C := RX2) (T := TX2) (N := 13) (w2 := (wX cy ad S_46)) hx hb hts hiX2 tyX2 tyX2_ok nmX2 hown hK hI 0 rfl rfl 3 (by decide) (hts (.fieldLink RX2 23 "NoughtSums" "lines" "I") (by decide +kernel)) (fun _ h9 => h9) rfl (by decide +kernel) rfl rfl (Nat.le_of_ble_eq_true rfl) dX2_appendLine_46 (by rw [eS_46]; rfl) (fun H locs hI => ?_)
      have h2 := zP1 hf
      rw [hQ]
      exact z_vret C (by rw [h2]; exact hI) rfl dX2_appendLine_49

def fX2_given_b105 (S : XS) : Option (Int32 × XS) :=
(zL (x_givenLines_u S (x_lines S)) (fun S_110 =>
(zL (x_followingStands_u S_110 (0 : Int32)) (fun S_115 =>
(zL (x_grownStands_u S_115 (0 : Int32)) (fun S_120 =>
some ((x_givenLines S_120), S_120)))))))

def fX2_given_b44 (k44 : Int32 → XS → Option (Int32 × XS)) (v2 : Int32) (S : XS) : Option (Int32 × XS) :=
(if (t_told (x_text S)) ≤ v2 then fX2_given_b105 S else
(if (8 : Int32) ≤ v2 then fX2_given_b105 S else
(zGI v2 24
((zB1 (fX2_appendLine ((t_sums (x_text S)) v2.toNatClampNeg) S) (fun S_71 =>
(zGI v2 24
((zB1 (fX2_valuesOf ((t_sums (x_text S_71)) v2.toNatClampNeg)) (fun r_88 =>
(zL (x_commonWorlds_u S_71 ((x_commonWorlds S_71) &&& (r_88 ^^^ (-1 : Int64)))) (fun S_96 =>
k44 (v2 + (1 : Int32)) S_96))))))))))))
def fX2_given_b44L : Nat → Int32 → XS → Option (Int32 × XS)
  | 0, _, _ => none
  | n + 1, v2, S => fX2_given_b44 (fX2_given_b44L n) v2 S

def fX2_given  (S : XS) : Option (Int32 × XS) :=
(zB2 (fX1_readGiven (x_text S)) (fun r_4 S_4 =>
(zL (x_text_u S S_4) (fun W_4 =>
(if r_4 = (-1 : Int32) then (zL (x_text_u W_4 (t_length_u (x_text W_4) (0 : Int32))) (fun S_23 =>
(zL (x_lines_u S_23 (0 : Int32)) (fun S_28 =>
(zB1 (fX2_dropProof S_28) (fun S_32 =>
(zL (x_commonWorlds_u S_32 (-1 : Int64)) (fun S_39 =>
fX2_given_b44L zF (0 : Int32) S_39)))))))) else
some (((-10 : Int32) - r_4), W_4))))))
set_option maxHeartbeats 4000000 in
set_option maxRecDepth 100000 in
theorem kX2_given (l : Launch) (zq : Nat → Nat) (D : va_G) (cy : Nat → ClassId) (ad : Nat → Nat)  (S S' : XS) (r : Int32) (hf : fX2_given S = some (r, S')) : zMet l yX2_given wsX2_given 10 212 zq D (tX cy) (wX cy ad S) [.ref (ad 0)] (some (.int r)) (wX cy ad S') := by
  refine zMet.of cX2_given 3 (some .int) (by decide) rfl (Nat.le_of_ble_eq_true rfl) ?_
  intro p e s m args below meth c A ls C hl hI
  have hl : lv_has ls 3 [(0, .ref (ad 0))] := hl
  have C : zC p s m args meth c cX2_given 3 (some .int) RX2 wsX2_given D (tX cy) zq A := C
  obtain ⟨hx, hb, hml, hown, hts, hret, hlk, hK, hX, hA⟩ := id C
  have hiX1 : ∀ w ∈ wsX10, w ∈ wsX2_given := by decide +kernel
  have hiX2 : ∀ w ∈ wsX20, w ∈ wsX2_given := by decide +kernel
  obtain ⟨Q, hQ⟩ : ∃ Q, Q = MQ below (zQ D (tX cy) (wX cy ad S') (some (.int r)) A) args s 0 0 A := ⟨_, rfl⟩
  rw [← hQ]
  have hb105 : ∀ (S : XS) (H : Heap) (locs : List Loc) (ls : Array Slot), fX2_given_b105 S = some (r, S') → zI D A s H locs (wX cy ad S) → lv_has ls 3 [(0, .ref (ad 0))] → W p l e { frames := 10, cells := 0, slots := 0, locals := 212 } s m args below meth c H locs 0 0 Q (F0 m 105 ls []) := by
    intro S H locs ls hf hI hl
    unfold fX2_given_b105 at hf
    refine lv_aload_n hx hb dX2_given_105 rfl (lv_at hl 0 rfl) ?_
    refine lv_aload_n hx hb dX2_given_106 rfl (lv_at hl 0 rfl) ?_
    refine va_get (D := D) (ci := 2) (v := .int (x_lines S)) (C := RX2) (T := TX2) (N := 13) hx hb hts hiX2 hown hK hI.1 0 rfl rfl 3 (by decide) (hts (.fieldLink RX2 23 "NoughtSums" "lines" "I") (by decide +kernel)) (fun _ h9 => h9) rfl dX2_given_107 ?_
    obtain ⟨S_110, eS_110, hf⟩ := zL_e hf
    refine z_put (D := D) (ci := 2) (v := .int (x_lines S)) (ty := .int) (C := RX2) (T := TX2) (N := 13) (w2 := (wX cy ad S_110)) hx hb hts hiX2 tyX2 tyX2_ok nmX2 hown hK hI 0 rfl rfl 4 (by decide) (hts (.fieldLink RX2 27 "NoughtSums" "givenLines" "I") (by decide +kernel)) (fun _ h9 => h9) rfl (by decide +kernel) rfl rfl (Nat.le_of_ble_eq_true rfl) dX2_given_110 (by rw [eS_110]; rfl) (fun H locs hI => ?_)
    refine lv_aload_n hx hb dX2_given_113 rfl (lv_at hl 0 rfl) ?_
    refine lv_iconst (v := 0) hx hb dX2_given_114 (by decide) ?_
    obtain ⟨S_115, eS_115, hf⟩ := zL_e hf
    refine z_put (D := D) (ci := 2) (v := .int (0 : Int32)) (ty := .boolean) (C := RX2) (T := TX2) (N := 13) (w2 := (wX cy ad S_115)) hx hb hts hiX2 tyX2 tyX2_ok nmX2 hown hK hI 0 rfl rfl 10 (by decide) (hts (.fieldLink RX2 52 "NoughtSums" "followingStands" "Z") (by decide +kernel)) (fun _ h9 => h9) rfl (by decide +kernel) rfl rfl (Nat.le_of_ble_eq_true rfl) dX2_given_115 (by rw [eS_115]; rfl) (fun H locs hI => ?_)
    refine lv_aload_n hx hb dX2_given_118 rfl (lv_at hl 0 rfl) ?_
    refine lv_iconst (v := 0) hx hb dX2_given_119 (by decide) ?_
    obtain ⟨S_120, eS_120, hf⟩ := zL_e hf
    refine z_put (D := D) (ci := 2) (v := .int (0 : Int32)) (ty := .boolean) (C := RX2) (T := TX2) (N := 13) (w2 := (wX cy ad S_120)) hx hb hts hiX2 tyX2 tyX2_ok nmX2 hown hK hI 0 rfl rfl 12 (by decide) (hts (.fieldLink RX2 59 "NoughtSums" "grownStands" "Z") (by decide +kernel)) (fun _ h9 => h9) rfl (by decide +kernel) rfl rfl (Nat.le_of_ble_eq_true rfl) dX2_given_120 (by rw [eS_120]; rfl) (fun H locs hI => ?_)
    refine lv_aload_n hx hb dX2_given_123 rfl (lv_at hl 0 rfl) ?_
    refine va_get (D := D) (ci := 2) (v := .int (x_givenLines S_120)) (C := RX2) (T := TX2) (N := 13) hx hb hts hiX2 hown hK hI.1 0 rfl rfl 4 (by decide) (hts (.fieldLink RX2 27 "NoughtSums" "givenLines" "I") (by decide +kernel)) (fun _ h9 => h9) rfl dX2_given_124 ?_
    obtain ⟨h1, h2⟩ := zP2 hf
    rw [hQ]
    exact z_iret C (by rw [h2]; exact hI) (by rw [h1]) dX2_given_127
  have hb44 : ∀ (n : Nat), ∀ (v2 : Int32) (S : XS) (H : Heap) (locs : List Loc) (ls : Array Slot), fX2_given_b44L n v2 S = some (r, S') → zI D A s H locs (wX cy ad S) → lv_has ls 3 [(0, .ref (ad 0)), (2, .int v2)] → W p l e { frames := 10, cells := 0, slots := 0, locals := 212 } s m args below meth c H locs 0 0 Q (F0 m 44 ls []) := by
    intro n
    induction n with
    | zero => intro v2 S H locs ls hf; cases (show (none : Option (Int32 × XS)) = some (r, S') from hf)
    | succ n ih =>
      intro v2 S H locs ls hf hI hl
      have hf : fX2_given_b44 (fX2_given_b44L n) v2 S = some (r, S') := hf
      unfold fX2_given_b44 at hf
      refine lv_iload_n hx hb dX2_given_44 rfl (lv_at hl 1 rfl) ?_
      refine lv_aload_n hx hb dX2_given_45 rfl (lv_at hl 0 rfl) ?_
      refine va_get (D := D) (ci := 2) (v := .ref (ad 1)) (C := RX2) (T := TX2) (N := 13) hx hb hts hiX2 hown hK hI.1 0 rfl rfl 0 (by decide) (hts (.fieldLink RX2 12 "NoughtSums" "text" "LNoughtSums$Text;") (by decide +kernel)) (fun _ h9 => h9) rfl dX2_given_46 ?_
      refine va_get (D := D) (ci := 1) (v := .int (t_told (x_text S))) (C := RX1) (T := TX1) (N := 11) hx hb hts hiX1 hown hK hI.1 1 rfl rfl 6 (by decide) (hts (.fieldLink RX2 76 "NoughtSums$Text" "told" "I") (by decide +kernel)) (fun _ h9 => h9) rfl dX2_given_49 ?_
      refine lv_icmp_ge (tgt := 105) hx hb dX2_given_52 (by decide) (fun c_52 => ?_) (fun c_52 => ?_)
      · replace hf := zIt c_52 hf
        exact hb105 S _ _ _ hf hI (lv_sub hl [0] rfl)
      · replace hf := zIf c_52 hf
        refine lv_iload_n hx hb dX2_given_55 rfl (lv_at hl 1 rfl) ?_
        refine lv_bipush (v := 8) hx hb dX2_given_56 (by decide) ?_
        refine lv_icmp_ge (tgt := 105) hx hb dX2_given_58 (by decide) (fun c_58 => ?_) (fun c_58 => ?_)
        · replace hf := zIt c_58 hf
          exact hb105 S _ _ _ hf hI (lv_sub hl [0] rfl)
        · replace hf := zIf c_58 hf
          refine lv_aload_n hx hb dX2_given_61 rfl (lv_at hl 0 rfl) ?_
          refine lv_aload_n hx hb dX2_given_62 rfl (lv_at hl 0 rfl) ?_
          refine va_get (D := D) (ci := 2) (v := .ref (ad 1)) (C := RX2) (T := TX2) (N := 13) hx hb hts hiX2 hown hK hI.1 0 rfl rfl 0 (by decide) (hts (.fieldLink RX2 12 "NoughtSums" "text" "LNoughtSums$Text;") (by decide +kernel)) (fun _ h9 => h9) rfl dX2_given_63 ?_
          refine va_get (D := D) (ci := 1) (v := .ref (ad 3)) (C := RX1) (T := TX1) (N := 11) hx hb hts hiX1 hown hK hI.1 1 rfl rfl 7 (by decide) (hts (.fieldLink RX2 79 "NoughtSums$Text" "sums" "[J") (by decide +kernel)) (fun _ h9 => h9) rfl dX2_given_66 ?_
          refine lv_iload_n hx hb dX2_given_69 rfl (lv_at hl 1 rfl) ?_
          obtain ⟨g_70, hf⟩ := zGI_s hf
          refine va_lald (f := (t_sums (x_text S))) hx hb hK hI.1 3 1 rfl rfl g_70 dX2_given_70 ?_
          obtain ⟨S_71, hf_71, hf⟩ := zB1_s hf
          refine z_callV (w2 := (wX cy ad S_71)) C 1 (kX2_appendLine l zq D cy ad ((t_sums (x_text S)) v2.toNatClampNeg) S S_71 hf_71) gX2_given_X2_appendLine rfl (by decide +kernel) ⟨by decide, by decide⟩ hI 0 rfl rfl rfl hl.1 rfl (Nat.le_of_ble_eq_true rfl) dX2_given_71 ⟨by decide, by decide⟩ (st2 := []) rfl (fun H locs hI => ?_)
          refine lv_aload_n hx hb dX2_given_74 rfl (lv_at hl 0 rfl) ?_
          refine lv_dup hx hb dX2_given_75 rfl ?_
          refine va_get (D := D) (ci := 2) (v := .long (x_commonWorlds S_71)) (C := RX2) (T := TX2) (N := 13) hx hb hts hiX2 hown hK hI.1 0 rfl rfl 7 (by decide) (hts (.fieldLink RX2 38 "NoughtSums" "commonWorlds" "J") (by decide +kernel)) (fun _ h9 => h9) rfl dX2_given_76 ?_
          refine lv_aload_n hx hb dX2_given_79 rfl (lv_at hl 0 rfl) ?_
          refine va_get (D := D) (ci := 2) (v := .ref (ad 1)) (C := RX2) (T := TX2) (N := 13) hx hb hts hiX2 hown hK hI.1 0 rfl rfl 0 (by decide) (hts (.fieldLink RX2 12 "NoughtSums" "text" "LNoughtSums$Text;") (by decide +kernel)) (fun _ h9 => h9) rfl dX2_given_80 ?_
          refine va_get (D := D) (ci := 1) (v := .ref (ad 3)) (C := RX1) (T := TX1) (N := 11) hx hb hts hiX1 hown hK hI.1 1 rfl rfl 7 (by decide) (hts (.fieldLink RX2 79 "NoughtSums$Text" "sums" "[J") (by decide +kernel)) (fun _ h9 => h9) rfl dX2_given_83 ?_
          refine lv_iload_n hx hb dX2_given_86 rfl (lv_at hl 1 rfl) ?_
          obtain ⟨g_87, hf⟩ := zGI_s hf
          refine va_lald (f := (t_sums (x_text S_71))) hx hb hK hI.1 3 1 rfl rfl g_87 dX2_given_87 ?_
          obtain ⟨r_88, hf_88, hf⟩ := zB1_s hf
          refine z_callS C 1 (kX2_valuesOf l zq D ((t_sums (x_text S_71)) v2.toNatClampNeg) r_88 hf_88) gX2_given_X2_valuesOf rfl (by decide +kernel) ⟨by decide, by decide⟩ hI rfl hl.1 rfl (Nat.le_of_ble_eq_true rfl) dX2_given_88 ⟨by decide, by decide⟩ (st2 := [.long r_88, .long (x_commonWorlds S_71), .ref (ad 0)]) rfl (fun H locs hI => ?_)
          refine lv_ldc2 hx hb hown (hts (.constantLong RX2 36 (-1)) (by decide +kernel)) dX2_given_91 ?_
          refine lv_lxor hx hb dX2_given_94 ?_
          refine lv_land hx hb dX2_given_95 ?_
          obtain ⟨S_96, eS_96, hf⟩ := zL_e hf
          refine z_put (D := D) (ci := 2) (v := .long ((x_commonWorlds S_71) &&& (r_88 ^^^ (-1 : Int64)))) (ty := .long) (C := RX2) (T := TX2) (N := 13) (w2 := (wX cy ad S_96)) hx hb hts hiX2 tyX2 tyX2_ok nmX2 hown hK hI 0 rfl rfl 7 (by decide) (hts (.fieldLink RX2 38 "NoughtSums" "commonWorlds" "J") (by decide +kernel)) (fun _ h9 => h9) rfl (by decide +kernel) rfl rfl (Nat.le_of_ble_eq_true rfl) dX2_given_96 (by rw [eS_96]; rfl) (fun H locs hI => ?_)
          refine lv_iinc (v := (v2 + (1 : Int32))) (lv' := [(2, .int (v2 + (1 : Int32))), (0, .ref (ad 0))]) hx hb dX2_given_99 hl (k := 1) rfl rfl (by decide) rfl (fun ls hl => ?_)
          refine lv_goto (tgt := 44) hx hb dX2_given_102 (by decide) ?_
          exact ih (v2 + (1 : Int32)) S_96 _ _ _ hf hI (lv_sub hl [1, 0] rfl)
  unfold fX2_given at hf
  refine lv_aload_n hx hb dX2_given_0 rfl (lv_at hl 0 rfl) ?_
  refine va_get (D := D) (ci := 2) (v := .ref (ad 1)) (C := RX2) (T := TX2) (N := 13) hx hb hts hiX2 hown hK hI.1 0 rfl rfl 0 (by decide) (hts (.fieldLink RX2 12 "NoughtSums" "text" "LNoughtSums$Text;") (by decide +kernel)) (fun _ h9 => h9) rfl dX2_given_1 ?_
  obtain ⟨r_4, S_4, hf_4, hf⟩ := zB2_s hf
  obtain ⟨W_4, eW_4, hf⟩ := zL_e hf
  refine z_callX (w2 := (wX cy ad W_4)) C 0 (kX1_readGiven l zq D (fun k => cy (k + 1)) (fun k => ad (k + 1)) (x_text S) S_4 r_4 hf_4) gX2_given_X1_readGiven rfl (by decide +kernel) ⟨by decide, by decide⟩ hI 1 rfl rfl [1, 2, 3, 4, 5, 6] [0, 7, 8, 9, 10, 11, 12, 13, 14, 15, 16] [0, 11, 12, 13, 14, 15, 16, 1, 2, 3, 4, 5, 6, 7, 8, 9, 10] [0, 1, 2, 3, 4] rfl rfl rfl rfl (by decide) rfl (by rw [eW_4]; rfl) rfl rfl hl.1 rfl (Nat.le_of_ble_eq_true rfl) dX2_given_4 ⟨by decide, by decide⟩ (st2 := [.int r_4]) rfl (fun H locs hI => ?_)
  refine lv_istore_n (lv' := [(1, .int r_4), (0, .ref (ad 0))]) hx hb dX2_given_7 rfl hl (by decide) rfl (fun ls hl => ?_)
  refine lv_iload_n hx hb dX2_given_8 rfl (lv_at hl 0 rfl) ?_
  refine lv_iconst (v := -1) hx hb dX2_given_9 (by decide) ?_
  refine lv_icmp_eq (tgt := 18) hx hb dX2_given_10 (by decide) (fun c_10 => ?_) (fun c_10 => ?_)
  · replace hf := zIt c_10 hf
    refine lv_aload_n hx hb dX2_given_18 rfl (lv_at hl 1 rfl) ?_
    refine va_get (D := D) (ci := 2) (v := .ref (ad 1)) (C := RX2) (T := TX2) (N := 13) hx hb hts hiX2 hown hK hI.1 0 rfl rfl 0 (by decide) (hts (.fieldLink RX2 12 "NoughtSums" "text" "LNoughtSums$Text;") (by decide +kernel)) (fun _ h9 => h9) rfl dX2_given_19 ?_
    refine lv_iconst (v := 0) hx hb dX2_given_22 (by decide) ?_
    obtain ⟨S_23, eS_23, hf⟩ := zL_e hf
    refine z_put (D := D) (ci := 1) (v := .int (0 : Int32)) (ty := .int) (C := RX1) (T := TX1) (N := 11) (w2 := (wX cy ad S_23)) hx hb hts hiX1 tyX1 tyX1_ok nmX1 hown hK hI 1 rfl rfl 1 (by decide) (hts (.fieldLink RX2 62 "NoughtSums$Text" "length" "I") (by decide +kernel)) (fun _ h9 => h9) rfl (by decide +kernel) rfl rfl (Nat.le_of_ble_eq_true rfl) dX2_given_23 (by rw [eS_23]; rfl) (fun H locs hI => ?_)
    refine lv_aload_n hx hb dX2_given_26 rfl (lv_at hl 1 rfl) ?_
    refine lv_iconst (v := 0) hx hb dX2_given_27 (by decide) ?_
    obtain ⟨S_28, eS_28, hf⟩ := zL_e hf
    refine z_put (D := D) (ci := 2) (v := .int (0 : Int32)) (ty := .int) (C := RX2) (T := TX2) (N := 13) (w2 := (wX cy ad S_28)) hx hb hts hiX2 tyX2 tyX2_ok nmX2 hown hK hI 0 rfl rfl 3 (by decide) (hts (.fieldLink RX2 23 "NoughtSums" "lines" "I") (by decide +kernel)) (fun _ h9 => h9) rfl (by decide +kernel) rfl rfl (Nat.le_of_ble_eq_true rfl) dX2_given_28 (by rw [eS_28]; rfl) (fun H locs hI => ?_)
    refine lv_aload_n hx hb dX2_given_31 rfl (lv_at hl 1 rfl) ?_
    obtain ⟨S_32, hf_32, hf⟩ := zB1_s hf
    refine z_callV (w2 := (wX cy ad S_32)) C 0 (kX2_dropProof l zq D cy ad S_28 S_32 hf_32) gX2_given_X2_dropProof rfl (by decide +kernel) ⟨by decide, by decide⟩ hI 0 rfl rfl rfl hl.1 rfl (Nat.le_of_ble_eq_true rfl) dX2_given_32 ⟨by decide, by decide⟩ (st2 := []) rfl (fun H locs hI => ?_)
    refine lv_aload_n hx hb dX2_given_35 rfl (lv_at hl 1 rfl) ?_
    refine lv_ldc2 hx hb hown (hts (.constantLong RX2 36 (-1)) (by decide +kernel)) dX2_given_36 ?_
    obtain ⟨S_39, eS_39, hf⟩ := zL_e hf
    refine z_put (D := D) (ci := 2) (v := .long (-1 : Int64)) (ty := .long) (C := RX2) (T := TX2) (N := 13) (w2 := (wX cy ad S_39)) hx hb hts hiX2 tyX2 tyX2_ok nmX2 hown hK hI 0 rfl rfl 7 (by decide) (hts (.fieldLink RX2 38 "NoughtSums" "commonWorlds" "J") (by decide +kernel)) (fun _ h9 => h9) rfl (by decide +kernel) rfl rfl (Nat.le_of_ble_eq_true rfl) dX2_given_39 (by rw [eS_39]; rfl) (fun H locs hI => ?_)
    refine lv_iconst (v := 0) hx hb dX2_given_42 (by decide) ?_
    refine lv_istore_n (lv' := [(2, .int (0 : Int32)), (1, .int r_4), (0, .ref (ad 0))]) hx hb dX2_given_43 rfl hl (by decide) rfl (fun ls hl => ?_)
    exact hb44 zF (0 : Int32) S_39 _ _ _ hf hI (lv_sub hl [2, 0] rfl)
  · replace hf := zIf c_10 hf
    refine lv_bipush (v := -10) hx hb dX2_given_13 (by decide) ?_
    refine lv_iload_n hx hb dX2_given_15 rfl (lv_at hl 0 rfl) ?_
    refine lv_isub hx hb dX2_given_16 ?_
    obtain ⟨h1, h2⟩ := zP2 hf
    rw [hQ]
    exact z_iret C (by rw [h2]; exact hI) (by rw [h1]) dX2_given_17

def fX2_isLine (a1 : Int32) (S : XS) : Option (Int32 × XS) :=
(if a1 < 0 then some ((0 : Int32), S) else
(if (x_lines S) ≤ a1 then some ((0 : Int32), S) else
(if (32 : Int32) ≤ a1 then some ((0 : Int32), S) else
some ((1 : Int32), S))))
set_option maxHeartbeats 4000000 in
set_option maxRecDepth 100000 in
theorem kX2_isLine (l : Launch) (zq : Nat → Nat) (D : va_G) (cy : Nat → ClassId) (ad : Nat → Nat) (a1 : Int32) (S S' : XS) (r : Int32) (hf : fX2_isLine a1 S = some (r, S')) : zMet l yX2_isLine wsX2_isLine 0 0 zq D (tX cy) (wX cy ad S) [.ref (ad 0), .int a1] (some (.int r)) (wX cy ad S') := by
  refine zMet.of cX2_isLine 2 (some .boolean) (by decide) rfl (Nat.le_of_ble_eq_true rfl) ?_
  intro p e s m args below meth c A ls C hl hI
  have hl : lv_has ls 2 [(0, .ref (ad 0)), (1, .int a1)] := hl
  have C : zC p s m args meth c cX2_isLine 2 (some .boolean) RX2 wsX2_isLine D (tX cy) zq A := C
  obtain ⟨hx, hb, hml, hown, hts, hret, hlk, hK, hX, hA⟩ := id C
  have hiX2 : ∀ w ∈ wsX20, w ∈ wsX2_isLine := by decide +kernel
  obtain ⟨Q, hQ⟩ : ∃ Q, Q = MQ below (zQ D (tX cy) (wX cy ad S') (some (.int r)) A) args s 0 0 A := ⟨_, rfl⟩
  rw [← hQ]
  unfold fX2_isLine at hf
  refine lv_iload_n hx hb dX2_isLine_0 rfl (lv_at hl 1 rfl) ?_
  refine lv_if_lt (tgt := 22) hx hb dX2_isLine_1 (by decide) (fun c_1 => ?_) (fun c_1 => ?_)
  · replace hf := zIt c_1 hf
    refine lv_iconst (v := 0) hx hb dX2_isLine_22 (by decide) ?_
    obtain ⟨h1, h2⟩ := zP2 hf
    rw [hQ]
    exact z_zret C (by rw [h2]; exact hI) (by rw [h1]) rfl dX2_isLine_23
  · replace hf := zIf c_1 hf
    refine lv_iload_n hx hb dX2_isLine_4 rfl (lv_at hl 1 rfl) ?_
    refine lv_aload_n hx hb dX2_isLine_5 rfl (lv_at hl 0 rfl) ?_
    refine va_get (D := D) (ci := 2) (v := .int (x_lines S)) (C := RX2) (T := TX2) (N := 13) hx hb hts hiX2 hown hK hI.1 0 rfl rfl 3 (by decide) (hts (.fieldLink RX2 23 "NoughtSums" "lines" "I") (by decide +kernel)) (fun _ h9 => h9) rfl dX2_isLine_6 ?_
    refine lv_icmp_ge (tgt := 22) hx hb dX2_isLine_9 (by decide) (fun c_9 => ?_) (fun c_9 => ?_)
    · replace hf := zIt c_9 hf
      refine lv_iconst (v := 0) hx hb dX2_isLine_22 (by decide) ?_
      obtain ⟨h1, h2⟩ := zP2 hf
      rw [hQ]
      exact z_zret C (by rw [h2]; exact hI) (by rw [h1]) rfl dX2_isLine_23
    · replace hf := zIf c_9 hf
      refine lv_iload_n hx hb dX2_isLine_12 rfl (lv_at hl 1 rfl) ?_
      refine lv_bipush (v := 32) hx hb dX2_isLine_13 (by decide) ?_
      refine lv_icmp_ge (tgt := 22) hx hb dX2_isLine_15 (by decide) (fun c_15 => ?_) (fun c_15 => ?_)
      · replace hf := zIt c_15 hf
        refine lv_iconst (v := 0) hx hb dX2_isLine_22 (by decide) ?_
        obtain ⟨h1, h2⟩ := zP2 hf
        rw [hQ]
        exact z_zret C (by rw [h2]; exact hI) (by rw [h1]) rfl dX2_isLine_23
      · replace hf := zIf c_15 hf
        refine lv_iconst (v := 1) hx hb dX2_isLine_18 (by decide) ?_
        refine lv_goto (tgt := 23) hx hb dX2_isLine_19 (by decide) ?_
        obtain ⟨h1, h2⟩ := zP2 hf
        rw [hQ]
        exact z_zret C (by rw [h2]; exact hI) (by rw [h1]) rfl dX2_isLine_23

def fX2_sumOf (a1 : Int32) (S : XS) : Option (Int64 × XS) :=
(zB2 (fX2_isLine a1 S) (fun r_2 S_2 =>
(if r_2 = 0 then some ((0 : Int64), S_2) else
(zGI a1 32
(some (((x_lineSums S_2) a1.toNatClampNeg), S_2))))))
set_option maxHeartbeats 4000000 in
set_option maxRecDepth 100000 in
theorem kX2_sumOf (l : Launch) (zq : Nat → Nat) (D : va_G) (cy : Nat → ClassId) (ad : Nat → Nat) (a1 : Int32) (S S' : XS) (r : Int64) (hf : fX2_sumOf a1 S = some (r, S')) : zMet l yX2_sumOf wsX2_sumOf 1 21 zq D (tX cy) (wX cy ad S) [.ref (ad 0), .int a1] (some (.long r)) (wX cy ad S') := by
  refine zMet.of cX2_sumOf 2 (some .long) (by decide) rfl (Nat.le_of_ble_eq_true rfl) ?_
  intro p e s m args below meth c A ls C hl hI
  have hl : lv_has ls 2 [(0, .ref (ad 0)), (1, .int a1)] := hl
  have C : zC p s m args meth c cX2_sumOf 2 (some .long) RX2 wsX2_sumOf D (tX cy) zq A := C
  obtain ⟨hx, hb, hml, hown, hts, hret, hlk, hK, hX, hA⟩ := id C
  have hiX2 : ∀ w ∈ wsX20, w ∈ wsX2_sumOf := by decide +kernel
  obtain ⟨Q, hQ⟩ : ∃ Q, Q = MQ below (zQ D (tX cy) (wX cy ad S') (some (.long r)) A) args s 0 0 A := ⟨_, rfl⟩
  rw [← hQ]
  unfold fX2_sumOf at hf
  refine lv_aload_n hx hb dX2_sumOf_0 rfl (lv_at hl 0 rfl) ?_
  refine lv_iload_n hx hb dX2_sumOf_1 rfl (lv_at hl 1 rfl) ?_
  obtain ⟨r_2, S_2, hf_2, hf⟩ := zB2_s hf
  refine z_callV (w2 := (wX cy ad S_2)) C 1 (kX2_isLine l zq D cy ad a1 S S_2 r_2 hf_2) gX2_sumOf_X2_isLine rfl (by decide +kernel) ⟨by decide, by decide⟩ hI 0 rfl rfl rfl hl.1 rfl (Nat.le_of_ble_eq_true rfl) dX2_sumOf_2 ⟨by decide, by decide⟩ (st2 := [.int r_2]) rfl (fun H locs hI => ?_)
  refine lv_if_eq (tgt := 17) hx hb dX2_sumOf_5 (by decide) (fun c_5 => ?_) (fun c_5 => ?_)
  · replace hf := zIt c_5 hf
    refine lv_lconst (v := 0) hx hb dX2_sumOf_17 (by decide) ?_
    obtain ⟨h1, h2⟩ := zP2 hf
    rw [hQ]
    exact z_lret C (by rw [h2]; exact hI) (by rw [h1]) dX2_sumOf_18
  · replace hf := zIf c_5 hf
    refine lv_aload_n hx hb dX2_sumOf_8 rfl (lv_at hl 0 rfl) ?_
    refine va_get (D := D) (ci := 2) (v := .ref (ad 7)) (C := RX2) (T := TX2) (N := 13) hx hb hts hiX2 hown hK hI.1 0 rfl rfl 1 (by decide) (hts (.fieldLink RX2 16 "NoughtSums" "lineSums" "[J") (by decide +kernel)) (fun _ h9 => h9) rfl dX2_sumOf_9 ?_
    refine lv_iload_n hx hb dX2_sumOf_12 rfl (lv_at hl 1 rfl) ?_
    obtain ⟨g_13, hf⟩ := zGI_s hf
    refine va_lald (f := (x_lineSums S_2)) hx hb hK hI.1 7 5 rfl rfl g_13 dX2_sumOf_13 ?_
    refine lv_goto (tgt := 18) hx hb dX2_sumOf_14 (by decide) ?_
    obtain ⟨h1, h2⟩ := zP2 hf
    rw [hQ]
    exact z_lret C (by rw [h2]; exact hI) (by rw [h1]) dX2_sumOf_18

def fX2_sumOfStep (a1 : Int32) (S : XS) : Option (Int64 × XS) :=
(zGI a1 24
((if ((t_ops (x_text S)) a1.toNatClampNeg) = 1 then (zGI a1 24
((zB2 (fX2_sumOf ((t_firsts (x_text S)) a1.toNatClampNeg) S) (fun r_46 S_46 =>
(zGI a1 24
((zB2 (fX2_sumOf ((t_seconds (x_text S_46)) a1.toNatClampNeg) S_46) (fun r_59 S_59 =>
some ((r_46 ^^^ r_59), S_59))))))))) else
(if ((t_ops (x_text S)) a1.toNatClampNeg) = 2 then (zGI a1 24
((zB2 (fX2_sumOf ((t_firsts (x_text S)) a1.toNatClampNeg) S) (fun r_74 S_74 =>
(zGI a1 24
((zB1 (fX2_multiplied r_74 ((1 : Int64) <<< (((t_seconds (x_text S_74)) a1.toNatClampNeg).toInt64 &&& 63))) (fun r_88 =>
some (r_88, S_74))))))))) else
(if ((t_ops (x_text S)) a1.toNatClampNeg) = 3 then (zGI a1 24
((zB2 (fX2_sumOf ((t_firsts (x_text S)) a1.toNatClampNeg) S) (fun r_102 S_102 =>
(zGI a1 24
((zB2 (fX2_sumOf ((t_seconds (x_text S_102)) a1.toNatClampNeg) S_102) (fun r_115 S_115 =>
(zB1 (fX2_multiplied r_102 r_115) (fun r_118 =>
some (r_118, S_115))))))))))) else
(zGI a1 24
(some (((t_sums (x_text S)) a1.toNatClampNeg), S))))))))
set_option maxHeartbeats 4000000 in
set_option maxRecDepth 100000 in
theorem kX2_sumOfStep (l : Launch) (zq : Nat → Nat) (D : va_G) (cy : Nat → ClassId) (ad : Nat → Nat) (a1 : Int32) (S S' : XS) (r : Int64) (hf : fX2_sumOfStep a1 S = some (r, S')) : zMet l yX2_sumOfStep wsX2_sumOfStep 2 47 zq D (tX cy) (wX cy ad S) [.ref (ad 0), .int a1] (some (.long r)) (wX cy ad S') := by
  refine zMet.of cX2_sumOfStep 2 (some .long) (by decide) rfl (Nat.le_of_ble_eq_true rfl) ?_
  intro p e s m args below meth c A ls C hl hI
  have hl : lv_has ls 2 [(0, .ref (ad 0)), (1, .int a1)] := hl
  have C : zC p s m args meth c cX2_sumOfStep 2 (some .long) RX2 wsX2_sumOfStep D (tX cy) zq A := C
  obtain ⟨hx, hb, hml, hown, hts, hret, hlk, hK, hX, hA⟩ := id C
  have hiX1 : ∀ w ∈ wsX10, w ∈ wsX2_sumOfStep := by decide +kernel
  have hiX2 : ∀ w ∈ wsX20, w ∈ wsX2_sumOfStep := by decide +kernel
  obtain ⟨Q, hQ⟩ : ∃ Q, Q = MQ below (zQ D (tX cy) (wX cy ad S') (some (.long r)) A) args s 0 0 A := ⟨_, rfl⟩
  rw [← hQ]
  unfold fX2_sumOfStep at hf
  refine lv_aload_n hx hb dX2_sumOfStep_0 rfl (lv_at hl 0 rfl) ?_
  refine va_get (D := D) (ci := 2) (v := .ref (ad 1)) (C := RX2) (T := TX2) (N := 13) hx hb hts hiX2 hown hK hI.1 0 rfl rfl 0 (by decide) (hts (.fieldLink RX2 12 "NoughtSums" "text" "LNoughtSums$Text;") (by decide +kernel)) (fun _ h9 => h9) rfl dX2_sumOfStep_1 ?_
  refine va_get (D := D) (ci := 1) (v := .ref (ad 4)) (C := RX1) (T := TX1) (N := 11) hx hb hts hiX1 hown hK hI.1 1 rfl rfl 8 (by decide) (hts (.fieldLink RX2 177 "NoughtSums$Text" "ops" "[I") (by decide +kernel)) (fun _ h9 => h9) rfl dX2_sumOfStep_4 ?_
  refine lv_iload_n hx hb dX2_sumOfStep_7 rfl (lv_at hl 1 rfl) ?_
  obtain ⟨g_8, hf⟩ := zGI_s hf
  refine va_iald (f := (t_ops (x_text S))) hx hb hK hI.1 4 2 rfl rfl g_8 dX2_sumOfStep_8 ?_
  by_cases c_9_1 : ((t_ops (x_text S)) a1.toNatClampNeg) = 1
  · replace hf := zIt c_9_1 hf
    refine lv_tableIn (tgt := 36) (off := 27) hx hb dX2_sumOfStep_9 (by rw [c_9_1]; decide) (by rw [c_9_1]; decide) (by rw [c_9_1]; rfl) (by decide) ?_
    refine lv_aload_n hx hb dX2_sumOfStep_36 rfl (lv_at hl 0 rfl) ?_
    refine lv_aload_n hx hb dX2_sumOfStep_37 rfl (lv_at hl 0 rfl) ?_
    refine va_get (D := D) (ci := 2) (v := .ref (ad 1)) (C := RX2) (T := TX2) (N := 13) hx hb hts hiX2 hown hK hI.1 0 rfl rfl 0 (by decide) (hts (.fieldLink RX2 12 "NoughtSums" "text" "LNoughtSums$Text;") (by decide +kernel)) (fun _ h9 => h9) rfl dX2_sumOfStep_38 ?_
    refine va_get (D := D) (ci := 1) (v := .ref (ad 5)) (C := RX1) (T := TX1) (N := 11) hx hb hts hiX1 hown hK hI.1 1 rfl rfl 9 (by decide) (hts (.fieldLink RX2 180 "NoughtSums$Text" "firsts" "[I") (by decide +kernel)) (fun _ h9 => h9) rfl dX2_sumOfStep_41 ?_
    refine lv_iload_n hx hb dX2_sumOfStep_44 rfl (lv_at hl 1 rfl) ?_
    obtain ⟨g_45, hf⟩ := zGI_s hf
    refine va_iald (f := (t_firsts (x_text S))) hx hb hK hI.1 5 3 rfl rfl g_45 dX2_sumOfStep_45 ?_
    obtain ⟨r_46, S_46, hf_46, hf⟩ := zB2_s hf
    refine z_callV (w2 := (wX cy ad S_46)) C 1 (kX2_sumOf l zq D cy ad ((t_firsts (x_text S)) a1.toNatClampNeg) S S_46 r_46 hf_46) gX2_sumOfStep_X2_sumOf rfl (by decide +kernel) ⟨by decide, by decide⟩ hI 0 rfl rfl rfl hl.1 rfl (Nat.le_of_ble_eq_true rfl) dX2_sumOfStep_46 ⟨by decide, by decide⟩ (st2 := [.long r_46]) rfl (fun H locs hI => ?_)
    refine lv_aload_n hx hb dX2_sumOfStep_49 rfl (lv_at hl 0 rfl) ?_
    refine lv_aload_n hx hb dX2_sumOfStep_50 rfl (lv_at hl 0 rfl) ?_
    refine va_get (D := D) (ci := 2) (v := .ref (ad 1)) (C := RX2) (T := TX2) (N := 13) hx hb hts hiX2 hown hK hI.1 0 rfl rfl 0 (by decide) (hts (.fieldLink RX2 12 "NoughtSums" "text" "LNoughtSums$Text;") (by decide +kernel)) (fun _ h9 => h9) rfl dX2_sumOfStep_51 ?_
    refine va_get (D := D) (ci := 1) (v := .ref (ad 6)) (C := RX1) (T := TX1) (N := 11) hx hb hts hiX1 hown hK hI.1 1 rfl rfl 10 (by decide) (hts (.fieldLink RX2 183 "NoughtSums$Text" "seconds" "[I") (by decide +kernel)) (fun _ h9 => h9) rfl dX2_sumOfStep_54 ?_
    refine lv_iload_n hx hb dX2_sumOfStep_57 rfl (lv_at hl 1 rfl) ?_
    obtain ⟨g_58, hf⟩ := zGI_s hf
    refine va_iald (f := (t_seconds (x_text S_46))) hx hb hK hI.1 6 4 rfl rfl g_58 dX2_sumOfStep_58 ?_
    obtain ⟨r_59, S_59, hf_59, hf⟩ := zB2_s hf
    refine z_callV (w2 := (wX cy ad S_59)) C 1 (kX2_sumOf l zq D cy ad ((t_seconds (x_text S_46)) a1.toNatClampNeg) S_46 S_59 r_59 hf_59) gX2_sumOfStep_X2_sumOf rfl (by decide +kernel) ⟨by decide, by decide⟩ hI 0 rfl rfl rfl hl.1 rfl (Nat.le_of_ble_eq_true rfl) dX2_sumOfStep_59 ⟨by decide, by decide⟩ (st2 := [.long r_59, .long r_46]) rfl (fun H locs hI => ?_)
    refine lv_lxor hx hb dX2_sumOfStep_62 ?_
    obtain ⟨h1, h2⟩ := zP2 hf
    rw [hQ]
    exact z_lret C (by rw [h2]; exact hI) (by rw [h1]) dX2_sumOfStep_63
  replace hf := zIf c_9_1 hf
  by_cases c_9_2 : ((t_ops (x_text S)) a1.toNatClampNeg) = 2
  · replace hf := zIt c_9_2 hf
    refine lv_tableIn (tgt := 64) (off := 55) hx hb dX2_sumOfStep_9 (by rw [c_9_2]; decide) (by rw [c_9_2]; decide) (by rw [c_9_2]; rfl) (by decide) ?_
    refine lv_aload_n hx hb dX2_sumOfStep_64 rfl (lv_at hl 0 rfl) ?_
    refine lv_aload_n hx hb dX2_sumOfStep_65 rfl (lv_at hl 0 rfl) ?_
    refine va_get (D := D) (ci := 2) (v := .ref (ad 1)) (C := RX2) (T := TX2) (N := 13) hx hb hts hiX2 hown hK hI.1 0 rfl rfl 0 (by decide) (hts (.fieldLink RX2 12 "NoughtSums" "text" "LNoughtSums$Text;") (by decide +kernel)) (fun _ h9 => h9) rfl dX2_sumOfStep_66 ?_
    refine va_get (D := D) (ci := 1) (v := .ref (ad 5)) (C := RX1) (T := TX1) (N := 11) hx hb hts hiX1 hown hK hI.1 1 rfl rfl 9 (by decide) (hts (.fieldLink RX2 180 "NoughtSums$Text" "firsts" "[I") (by decide +kernel)) (fun _ h9 => h9) rfl dX2_sumOfStep_69 ?_
    refine lv_iload_n hx hb dX2_sumOfStep_72 rfl (lv_at hl 1 rfl) ?_
    obtain ⟨g_73, hf⟩ := zGI_s hf
    refine va_iald (f := (t_firsts (x_text S))) hx hb hK hI.1 5 3 rfl rfl g_73 dX2_sumOfStep_73 ?_
    obtain ⟨r_74, S_74, hf_74, hf⟩ := zB2_s hf
    refine z_callV (w2 := (wX cy ad S_74)) C 1 (kX2_sumOf l zq D cy ad ((t_firsts (x_text S)) a1.toNatClampNeg) S S_74 r_74 hf_74) gX2_sumOfStep_X2_sumOf rfl (by decide +kernel) ⟨by decide, by decide⟩ hI 0 rfl rfl rfl hl.1 rfl (Nat.le_of_ble_eq_true rfl) dX2_sumOfStep_74 ⟨by decide, by decide⟩ (st2 := [.long r_74]) rfl (fun H locs hI => ?_)
    refine lv_lconst (v := 1) hx hb dX2_sumOfStep_77 (by decide) ?_
    refine lv_aload_n hx hb dX2_sumOfStep_78 rfl (lv_at hl 0 rfl) ?_
    refine va_get (D := D) (ci := 2) (v := .ref (ad 1)) (C := RX2) (T := TX2) (N := 13) hx hb hts hiX2 hown hK hI.1 0 rfl rfl 0 (by decide) (hts (.fieldLink RX2 12 "NoughtSums" "text" "LNoughtSums$Text;") (by decide +kernel)) (fun _ h9 => h9) rfl dX2_sumOfStep_79 ?_
    refine va_get (D := D) (ci := 1) (v := .ref (ad 6)) (C := RX1) (T := TX1) (N := 11) hx hb hts hiX1 hown hK hI.1 1 rfl rfl 10 (by decide) (hts (.fieldLink RX2 183 "NoughtSums$Text" "seconds" "[I") (by decide +kernel)) (fun _ h9 => h9) rfl dX2_sumOfStep_82 ?_
    refine lv_iload_n hx hb dX2_sumOfStep_85 rfl (lv_at hl 1 rfl) ?_
    obtain ⟨g_86, hf⟩ := zGI_s hf
    refine va_iald (f := (t_seconds (x_text S_74))) hx hb hK hI.1 6 4 rfl rfl g_86 dX2_sumOfStep_86 ?_
    refine lv_lshl hx hb dX2_sumOfStep_87 rfl ?_
    obtain ⟨r_88, hf_88, hf⟩ := zB1_s hf
    refine z_callS C 2 (kX2_multiplied l zq D r_74 ((1 : Int64) <<< (((t_seconds (x_text S_74)) a1.toNatClampNeg).toInt64 &&& 63)) r_88 hf_88) gX2_sumOfStep_X2_multiplied rfl (by decide +kernel) ⟨by decide, by decide⟩ hI rfl hl.1 rfl (Nat.le_of_ble_eq_true rfl) dX2_sumOfStep_88 ⟨by decide, by decide⟩ (st2 := [.long r_88]) rfl (fun H locs hI => ?_)
    obtain ⟨h1, h2⟩ := zP2 hf
    rw [hQ]
    exact z_lret C (by rw [h2]; exact hI) (by rw [h1]) dX2_sumOfStep_91
  replace hf := zIf c_9_2 hf
  by_cases c_9_3 : ((t_ops (x_text S)) a1.toNatClampNeg) = 3
  · replace hf := zIt c_9_3 hf
    refine lv_tableIn (tgt := 92) (off := 83) hx hb dX2_sumOfStep_9 (by rw [c_9_3]; decide) (by rw [c_9_3]; decide) (by rw [c_9_3]; rfl) (by decide) ?_
    refine lv_aload_n hx hb dX2_sumOfStep_92 rfl (lv_at hl 0 rfl) ?_
    refine lv_aload_n hx hb dX2_sumOfStep_93 rfl (lv_at hl 0 rfl) ?_
    refine va_get (D := D) (ci := 2) (v := .ref (ad 1)) (C := RX2) (T := TX2) (N := 13) hx hb hts hiX2 hown hK hI.1 0 rfl rfl 0 (by decide) (hts (.fieldLink RX2 12 "NoughtSums" "text" "LNoughtSums$Text;") (by decide +kernel)) (fun _ h9 => h9) rfl dX2_sumOfStep_94 ?_
    refine va_get (D := D) (ci := 1) (v := .ref (ad 5)) (C := RX1) (T := TX1) (N := 11) hx hb hts hiX1 hown hK hI.1 1 rfl rfl 9 (by decide) (hts (.fieldLink RX2 180 "NoughtSums$Text" "firsts" "[I") (by decide +kernel)) (fun _ h9 => h9) rfl dX2_sumOfStep_97 ?_
    refine lv_iload_n hx hb dX2_sumOfStep_100 rfl (lv_at hl 1 rfl) ?_
    obtain ⟨g_101, hf⟩ := zGI_s hf
    refine va_iald (f := (t_firsts (x_text S))) hx hb hK hI.1 5 3 rfl rfl g_101 dX2_sumOfStep_101 ?_
    obtain ⟨r_102, S_102, hf_102, hf⟩ := zB2_s hf
    refine z_callV (w2 := (wX cy ad S_102)) C 1 (kX2_sumOf l zq D cy ad ((t_firsts (x_text S)) a1.toNatClampNeg) S S_102 r_102 hf_102) gX2_sumOfStep_X2_sumOf rfl (by decide +kernel) ⟨by decide, by decide⟩ hI 0 rfl rfl rfl hl.1 rfl (Nat.le_of_ble_eq_true rfl) dX2_sumOfStep_102 ⟨by decide, by decide⟩ (st2 := [.long r_102]) rfl (fun H locs hI => ?_)
    refine lv_aload_n hx hb dX2_sumOfStep_105 rfl (lv_at hl 0 rfl) ?_
    refine lv_aload_n hx hb dX2_sumOfStep_106 rfl (lv_at hl 0 rfl) ?_
    refine va_get (D := D) (ci := 2) (v := .ref (ad 1)) (C := RX2) (T := TX2) (N := 13) hx hb hts hiX2 hown hK hI.1 0 rfl rfl 0 (by decide) (hts (.fieldLink RX2 12 "NoughtSums" "text" "LNoughtSums$Text;") (by decide +kernel)) (fun _ h9 => h9) rfl dX2_sumOfStep_107 ?_
    refine va_get (D := D) (ci := 1) (v := .ref (ad 6)) (C := RX1) (T := TX1) (N := 11) hx hb hts hiX1 hown hK hI.1 1 rfl rfl 10 (by decide) (hts (.fieldLink RX2 183 "NoughtSums$Text" "seconds" "[I") (by decide +kernel)) (fun _ h9 => h9) rfl dX2_sumOfStep_110 ?_
    refine lv_iload_n hx hb dX2_sumOfStep_113 rfl (lv_at hl 1 rfl) ?_
    obtain ⟨g_114, hf⟩ := zGI_s hf
    refine va_iald (f := (t_seconds (x_text S_102))) hx hb hK hI.1 6 4 rfl rfl g_114 dX2_sumOfStep_114 ?_
    obtain ⟨r_115, S_115, hf_115, hf⟩ := zB2_s hf
    refine z_callV (w2 := (wX cy ad S_115)) C 1 (kX2_sumOf l zq D cy ad ((t_seconds (x_text S_102)) a1.toNatClampNeg) S_102 S_115 r_115 hf_115) gX2_sumOfStep_X2_sumOf rfl (by decide +kernel) ⟨by decide, by decide⟩ hI 0 rfl rfl rfl hl.1 rfl (Nat.le_of_ble_eq_true rfl) dX2_sumOfStep_115 ⟨by decide, by decide⟩ (st2 := [.long r_115, .long r_102]) rfl (fun H locs hI => ?_)
    obtain ⟨r_118, hf_118, hf⟩ := zB1_s hf
    refine z_callS C 2 (kX2_multiplied l zq D r_102 r_115 r_118 hf_118) gX2_sumOfStep_X2_multiplied rfl (by decide +kernel) ⟨by decide, by decide⟩ hI rfl hl.1 rfl (Nat.le_of_ble_eq_true rfl) dX2_sumOfStep_118 ⟨by decide, by decide⟩ (st2 := [.long r_118]) rfl (fun H locs hI => ?_)
    obtain ⟨h1, h2⟩ := zP2 hf
    rw [hQ]
    exact z_lret C (by rw [h2]; exact hI) (by rw [h1]) dX2_sumOfStep_121
  replace hf := zIf c_9_3 hf
  refine lv_tableOut (tgt := 122) hx hb dX2_sumOfStep_9 (zTab ((t_ops (x_text S)) a1.toNatClampNeg) 1 3 (fun k h1 h2 => ?_)) (by decide) ?_
  · rcases (show k = 1 ∨ k = 2 ∨ k = 3 by omega) with rfl | rfl | rfl
    · exact c_9_1
    · exact c_9_2
    · exact c_9_3
  refine lv_aload_n hx hb dX2_sumOfStep_122 rfl (lv_at hl 0 rfl) ?_
  refine va_get (D := D) (ci := 2) (v := .ref (ad 1)) (C := RX2) (T := TX2) (N := 13) hx hb hts hiX2 hown hK hI.1 0 rfl rfl 0 (by decide) (hts (.fieldLink RX2 12 "NoughtSums" "text" "LNoughtSums$Text;") (by decide +kernel)) (fun _ h9 => h9) rfl dX2_sumOfStep_123 ?_
  refine va_get (D := D) (ci := 1) (v := .ref (ad 3)) (C := RX1) (T := TX1) (N := 11) hx hb hts hiX1 hown hK hI.1 1 rfl rfl 7 (by decide) (hts (.fieldLink RX2 79 "NoughtSums$Text" "sums" "[J") (by decide +kernel)) (fun _ h9 => h9) rfl dX2_sumOfStep_126 ?_
  refine lv_iload_n hx hb dX2_sumOfStep_129 rfl (lv_at hl 1 rfl) ?_
  obtain ⟨g_130, hf⟩ := zGI_s hf
  refine va_lald (f := (t_sums (x_text S))) hx hb hK hI.1 3 1 rfl rfl g_130 dX2_sumOfStep_130 ?_
  obtain ⟨h1, h2⟩ := zP2 hf
  rw [hQ]
  exact z_lret C (by rw [h2]; exact hI) (by rw [h1]) dX2_sumOfStep_131

def fX2_carryOutSteps_b67 (k2 : Int32 → XS → Option XS) (v1 : Int32) (v2 : Int64) (S : XS) : Option XS :=
(zB1 (fX2_appendLine v2 S) (fun S_69 =>
k2 (v1 + (1 : Int32)) S_69))

def fX2_carryOutSteps_b40 (k2 : Int32 → XS → Option XS) (v1 : Int32) (v2 : Int64) (u0 : Int32) (S : XS) : Option XS :=
(if u0 = 0 then fX2_carryOutSteps_b67 k2 v1 v2 S else
(zB1 (fX2_valuesOf v2) (fun r_48 =>
(if (lg_cmp (r_48 &&& (x_commonWorlds S)) (0 : Int64)) = 0 then fX2_carryOutSteps_b67 k2 v1 v2 S else
(zL (x_wrongStep_u S v1) (fun S_63 =>
some S_63))))))

def fX2_carryOutSteps_b2 (k2 : Int32 → XS → Option XS) (v1 : Int32) (S : XS) : Option XS :=
(if (x_steps S) ≤ v1 then some S else
(if (24 : Int32) ≤ v1 then some S else
(zB2 (fX2_sumOfStep v1 S) (fun r_18 S_18 =>
(zGI v1 24
((if ((t_ops (x_text S_18)) v1.toNatClampNeg) = (4 : Int32) then fX2_carryOutSteps_b40 k2 v1 r_18 (1 : Int32) S_18 else
fX2_carryOutSteps_b40 k2 v1 r_18 (0 : Int32) S_18)))))))
def fX2_carryOutSteps_b2L : Nat → Int32 → XS → Option XS
  | 0, _, _ => none
  | n + 1, v1, S => fX2_carryOutSteps_b2 (fX2_carryOutSteps_b2L n) v1 S

def fX2_carryOutSteps  (S : XS) : Option XS :=
fX2_carryOutSteps_b2L zF (0 : Int32) S
set_option maxHeartbeats 4000000 in
set_option maxRecDepth 100000 in
theorem kX2_carryOutSteps (l : Launch) (zq : Nat → Nat) (D : va_G) (cy : Nat → ClassId) (ad : Nat → Nat)  (S S' : XS) (hf : fX2_carryOutSteps S = some S') : zMet l yX2_carryOutSteps wsX2_carryOutSteps 3 68 zq D (tX cy) (wX cy ad S) [.ref (ad 0)] none (wX cy ad S') := by
  refine zMet.of cX2_carryOutSteps 5 none (by decide) rfl (Nat.le_of_ble_eq_true rfl) ?_
  intro p e s m args below meth c A ls C hl hI
  have hl : lv_has ls 5 [(0, .ref (ad 0))] := hl
  have C : zC p s m args meth c cX2_carryOutSteps 5 none RX2 wsX2_carryOutSteps D (tX cy) zq A := C
  obtain ⟨hx, hb, hml, hown, hts, hret, hlk, hK, hX, hA⟩ := id C
  have hiX1 : ∀ w ∈ wsX10, w ∈ wsX2_carryOutSteps := by decide +kernel
  have hiX2 : ∀ w ∈ wsX20, w ∈ wsX2_carryOutSteps := by decide +kernel
  obtain ⟨Q, hQ⟩ : ∃ Q, Q = MQ below (zQ D (tX cy) (wX cy ad S') none A) args s 0 0 A := ⟨_, rfl⟩
  rw [← hQ]
  have hb67 : ∀ (k2 : Int32 → XS → Option XS) (hk2 : ∀ (v1 : Int32) (S : XS) (H : Heap) (locs : List Loc) (ls : Array Slot), k2 v1 S = some S' → zI D A s H locs (wX cy ad S) → lv_has ls 5 [(0, .ref (ad 0)), (1, .int v1)] → W p l e { frames := 3, cells := 0, slots := 0, locals := 68 } s m args below meth c H locs 0 0 Q (F0 m 2 ls [])), ∀ (v1 : Int32) (v2 : Int64) (S : XS) (H : Heap) (locs : List Loc) (ls : Array Slot), fX2_carryOutSteps_b67 k2 v1 v2 S = some S' → zI D A s H locs (wX cy ad S) → lv_has ls 5 [(0, .ref (ad 0)), (1, .int v1), (2, .long v2)] → W p l e { frames := 3, cells := 0, slots := 0, locals := 68 } s m args below meth c H locs 0 0 Q (F0 m 67 ls []) := by
    intro k2 hk2 v1 v2 S H locs ls hf hI hl
    unfold fX2_carryOutSteps_b67 at hf
    refine lv_aload_n hx hb dX2_carryOutSteps_67 rfl (lv_at hl 0 rfl) ?_
    refine lv_lload_n hx hb dX2_carryOutSteps_68 rfl (lv_at hl 2 rfl) ?_
    obtain ⟨S_69, hf_69, hf⟩ := zB1_s hf
    refine z_callV (w2 := (wX cy ad S_69)) C 1 (kX2_appendLine l zq D cy ad v2 S S_69 hf_69) gX2_carryOutSteps_X2_appendLine rfl (by decide +kernel) ⟨by decide, by decide⟩ hI 0 rfl rfl rfl hl.1 rfl (Nat.le_of_ble_eq_true rfl) dX2_carryOutSteps_69 ⟨by decide, by decide⟩ (st2 := []) rfl (fun H locs hI => ?_)
    refine lv_iinc (v := (v1 + (1 : Int32))) (lv' := [(1, .int (v1 + (1 : Int32))), (0, .ref (ad 0)), (2, .long v2)]) hx hb dX2_carryOutSteps_72 hl (k := 1) rfl rfl (by decide) rfl (fun ls hl => ?_)
    refine lv_goto (tgt := 2) hx hb dX2_carryOutSteps_75 (by decide) ?_
    exact hk2 (v1 + (1 : Int32)) S_69 _ _ _ hf hI (lv_sub hl [1, 0] rfl)
  have hb40 : ∀ (k2 : Int32 → XS → Option XS) (hk2 : ∀ (v1 : Int32) (S : XS) (H : Heap) (locs : List Loc) (ls : Array Slot), k2 v1 S = some S' → zI D A s H locs (wX cy ad S) → lv_has ls 5 [(0, .ref (ad 0)), (1, .int v1)] → W p l e { frames := 3, cells := 0, slots := 0, locals := 68 } s m args below meth c H locs 0 0 Q (F0 m 2 ls [])), ∀ (v1 : Int32) (v2 : Int64) (u0 : Int32) (S : XS) (H : Heap) (locs : List Loc) (ls : Array Slot), fX2_carryOutSteps_b40 k2 v1 v2 u0 S = some S' → zI D A s H locs (wX cy ad S) → lv_has ls 5 [(0, .ref (ad 0)), (1, .int v1), (2, .long v2)] → W p l e { frames := 3, cells := 0, slots := 0, locals := 68 } s m args below meth c H locs 0 0 Q (F0 m 40 ls [.int u0]) := by
    intro k2 hk2 v1 v2 u0 S H locs ls hf hI hl
    unfold fX2_carryOutSteps_b40 at hf
    refine lv_istore (lv' := [(4, .int u0), (0, .ref (ad 0)), (1, .int v1), (2, .long v2)]) hx hb dX2_carryOutSteps_40 hl (by decide) rfl (fun ls hl => ?_)
    refine lv_iload hx hb dX2_carryOutSteps_42 (lv_at hl 0 rfl) ?_
    refine lv_if_eq (tgt := 67) hx hb dX2_carryOutSteps_44 (by decide) (fun c_44 => ?_) (fun c_44 => ?_)
    · replace hf := zIt c_44 hf
      exact hb67 k2 hk2 v1 v2 S _ _ _ hf hI (lv_sub hl [1, 2, 3] rfl)
    · replace hf := zIf c_44 hf
      refine lv_lload_n hx hb dX2_carryOutSteps_47 rfl (lv_at hl 3 rfl) ?_
      obtain ⟨r_48, hf_48, hf⟩ := zB1_s hf
      refine z_callS C 1 (kX2_valuesOf l zq D v2 r_48 hf_48) gX2_carryOutSteps_X2_valuesOf rfl (by decide +kernel) ⟨by decide, by decide⟩ hI rfl hl.1 rfl (Nat.le_of_ble_eq_true rfl) dX2_carryOutSteps_48 ⟨by decide, by decide⟩ (st2 := [.long r_48]) rfl (fun H locs hI => ?_)
      refine lv_aload_n hx hb dX2_carryOutSteps_51 rfl (lv_at hl 1 rfl) ?_
      refine va_get (D := D) (ci := 2) (v := .long (x_commonWorlds S)) (C := RX2) (T := TX2) (N := 13) hx hb hts hiX2 hown hK hI.1 0 rfl rfl 7 (by decide) (hts (.fieldLink RX2 38 "NoughtSums" "commonWorlds" "J") (by decide +kernel)) (fun _ h9 => h9) rfl dX2_carryOutSteps_52 ?_
      refine lv_land hx hb dX2_carryOutSteps_55 ?_
      refine lv_lconst (v := 0) hx hb dX2_carryOutSteps_56 (by decide) ?_
      refine W.lcmp hx hb dX2_carryOutSteps_57 ?_
      refine lv_if_eq (tgt := 67) hx hb dX2_carryOutSteps_58 (by decide) (fun c_58 => ?_) (fun c_58 => ?_)
      · replace hf := zIt c_58 hf
        exact hb67 k2 hk2 v1 v2 S _ _ _ hf hI (lv_sub hl [1, 2, 3] rfl)
      · replace hf := zIf c_58 hf
        refine lv_aload_n hx hb dX2_carryOutSteps_61 rfl (lv_at hl 1 rfl) ?_
        refine lv_iload_n hx hb dX2_carryOutSteps_62 rfl (lv_at hl 2 rfl) ?_
        obtain ⟨S_63, eS_63, hf⟩ := zL_e hf
        refine z_put (D := D) (ci := 2) (v := .int v1) (ty := .int) (C := RX2) (T := TX2) (N := 13) (w2 := (wX cy ad S_63)) hx hb hts hiX2 tyX2 tyX2_ok nmX2 hown hK hI 0 rfl rfl 6 (by decide) (hts (.fieldLink RX2 33 "NoughtSums" "wrongStep" "I") (by decide +kernel)) (fun _ h9 => h9) rfl (by decide +kernel) rfl rfl (Nat.le_of_ble_eq_true rfl) dX2_carryOutSteps_63 (by rw [eS_63]; rfl) (fun H locs hI => ?_)
        have h2 := zP1 hf
        rw [hQ]
        exact z_vret C (by rw [h2]; exact hI) rfl dX2_carryOutSteps_66
  have hb2 : ∀ (n : Nat), ∀ (v1 : Int32) (S : XS) (H : Heap) (locs : List Loc) (ls : Array Slot), fX2_carryOutSteps_b2L n v1 S = some S' → zI D A s H locs (wX cy ad S) → lv_has ls 5 [(0, .ref (ad 0)), (1, .int v1)] → W p l e { frames := 3, cells := 0, slots := 0, locals := 68 } s m args below meth c H locs 0 0 Q (F0 m 2 ls []) := by
    intro n
    induction n with
    | zero => intro v1 S H locs ls hf; cases (show (none : Option XS) = some S' from hf)
    | succ n ih =>
      intro v1 S H locs ls hf hI hl
      have hf : fX2_carryOutSteps_b2 (fX2_carryOutSteps_b2L n) v1 S = some S' := hf
      unfold fX2_carryOutSteps_b2 at hf
      refine lv_iload_n hx hb dX2_carryOutSteps_2 rfl (lv_at hl 1 rfl) ?_
      refine lv_aload_n hx hb dX2_carryOutSteps_3 rfl (lv_at hl 0 rfl) ?_
      refine va_get (D := D) (ci := 2) (v := .int (x_steps S)) (C := RX2) (T := TX2) (N := 13) hx hb hts hiX2 hown hK hI.1 0 rfl rfl 5 (by decide) (hts (.fieldLink RX2 30 "NoughtSums" "steps" "I") (by decide +kernel)) (fun _ h9 => h9) rfl dX2_carryOutSteps_4 ?_
      refine lv_icmp_ge (tgt := 78) hx hb dX2_carryOutSteps_7 (by decide) (fun c_7 => ?_) (fun c_7 => ?_)
      · replace hf := zIt c_7 hf
        have h2 := zP1 hf
        rw [hQ]
        exact z_vret C (by rw [h2]; exact hI) rfl dX2_carryOutSteps_78
      · replace hf := zIf c_7 hf
        refine lv_iload_n hx hb dX2_carryOutSteps_10 rfl (lv_at hl 1 rfl) ?_
        refine lv_bipush (v := 24) hx hb dX2_carryOutSteps_11 (by decide) ?_
        refine lv_icmp_ge (tgt := 78) hx hb dX2_carryOutSteps_13 (by decide) (fun c_13 => ?_) (fun c_13 => ?_)
        · replace hf := zIt c_13 hf
          have h2 := zP1 hf
          rw [hQ]
          exact z_vret C (by rw [h2]; exact hI) rfl dX2_carryOutSteps_78
        · replace hf := zIf c_13 hf
          refine lv_aload_n hx hb dX2_carryOutSteps_16 rfl (lv_at hl 0 rfl) ?_
          refine lv_iload_n hx hb dX2_carryOutSteps_17 rfl (lv_at hl 1 rfl) ?_
          obtain ⟨r_18, S_18, hf_18, hf⟩ := zB2_s hf
          refine z_callV (w2 := (wX cy ad S_18)) C 1 (kX2_sumOfStep l zq D cy ad v1 S S_18 r_18 hf_18) gX2_carryOutSteps_X2_sumOfStep rfl (by decide +kernel) ⟨by decide, by decide⟩ hI 0 rfl rfl rfl hl.1 rfl (Nat.le_of_ble_eq_true rfl) dX2_carryOutSteps_18 ⟨by decide, by decide⟩ (st2 := [.long r_18]) rfl (fun H locs hI => ?_)
          refine lv_lstore_n (lv' := [(2, .long r_18), (0, .ref (ad 0)), (1, .int v1)]) hx hb dX2_carryOutSteps_21 rfl hl (by decide) rfl (fun ls hl => ?_)
          refine lv_aload_n hx hb dX2_carryOutSteps_22 rfl (lv_at hl 1 rfl) ?_
          refine va_get (D := D) (ci := 2) (v := .ref (ad 1)) (C := RX2) (T := TX2) (N := 13) hx hb hts hiX2 hown hK hI.1 0 rfl rfl 0 (by decide) (hts (.fieldLink RX2 12 "NoughtSums" "text" "LNoughtSums$Text;") (by decide +kernel)) (fun _ h9 => h9) rfl dX2_carryOutSteps_23 ?_
          refine va_get (D := D) (ci := 1) (v := .ref (ad 4)) (C := RX1) (T := TX1) (N := 11) hx hb hts hiX1 hown hK hI.1 1 rfl rfl 8 (by decide) (hts (.fieldLink RX2 177 "NoughtSums$Text" "ops" "[I") (by decide +kernel)) (fun _ h9 => h9) rfl dX2_carryOutSteps_26 ?_
          refine lv_iload_n hx hb dX2_carryOutSteps_29 rfl (lv_at hl 2 rfl) ?_
          obtain ⟨g_30, hf⟩ := zGI_s hf
          refine va_iald (f := (t_ops (x_text S_18))) hx hb hK hI.1 4 2 rfl rfl g_30 dX2_carryOutSteps_30 ?_
          refine lv_iconst (v := 4) hx hb dX2_carryOutSteps_31 (by decide) ?_
          refine lv_icmp_ne (tgt := 39) hx hb dX2_carryOutSteps_32 (by decide) (fun c_32 => ?_) (fun c_32 => ?_)
          · replace hf := zIf c_32 hf
            refine lv_iconst (v := 0) hx hb dX2_carryOutSteps_39 (by decide) ?_
            exact hb40 (fX2_carryOutSteps_b2L n) ih v1 r_18 (0 : Int32) S_18 _ _ _ hf hI (lv_sub hl [1, 2, 0] rfl)
          · replace hf := zIt c_32 hf
            refine lv_iconst (v := 1) hx hb dX2_carryOutSteps_35 (by decide) ?_
            refine lv_goto (tgt := 40) hx hb dX2_carryOutSteps_36 (by decide) ?_
            exact hb40 (fX2_carryOutSteps_b2L n) ih v1 r_18 (1 : Int32) S_18 _ _ _ hf hI (lv_sub hl [1, 2, 0] rfl)
  unfold fX2_carryOutSteps at hf
  refine lv_iconst (v := 0) hx hb dX2_carryOutSteps_0 (by decide) ?_
  refine lv_istore_n (lv' := [(1, .int (0 : Int32)), (0, .ref (ad 0))]) hx hb dX2_carryOutSteps_1 rfl hl (by decide) rfl (fun ls hl => ?_)
  exact hb2 zF (0 : Int32) S _ _ _ hf hI (lv_sub hl [1, 0] rfl)

def fX2_proof  (S : XS) : Option (Int32 × XS) :=
(zB2 (fX1_readProof (x_givenLines S) (x_text S)) (fun r_8 S_8 =>
(zL (x_text_u S S_8) (fun W_8 =>
(if r_8 = (-1 : Int32) then (zL (x_text_u W_8 (t_length_u (x_text W_8) (0 : Int32))) (fun S_27 =>
(zL (x_lines_u S_27 (x_givenLines S_27)) (fun S_35 =>
(zB1 (fX2_dropProof S_35) (fun S_39 =>
(zL (x_steps_u S_39 (t_told (x_text S_39))) (fun S_50 =>
(zB1 (fX2_carryOutSteps S_50) (fun S_54 =>
some (((x_lines S_54) - (x_givenLines S_54)), S_54))))))))))) else
some (((-10 : Int32) - r_8), W_8))))))
set_option maxHeartbeats 4000000 in
set_option maxRecDepth 100000 in
theorem kX2_proof (l : Launch) (zq : Nat → Nat) (D : va_G) (cy : Nat → ClassId) (ad : Nat → Nat)  (S S' : XS) (r : Int32) (hf : fX2_proof S = some (r, S')) : zMet l yX2_proof wsX2_proof 11 234 zq D (tX cy) (wX cy ad S) [.ref (ad 0)] (some (.int r)) (wX cy ad S') := by
  refine zMet.of cX2_proof 2 (some .int) (by decide) rfl (Nat.le_of_ble_eq_true rfl) ?_
  intro p e s m args below meth c A ls C hl hI
  have hl : lv_has ls 2 [(0, .ref (ad 0))] := hl
  have C : zC p s m args meth c cX2_proof 2 (some .int) RX2 wsX2_proof D (tX cy) zq A := C
  obtain ⟨hx, hb, hml, hown, hts, hret, hlk, hK, hX, hA⟩ := id C
  have hiX1 : ∀ w ∈ wsX10, w ∈ wsX2_proof := by decide +kernel
  have hiX2 : ∀ w ∈ wsX20, w ∈ wsX2_proof := by decide +kernel
  obtain ⟨Q, hQ⟩ : ∃ Q, Q = MQ below (zQ D (tX cy) (wX cy ad S') (some (.int r)) A) args s 0 0 A := ⟨_, rfl⟩
  rw [← hQ]
  unfold fX2_proof at hf
  refine lv_aload_n hx hb dX2_proof_0 rfl (lv_at hl 0 rfl) ?_
  refine va_get (D := D) (ci := 2) (v := .ref (ad 1)) (C := RX2) (T := TX2) (N := 13) hx hb hts hiX2 hown hK hI.1 0 rfl rfl 0 (by decide) (hts (.fieldLink RX2 12 "NoughtSums" "text" "LNoughtSums$Text;") (by decide +kernel)) (fun _ h9 => h9) rfl dX2_proof_1 ?_
  refine lv_aload_n hx hb dX2_proof_4 rfl (lv_at hl 0 rfl) ?_
  refine va_get (D := D) (ci := 2) (v := .int (x_givenLines S)) (C := RX2) (T := TX2) (N := 13) hx hb hts hiX2 hown hK hI.1 0 rfl rfl 4 (by decide) (hts (.fieldLink RX2 27 "NoughtSums" "givenLines" "I") (by decide +kernel)) (fun _ h9 => h9) rfl dX2_proof_5 ?_
  obtain ⟨r_8, S_8, hf_8, hf⟩ := zB2_s hf
  obtain ⟨W_8, eW_8, hf⟩ := zL_e hf
  refine z_callX (w2 := (wX cy ad W_8)) C 1 (kX1_readProof l zq D (fun k => cy (k + 1)) (fun k => ad (k + 1)) (x_givenLines S) (x_text S) S_8 r_8 hf_8) gX2_proof_X1_readProof rfl (by decide +kernel) ⟨by decide, by decide⟩ hI 1 rfl rfl [1, 2, 3, 4, 5, 6] [0, 7, 8, 9, 10, 11, 12, 13, 14, 15, 16] [0, 11, 12, 13, 14, 15, 16, 1, 2, 3, 4, 5, 6, 7, 8, 9, 10] [0, 1, 2, 3, 4] rfl rfl rfl rfl (by decide) rfl (by rw [eW_8]; rfl) rfl rfl hl.1 rfl (Nat.le_of_ble_eq_true rfl) dX2_proof_8 ⟨by decide, by decide⟩ (st2 := [.int r_8]) rfl (fun H locs hI => ?_)
  refine lv_istore_n (lv' := [(1, .int r_8), (0, .ref (ad 0))]) hx hb dX2_proof_11 rfl hl (by decide) rfl (fun ls hl => ?_)
  refine lv_iload_n hx hb dX2_proof_12 rfl (lv_at hl 0 rfl) ?_
  refine lv_iconst (v := -1) hx hb dX2_proof_13 (by decide) ?_
  refine lv_icmp_eq (tgt := 22) hx hb dX2_proof_14 (by decide) (fun c_14 => ?_) (fun c_14 => ?_)
  · replace hf := zIt c_14 hf
    refine lv_aload_n hx hb dX2_proof_22 rfl (lv_at hl 1 rfl) ?_
    refine va_get (D := D) (ci := 2) (v := .ref (ad 1)) (C := RX2) (T := TX2) (N := 13) hx hb hts hiX2 hown hK hI.1 0 rfl rfl 0 (by decide) (hts (.fieldLink RX2 12 "NoughtSums" "text" "LNoughtSums$Text;") (by decide +kernel)) (fun _ h9 => h9) rfl dX2_proof_23 ?_
    refine lv_iconst (v := 0) hx hb dX2_proof_26 (by decide) ?_
    obtain ⟨S_27, eS_27, hf⟩ := zL_e hf
    refine z_put (D := D) (ci := 1) (v := .int (0 : Int32)) (ty := .int) (C := RX1) (T := TX1) (N := 11) (w2 := (wX cy ad S_27)) hx hb hts hiX1 tyX1 tyX1_ok nmX1 hown hK hI 1 rfl rfl 1 (by decide) (hts (.fieldLink RX2 62 "NoughtSums$Text" "length" "I") (by decide +kernel)) (fun _ h9 => h9) rfl (by decide +kernel) rfl rfl (Nat.le_of_ble_eq_true rfl) dX2_proof_27 (by rw [eS_27]; rfl) (fun H locs hI => ?_)
    refine lv_aload_n hx hb dX2_proof_30 rfl (lv_at hl 1 rfl) ?_
    refine lv_aload_n hx hb dX2_proof_31 rfl (lv_at hl 1 rfl) ?_
    refine va_get (D := D) (ci := 2) (v := .int (x_givenLines S_27)) (C := RX2) (T := TX2) (N := 13) hx hb hts hiX2 hown hK hI.1 0 rfl rfl 4 (by decide) (hts (.fieldLink RX2 27 "NoughtSums" "givenLines" "I") (by decide +kernel)) (fun _ h9 => h9) rfl dX2_proof_32 ?_
    obtain ⟨S_35, eS_35, hf⟩ := zL_e hf
    refine z_put (D := D) (ci := 2) (v := .int (x_givenLines S_27)) (ty := .int) (C := RX2) (T := TX2) (N := 13) (w2 := (wX cy ad S_35)) hx hb hts hiX2 tyX2 tyX2_ok nmX2 hown hK hI 0 rfl rfl 3 (by decide) (hts (.fieldLink RX2 23 "NoughtSums" "lines" "I") (by decide +kernel)) (fun _ h9 => h9) rfl (by decide +kernel) rfl rfl (Nat.le_of_ble_eq_true rfl) dX2_proof_35 (by rw [eS_35]; rfl) (fun H locs hI => ?_)
    refine lv_aload_n hx hb dX2_proof_38 rfl (lv_at hl 1 rfl) ?_
    obtain ⟨S_39, hf_39, hf⟩ := zB1_s hf
    refine z_callV (w2 := (wX cy ad S_39)) C 0 (kX2_dropProof l zq D cy ad S_35 S_39 hf_39) gX2_proof_X2_dropProof rfl (by decide +kernel) ⟨by decide, by decide⟩ hI 0 rfl rfl rfl hl.1 rfl (Nat.le_of_ble_eq_true rfl) dX2_proof_39 ⟨by decide, by decide⟩ (st2 := []) rfl (fun H locs hI => ?_)
    refine lv_aload_n hx hb dX2_proof_42 rfl (lv_at hl 1 rfl) ?_
    refine lv_aload_n hx hb dX2_proof_43 rfl (lv_at hl 1 rfl) ?_
    refine va_get (D := D) (ci := 2) (v := .ref (ad 1)) (C := RX2) (T := TX2) (N := 13) hx hb hts hiX2 hown hK hI.1 0 rfl rfl 0 (by decide) (hts (.fieldLink RX2 12 "NoughtSums" "text" "LNoughtSums$Text;") (by decide +kernel)) (fun _ h9 => h9) rfl dX2_proof_44 ?_
    refine va_get (D := D) (ci := 1) (v := .int (t_told (x_text S_39))) (C := RX1) (T := TX1) (N := 11) hx hb hts hiX1 hown hK hI.1 1 rfl rfl 6 (by decide) (hts (.fieldLink RX2 76 "NoughtSums$Text" "told" "I") (by decide +kernel)) (fun _ h9 => h9) rfl dX2_proof_47 ?_
    obtain ⟨S_50, eS_50, hf⟩ := zL_e hf
    refine z_put (D := D) (ci := 2) (v := .int (t_told (x_text S_39))) (ty := .int) (C := RX2) (T := TX2) (N := 13) (w2 := (wX cy ad S_50)) hx hb hts hiX2 tyX2 tyX2_ok nmX2 hown hK hI 0 rfl rfl 5 (by decide) (hts (.fieldLink RX2 30 "NoughtSums" "steps" "I") (by decide +kernel)) (fun _ h9 => h9) rfl (by decide +kernel) rfl rfl (Nat.le_of_ble_eq_true rfl) dX2_proof_50 (by rw [eS_50]; rfl) (fun H locs hI => ?_)
    refine lv_aload_n hx hb dX2_proof_53 rfl (lv_at hl 1 rfl) ?_
    obtain ⟨S_54, hf_54, hf⟩ := zB1_s hf
    refine z_callV (w2 := (wX cy ad S_54)) C 0 (kX2_carryOutSteps l zq D cy ad S_50 S_54 hf_54) gX2_proof_X2_carryOutSteps rfl (by decide +kernel) ⟨by decide, by decide⟩ hI 0 rfl rfl rfl hl.1 rfl (Nat.le_of_ble_eq_true rfl) dX2_proof_54 ⟨by decide, by decide⟩ (st2 := []) rfl (fun H locs hI => ?_)
    refine lv_aload_n hx hb dX2_proof_57 rfl (lv_at hl 1 rfl) ?_
    refine va_get (D := D) (ci := 2) (v := .int (x_lines S_54)) (C := RX2) (T := TX2) (N := 13) hx hb hts hiX2 hown hK hI.1 0 rfl rfl 3 (by decide) (hts (.fieldLink RX2 23 "NoughtSums" "lines" "I") (by decide +kernel)) (fun _ h9 => h9) rfl dX2_proof_58 ?_
    refine lv_aload_n hx hb dX2_proof_61 rfl (lv_at hl 1 rfl) ?_
    refine va_get (D := D) (ci := 2) (v := .int (x_givenLines S_54)) (C := RX2) (T := TX2) (N := 13) hx hb hts hiX2 hown hK hI.1 0 rfl rfl 4 (by decide) (hts (.fieldLink RX2 27 "NoughtSums" "givenLines" "I") (by decide +kernel)) (fun _ h9 => h9) rfl dX2_proof_62 ?_
    refine lv_isub hx hb dX2_proof_65 ?_
    obtain ⟨h1, h2⟩ := zP2 hf
    rw [hQ]
    exact z_iret C (by rw [h2]; exact hI) (by rw [h1]) dX2_proof_66
  · replace hf := zIf c_14 hf
    refine lv_bipush (v := -10) hx hb dX2_proof_17 (by decide) ?_
    refine lv_iload_n hx hb dX2_proof_19 rfl (lv_at hl 0 rfl) ?_
    refine lv_isub hx hb dX2_proof_20 ?_
    obtain ⟨h1, h2⟩ := zP2 hf
    rw [hQ]
    exact z_iret C (by rw [h2]; exact hI) (by rw [h1]) dX2_proof_21

def fX2_wrong  (S : XS) : Option (Int32 × XS) :=
some ((x_wrongStep S), S)
set_option maxHeartbeats 4000000 in
set_option maxRecDepth 100000 in
theorem kX2_wrong (l : Launch) (zq : Nat → Nat) (D : va_G) (cy : Nat → ClassId) (ad : Nat → Nat)  (S S' : XS) (r : Int32) (hf : fX2_wrong S = some (r, S')) : zMet l yX2_wrong wsX2_wrong 0 0 zq D (tX cy) (wX cy ad S) [.ref (ad 0)] (some (.int r)) (wX cy ad S') := by
  refine zMet.of cX2_wrong 1 (some .int) (by decide) rfl (Nat.le_of_ble_eq_true rfl) ?_
  intro p e s m args below meth c A ls C hl hI
  have hl : lv_has ls 1 [(0, .ref (ad 0))] := hl
  have C : zC p s m args meth c cX2_wrong 1 (some .int) RX2 wsX2_wrong D (tX cy) zq A := C
  obtain ⟨hx, hb, hml, hown, hts, hret, hlk, hK, hX, hA⟩ := id C
  have hiX2 : ∀ w ∈ wsX20, w ∈ wsX2_wrong := by decide +kernel
  obtain ⟨Q, hQ⟩ : ∃ Q, Q = MQ below (zQ D (tX cy) (wX cy ad S') (some (.int r)) A) args s 0 0 A := ⟨_, rfl⟩
  rw [← hQ]
  unfold fX2_wrong at hf
  refine lv_aload_n hx hb dX2_wrong_0 rfl (lv_at hl 0 rfl) ?_
  refine va_get (D := D) (ci := 2) (v := .int (x_wrongStep S)) (C := RX2) (T := TX2) (N := 13) hx hb hts hiX2 hown hK hI.1 0 rfl rfl 6 (by decide) (hts (.fieldLink RX2 33 "NoughtSums" "wrongStep" "I") (by decide +kernel)) (fun _ h9 => h9) rfl dX2_wrong_1 ?_
  obtain ⟨h1, h2⟩ := zP2 hf
  rw [hQ]
  exact z_iret C (by rw [h2]; exact hI) (by rw [h1]) dX2_wrong_4

def fX2_end_b2 (k2 : Int32 → XS → Option (Int32 × XS)) (v1 : Int32) (S : XS) : Option (Int32 × XS) :=
(if (x_lines S) ≤ v1 then some ((-9 : Int32), S) else
(if (32 : Int32) ≤ v1 then some ((-9 : Int32), S) else
(zGI v1 32
((if (lg_cmp ((x_lineSums S) v1.toNatClampNeg) (1 : Int64)) = 0 then some (v1, S) else
k2 (v1 + (1 : Int32)) S)))))
def fX2_end_b2L : Nat → Int32 → XS → Option (Int32 × XS)
  | 0, _, _ => none
  | n + 1, v1, S => fX2_end_b2 (fX2_end_b2L n) v1 S

def fX2_end  (S : XS) : Option (Int32 × XS) :=
fX2_end_b2L zF (0 : Int32) S
set_option maxHeartbeats 4000000 in
set_option maxRecDepth 100000 in
theorem kX2_end (l : Launch) (zq : Nat → Nat) (D : va_G) (cy : Nat → ClassId) (ad : Nat → Nat)  (S S' : XS) (r : Int32) (hf : fX2_end S = some (r, S')) : zMet l yX2_end wsX2_end 0 0 zq D (tX cy) (wX cy ad S) [.ref (ad 0)] (some (.int r)) (wX cy ad S') := by
  refine zMet.of cX2_end 2 (some .int) (by decide) rfl (Nat.le_of_ble_eq_true rfl) ?_
  intro p e s m args below meth c A ls C hl hI
  have hl : lv_has ls 2 [(0, .ref (ad 0))] := hl
  have C : zC p s m args meth c cX2_end 2 (some .int) RX2 wsX2_end D (tX cy) zq A := C
  obtain ⟨hx, hb, hml, hown, hts, hret, hlk, hK, hX, hA⟩ := id C
  have hiX2 : ∀ w ∈ wsX20, w ∈ wsX2_end := by decide +kernel
  obtain ⟨Q, hQ⟩ : ∃ Q, Q = MQ below (zQ D (tX cy) (wX cy ad S') (some (.int r)) A) args s 0 0 A := ⟨_, rfl⟩
  rw [← hQ]
  have hb2 : ∀ (n : Nat), ∀ (v1 : Int32) (S : XS) (H : Heap) (locs : List Loc) (ls : Array Slot), fX2_end_b2L n v1 S = some (r, S') → zI D A s H locs (wX cy ad S) → lv_has ls 2 [(0, .ref (ad 0)), (1, .int v1)] → W p l e { frames := 0, cells := 0, slots := 0, locals := 0 } s m args below meth c H locs 0 0 Q (F0 m 2 ls []) := by
    intro n
    induction n with
    | zero => intro v1 S H locs ls hf; cases (show (none : Option (Int32 × XS)) = some (r, S') from hf)
    | succ n ih =>
      intro v1 S H locs ls hf hI hl
      have hf : fX2_end_b2 (fX2_end_b2L n) v1 S = some (r, S') := hf
      unfold fX2_end_b2 at hf
      refine lv_iload_n hx hb dX2_end_2 rfl (lv_at hl 1 rfl) ?_
      refine lv_aload_n hx hb dX2_end_3 rfl (lv_at hl 0 rfl) ?_
      refine va_get (D := D) (ci := 2) (v := .int (x_lines S)) (C := RX2) (T := TX2) (N := 13) hx hb hts hiX2 hown hK hI.1 0 rfl rfl 3 (by decide) (hts (.fieldLink RX2 23 "NoughtSums" "lines" "I") (by decide +kernel)) (fun _ h9 => h9) rfl dX2_end_4 ?_
      refine lv_icmp_ge (tgt := 35) hx hb dX2_end_7 (by decide) (fun c_7 => ?_) (fun c_7 => ?_)
      · replace hf := zIt c_7 hf
        refine lv_bipush (v := -9) hx hb dX2_end_35 (by decide) ?_
        obtain ⟨h1, h2⟩ := zP2 hf
        rw [hQ]
        exact z_iret C (by rw [h2]; exact hI) (by rw [h1]) dX2_end_37
      · replace hf := zIf c_7 hf
        refine lv_iload_n hx hb dX2_end_10 rfl (lv_at hl 1 rfl) ?_
        refine lv_bipush (v := 32) hx hb dX2_end_11 (by decide) ?_
        refine lv_icmp_ge (tgt := 35) hx hb dX2_end_13 (by decide) (fun c_13 => ?_) (fun c_13 => ?_)
        · replace hf := zIt c_13 hf
          refine lv_bipush (v := -9) hx hb dX2_end_35 (by decide) ?_
          obtain ⟨h1, h2⟩ := zP2 hf
          rw [hQ]
          exact z_iret C (by rw [h2]; exact hI) (by rw [h1]) dX2_end_37
        · replace hf := zIf c_13 hf
          refine lv_aload_n hx hb dX2_end_16 rfl (lv_at hl 0 rfl) ?_
          refine va_get (D := D) (ci := 2) (v := .ref (ad 7)) (C := RX2) (T := TX2) (N := 13) hx hb hts hiX2 hown hK hI.1 0 rfl rfl 1 (by decide) (hts (.fieldLink RX2 16 "NoughtSums" "lineSums" "[J") (by decide +kernel)) (fun _ h9 => h9) rfl dX2_end_17 ?_
          refine lv_iload_n hx hb dX2_end_20 rfl (lv_at hl 1 rfl) ?_
          obtain ⟨g_21, hf⟩ := zGI_s hf
          refine va_lald (f := (x_lineSums S)) hx hb hK hI.1 7 5 rfl rfl g_21 dX2_end_21 ?_
          refine lv_lconst (v := 1) hx hb dX2_end_22 (by decide) ?_
          refine W.lcmp hx hb dX2_end_23 ?_
          refine lv_if_ne (tgt := 29) hx hb dX2_end_24 (by decide) (fun c_24 => ?_) (fun c_24 => ?_)
          · replace hf := zIf c_24 hf
            refine lv_iinc (v := (v1 + (1 : Int32))) (lv' := [(1, .int (v1 + (1 : Int32))), (0, .ref (ad 0))]) hx hb dX2_end_29 hl (k := 1) rfl rfl (by decide) rfl (fun ls hl => ?_)
            refine lv_goto (tgt := 2) hx hb dX2_end_32 (by decide) ?_
            exact ih (v1 + (1 : Int32)) S _ _ _ hf hI (lv_sub hl [1, 0] rfl)
          · replace hf := zIt c_24 hf
            refine lv_iload_n hx hb dX2_end_27 rfl (lv_at hl 1 rfl) ?_
            obtain ⟨h1, h2⟩ := zP2 hf
            rw [hQ]
            exact z_iret C (by rw [h2]; exact hI) (by rw [h1]) dX2_end_28
  unfold fX2_end at hf
  refine lv_iconst (v := 0) hx hb dX2_end_0 (by decide) ?_
  refine lv_istore_n (lv' := [(1, .int (0 : Int32)), (0, .ref (ad 0))]) hx hb dX2_end_1 rfl hl (by decide) rfl (fun ls hl => ?_)
  exact hb2 zF (0 : Int32) S _ _ _ hf hI (lv_sub hl [1, 0] rfl)

def fX2_line (a1 : Int32) (S : XS) : Option (Int64 × XS) :=
(zB2 (fX2_sumOf a1 S) (fun r_2 S_2 =>
some (r_2, S_2)))
set_option maxHeartbeats 4000000 in
set_option maxRecDepth 100000 in
theorem kX2_line (l : Launch) (zq : Nat → Nat) (D : va_G) (cy : Nat → ClassId) (ad : Nat → Nat) (a1 : Int32) (S S' : XS) (r : Int64) (hf : fX2_line a1 S = some (r, S')) : zMet l yX2_line wsX2_line 2 42 zq D (tX cy) (wX cy ad S) [.ref (ad 0), .int a1] (some (.long r)) (wX cy ad S') := by
  refine zMet.of cX2_line 2 (some .long) (by decide) rfl (Nat.le_of_ble_eq_true rfl) ?_
  intro p e s m args below meth c A ls C hl hI
  have hl : lv_has ls 2 [(0, .ref (ad 0)), (1, .int a1)] := hl
  have C : zC p s m args meth c cX2_line 2 (some .long) RX2 wsX2_line D (tX cy) zq A := C
  obtain ⟨hx, hb, hml, hown, hts, hret, hlk, hK, hX, hA⟩ := id C
  obtain ⟨Q, hQ⟩ : ∃ Q, Q = MQ below (zQ D (tX cy) (wX cy ad S') (some (.long r)) A) args s 0 0 A := ⟨_, rfl⟩
  rw [← hQ]
  unfold fX2_line at hf
  refine lv_aload_n hx hb dX2_line_0 rfl (lv_at hl 0 rfl) ?_
  refine lv_iload_n hx hb dX2_line_1 rfl (lv_at hl 1 rfl) ?_
  obtain ⟨r_2, S_2, hf_2, hf⟩ := zB2_s hf
  refine z_callV (w2 := (wX cy ad S_2)) C 1 (kX2_sumOf l zq D cy ad a1 S S_2 r_2 hf_2) gX2_line_X2_sumOf rfl (by decide +kernel) ⟨by decide, by decide⟩ hI 0 rfl rfl rfl hl.1 rfl (Nat.le_of_ble_eq_true rfl) dX2_line_2 ⟨by decide, by decide⟩ (st2 := [.long r_2]) rfl (fun H locs hI => ?_)
  obtain ⟨h1, h2⟩ := zP2 hf
  rw [hQ]
  exact z_lret C (by rw [h2]; exact hI) (by rw [h1]) dX2_line_5

def fX2_value (a1 : Int32) (a2 : Int32) (S : XS) : Option (Int32 × XS) :=
(zB2 (fX2_isLine a1 S) (fun r_2 S_2 =>
(if r_2 = 0 then some ((-1 : Int32), S_2) else
(if a2 < 0 then some ((-1 : Int32), S_2) else
(if a2 < (64 : Int32) then (zGI a1 32
((zB1 (fX2_hasBit ((x_lineValues S_2) a1.toNatClampNeg) a2) (fun r_27 =>
(if r_27 = 0 then some ((0 : Int32), S_2) else
some ((1 : Int32), S_2)))))) else
some ((-1 : Int32), S_2))))))
set_option maxHeartbeats 4000000 in
set_option maxRecDepth 100000 in
theorem kX2_value (l : Launch) (zq : Nat → Nat) (D : va_G) (cy : Nat → ClassId) (ad : Nat → Nat) (a1 : Int32) (a2 : Int32) (S S' : XS) (r : Int32) (hf : fX2_value a1 a2 S = some (r, S')) : zMet l yX2_value wsX2_value 1 22 zq D (tX cy) (wX cy ad S) [.ref (ad 0), .int a1, .int a2] (some (.int r)) (wX cy ad S') := by
  refine zMet.of cX2_value 3 (some .int) (by decide) rfl (Nat.le_of_ble_eq_true rfl) ?_
  intro p e s m args below meth c A ls C hl hI
  have hl : lv_has ls 3 [(0, .ref (ad 0)), (1, .int a1), (2, .int a2)] := hl
  have C : zC p s m args meth c cX2_value 3 (some .int) RX2 wsX2_value D (tX cy) zq A := C
  obtain ⟨hx, hb, hml, hown, hts, hret, hlk, hK, hX, hA⟩ := id C
  have hiX2 : ∀ w ∈ wsX20, w ∈ wsX2_value := by decide +kernel
  obtain ⟨Q, hQ⟩ : ∃ Q, Q = MQ below (zQ D (tX cy) (wX cy ad S') (some (.int r)) A) args s 0 0 A := ⟨_, rfl⟩
  rw [← hQ]
  unfold fX2_value at hf
  refine lv_aload_n hx hb dX2_value_0 rfl (lv_at hl 0 rfl) ?_
  refine lv_iload_n hx hb dX2_value_1 rfl (lv_at hl 1 rfl) ?_
  obtain ⟨r_2, S_2, hf_2, hf⟩ := zB2_s hf
  refine z_callV (w2 := (wX cy ad S_2)) C 1 (kX2_isLine l zq D cy ad a1 S S_2 r_2 hf_2) gX2_value_X2_isLine rfl (by decide +kernel) ⟨by decide, by decide⟩ hI 0 rfl rfl rfl hl.1 rfl (Nat.le_of_ble_eq_true rfl) dX2_value_2 ⟨by decide, by decide⟩ (st2 := [.int r_2]) rfl (fun H locs hI => ?_)
  refine lv_if_eq (tgt := 18) hx hb dX2_value_5 (by decide) (fun c_5 => ?_) (fun c_5 => ?_)
  · replace hf := zIt c_5 hf
    refine lv_iconst (v := -1) hx hb dX2_value_18 (by decide) ?_
    obtain ⟨h1, h2⟩ := zP2 hf
    rw [hQ]
    exact z_iret C (by rw [h2]; exact hI) (by rw [h1]) dX2_value_19
  · replace hf := zIf c_5 hf
    refine lv_iload_n hx hb dX2_value_8 rfl (lv_at hl 2 rfl) ?_
    refine lv_if_lt (tgt := 18) hx hb dX2_value_9 (by decide) (fun c_9 => ?_) (fun c_9 => ?_)
    · replace hf := zIt c_9 hf
      refine lv_iconst (v := -1) hx hb dX2_value_18 (by decide) ?_
      obtain ⟨h1, h2⟩ := zP2 hf
      rw [hQ]
      exact z_iret C (by rw [h2]; exact hI) (by rw [h1]) dX2_value_19
    · replace hf := zIf c_9 hf
      refine lv_iload_n hx hb dX2_value_12 rfl (lv_at hl 2 rfl) ?_
      refine lv_bipush (v := 64) hx hb dX2_value_13 (by decide) ?_
      refine lv_icmp_lt (tgt := 20) hx hb dX2_value_15 (by decide) (fun c_15 => ?_) (fun c_15 => ?_)
      · replace hf := zIt c_15 hf
        refine lv_aload_n hx hb dX2_value_20 rfl (lv_at hl 0 rfl) ?_
        refine va_get (D := D) (ci := 2) (v := .ref (ad 8)) (C := RX2) (T := TX2) (N := 13) hx hb hts hiX2 hown hK hI.1 0 rfl rfl 2 (by decide) (hts (.fieldLink RX2 20 "NoughtSums" "lineValues" "[J") (by decide +kernel)) (fun _ h9 => h9) rfl dX2_value_21 ?_
        refine lv_iload_n hx hb dX2_value_24 rfl (lv_at hl 1 rfl) ?_
        obtain ⟨g_25, hf⟩ := zGI_s hf
        refine va_lald (f := (x_lineValues S_2)) hx hb hK hI.1 8 6 rfl rfl g_25 dX2_value_25 ?_
        refine lv_iload_n hx hb dX2_value_26 rfl (lv_at hl 2 rfl) ?_
        obtain ⟨r_27, hf_27, hf⟩ := zB1_s hf
        refine z_callS C 2 (kX2_hasBit l zq D ((x_lineValues S_2) a1.toNatClampNeg) a2 r_27 hf_27) gX2_value_X2_hasBit rfl (by decide +kernel) ⟨by decide, by decide⟩ hI rfl hl.1 rfl (Nat.le_of_ble_eq_true rfl) dX2_value_27 ⟨by decide, by decide⟩ (st2 := [.int r_27]) rfl (fun H locs hI => ?_)
        refine lv_if_eq (tgt := 37) hx hb dX2_value_30 (by decide) (fun c_30 => ?_) (fun c_30 => ?_)
        · replace hf := zIt c_30 hf
          refine lv_iconst (v := 0) hx hb dX2_value_37 (by decide) ?_
          obtain ⟨h1, h2⟩ := zP2 hf
          rw [hQ]
          exact z_iret C (by rw [h2]; exact hI) (by rw [h1]) dX2_value_38
        · replace hf := zIf c_30 hf
          refine lv_iconst (v := 1) hx hb dX2_value_33 (by decide) ?_
          refine lv_goto (tgt := 38) hx hb dX2_value_34 (by decide) ?_
          obtain ⟨h1, h2⟩ := zP2 hf
          rw [hQ]
          exact z_iret C (by rw [h2]; exact hI) (by rw [h1]) dX2_value_38
      · replace hf := zIf c_15 hf
        refine lv_iconst (v := -1) hx hb dX2_value_18 (by decide) ?_
        obtain ⟨h1, h2⟩ := zP2 hf
        rw [hQ]
        exact z_iret C (by rw [h2]; exact hI) (by rw [h1]) dX2_value_19

def fX2_lead (a1 : Int32) (a2 : Int32) (S : XS) : Option (Int32 × XS) :=
(zB2 (fX2_isLine a1 S) (fun r_2 S_2 =>
(if r_2 = 0 then some ((-1 : Int32), S_2) else
(if a2 < 0 then some ((-1 : Int32), S_2) else
(if a2 ≤ (1 : Int32) then (if a2 = 0 then (zGI a1 32
((zB1 (fX2_degreeOf ((x_lineSums S_2) a1.toNatClampNeg)) (fun r_29 =>
some (r_29, S_2))))) else
(zGI a1 32
((zB1 (fX2_leadOf ((x_lineSums S_2) a1.toNatClampNeg)) (fun r_41 =>
some (r_41, S_2)))))) else
some ((-1 : Int32), S_2))))))
set_option maxHeartbeats 4000000 in
set_option maxRecDepth 100000 in
theorem kX2_lead (l : Launch) (zq : Nat → Nat) (D : va_G) (cy : Nat → ClassId) (ad : Nat → Nat) (a1 : Int32) (a2 : Int32) (S S' : XS) (r : Int32) (hf : fX2_lead a1 a2 S = some (r, S')) : zMet l yX2_lead wsX2_lead 3 66 zq D (tX cy) (wX cy ad S) [.ref (ad 0), .int a1, .int a2] (some (.int r)) (wX cy ad S') := by
  refine zMet.of cX2_lead 3 (some .int) (by decide) rfl (Nat.le_of_ble_eq_true rfl) ?_
  intro p e s m args below meth c A ls C hl hI
  have hl : lv_has ls 3 [(0, .ref (ad 0)), (1, .int a1), (2, .int a2)] := hl
  have C : zC p s m args meth c cX2_lead 3 (some .int) RX2 wsX2_lead D (tX cy) zq A := C
  obtain ⟨hx, hb, hml, hown, hts, hret, hlk, hK, hX, hA⟩ := id C
  have hiX2 : ∀ w ∈ wsX20, w ∈ wsX2_lead := by decide +kernel
  obtain ⟨Q, hQ⟩ : ∃ Q, Q = MQ below (zQ D (tX cy) (wX cy ad S') (some (.int r)) A) args s 0 0 A := ⟨_, rfl⟩
  rw [← hQ]
  unfold fX2_lead at hf
  refine lv_aload_n hx hb dX2_lead_0 rfl (lv_at hl 0 rfl) ?_
  refine lv_iload_n hx hb dX2_lead_1 rfl (lv_at hl 1 rfl) ?_
  obtain ⟨r_2, S_2, hf_2, hf⟩ := zB2_s hf
  refine z_callV (w2 := (wX cy ad S_2)) C 1 (kX2_isLine l zq D cy ad a1 S S_2 r_2 hf_2) gX2_lead_X2_isLine rfl (by decide +kernel) ⟨by decide, by decide⟩ hI 0 rfl rfl rfl hl.1 rfl (Nat.le_of_ble_eq_true rfl) dX2_lead_2 ⟨by decide, by decide⟩ (st2 := [.int r_2]) rfl (fun H locs hI => ?_)
  refine lv_if_eq (tgt := 17) hx hb dX2_lead_5 (by decide) (fun c_5 => ?_) (fun c_5 => ?_)
  · replace hf := zIt c_5 hf
    refine lv_iconst (v := -1) hx hb dX2_lead_17 (by decide) ?_
    obtain ⟨h1, h2⟩ := zP2 hf
    rw [hQ]
    exact z_iret C (by rw [h2]; exact hI) (by rw [h1]) dX2_lead_18
  · replace hf := zIf c_5 hf
    refine lv_iload_n hx hb dX2_lead_8 rfl (lv_at hl 2 rfl) ?_
    refine lv_if_lt (tgt := 17) hx hb dX2_lead_9 (by decide) (fun c_9 => ?_) (fun c_9 => ?_)
    · replace hf := zIt c_9 hf
      refine lv_iconst (v := -1) hx hb dX2_lead_17 (by decide) ?_
      obtain ⟨h1, h2⟩ := zP2 hf
      rw [hQ]
      exact z_iret C (by rw [h2]; exact hI) (by rw [h1]) dX2_lead_18
    · replace hf := zIf c_9 hf
      refine lv_iload_n hx hb dX2_lead_12 rfl (lv_at hl 2 rfl) ?_
      refine lv_iconst (v := 1) hx hb dX2_lead_13 (by decide) ?_
      refine lv_icmp_le (tgt := 19) hx hb dX2_lead_14 (by decide) (fun c_14 => ?_) (fun c_14 => ?_)
      · replace hf := zIt c_14 hf
        refine lv_iload_n hx hb dX2_lead_19 rfl (lv_at hl 2 rfl) ?_
        refine lv_if_ne (tgt := 35) hx hb dX2_lead_20 (by decide) (fun c_20 => ?_) (fun c_20 => ?_)
        · replace hf := zIf c_20 hf
          refine lv_aload_n hx hb dX2_lead_35 rfl (lv_at hl 0 rfl) ?_
          refine va_get (D := D) (ci := 2) (v := .ref (ad 7)) (C := RX2) (T := TX2) (N := 13) hx hb hts hiX2 hown hK hI.1 0 rfl rfl 1 (by decide) (hts (.fieldLink RX2 16 "NoughtSums" "lineSums" "[J") (by decide +kernel)) (fun _ h9 => h9) rfl dX2_lead_36 ?_
          refine lv_iload_n hx hb dX2_lead_39 rfl (lv_at hl 1 rfl) ?_
          obtain ⟨g_40, hf⟩ := zGI_s hf
          refine va_lald (f := (x_lineSums S_2)) hx hb hK hI.1 7 5 rfl rfl g_40 dX2_lead_40 ?_
          obtain ⟨r_41, hf_41, hf⟩ := zB1_s hf
          refine z_callS C 1 (kX2_leadOf l zq D ((x_lineSums S_2) a1.toNatClampNeg) r_41 hf_41) gX2_lead_X2_leadOf rfl (by decide +kernel) ⟨by decide, by decide⟩ hI rfl hl.1 rfl (Nat.le_of_ble_eq_true rfl) dX2_lead_41 ⟨by decide, by decide⟩ (st2 := [.int r_41]) rfl (fun H locs hI => ?_)
          obtain ⟨h1, h2⟩ := zP2 hf
          rw [hQ]
          exact z_iret C (by rw [h2]; exact hI) (by rw [h1]) dX2_lead_44
        · replace hf := zIt c_20 hf
          refine lv_aload_n hx hb dX2_lead_23 rfl (lv_at hl 0 rfl) ?_
          refine va_get (D := D) (ci := 2) (v := .ref (ad 7)) (C := RX2) (T := TX2) (N := 13) hx hb hts hiX2 hown hK hI.1 0 rfl rfl 1 (by decide) (hts (.fieldLink RX2 16 "NoughtSums" "lineSums" "[J") (by decide +kernel)) (fun _ h9 => h9) rfl dX2_lead_24 ?_
          refine lv_iload_n hx hb dX2_lead_27 rfl (lv_at hl 1 rfl) ?_
          obtain ⟨g_28, hf⟩ := zGI_s hf
          refine va_lald (f := (x_lineSums S_2)) hx hb hK hI.1 7 5 rfl rfl g_28 dX2_lead_28 ?_
          obtain ⟨r_29, hf_29, hf⟩ := zB1_s hf
          refine z_callS C 1 (kX2_degreeOf l zq D ((x_lineSums S_2) a1.toNatClampNeg) r_29 hf_29) gX2_lead_X2_degreeOf rfl (by decide +kernel) ⟨by decide, by decide⟩ hI rfl hl.1 rfl (Nat.le_of_ble_eq_true rfl) dX2_lead_29 ⟨by decide, by decide⟩ (st2 := [.int r_29]) rfl (fun H locs hI => ?_)
          refine lv_goto (tgt := 44) hx hb dX2_lead_32 (by decide) ?_
          obtain ⟨h1, h2⟩ := zP2 hf
          rw [hQ]
          exact z_iret C (by rw [h2]; exact hI) (by rw [h1]) dX2_lead_44
      · replace hf := zIf c_14 hf
        refine lv_iconst (v := -1) hx hb dX2_lead_17 (by decide) ?_
        obtain ⟨h1, h2⟩ := zP2 hf
        rw [hQ]
        exact z_iret C (by rw [h2]; exact hI) (by rw [h1]) dX2_lead_18

def fX2_both (a1 : Int32) (a2 : Int32) (a3 : Int32) (S : XS) : Option (Int64 × XS) :=
(zB2 (fX2_isLine a1 S) (fun r_2 S_2 =>
(if r_2 = 0 then some ((0 : Int64), S_2) else
(zB2 (fX2_isLine a2 S_2) (fun r_10 S_10 =>
(if r_10 = 0 then some ((0 : Int64), S_10) else
(if a3 < 0 then some ((0 : Int64), S_10) else
(if a3 ≤ (1 : Int32) then (if a3 = 0 then (zGI a1 32
((zGI a2 32
((zB1 (fX2_multiplied ((x_lineSums S_10) a1.toNatClampNeg) ((x_lineSums S_10) a2.toNatClampNeg)) (fun r_43 =>
some (r_43, S_10))))))) else
(zGI a1 32
((zGI a2 32
(some ((((x_lineSums S_10) a1.toNatClampNeg) ^^^ ((x_lineSums S_10) a2.toNatClampNeg)), S_10)))))) else
some ((0 : Int64), S_10)))))))))
set_option maxHeartbeats 4000000 in
set_option maxRecDepth 100000 in
theorem kX2_both (l : Launch) (zq : Nat → Nat) (D : va_G) (cy : Nat → ClassId) (ad : Nat → Nat) (a1 : Int32) (a2 : Int32) (a3 : Int32) (S S' : XS) (r : Int64) (hf : fX2_both a1 a2 a3 S = some (r, S')) : zMet l yX2_both wsX2_both 2 47 zq D (tX cy) (wX cy ad S) [.ref (ad 0), .int a1, .int a2, .int a3] (some (.long r)) (wX cy ad S') := by
  refine zMet.of cX2_both 4 (some .long) (by decide) rfl (Nat.le_of_ble_eq_true rfl) ?_
  intro p e s m args below meth c A ls C hl hI
  have hl : lv_has ls 4 [(0, .ref (ad 0)), (1, .int a1), (2, .int a2), (3, .int a3)] := hl
  have C : zC p s m args meth c cX2_both 4 (some .long) RX2 wsX2_both D (tX cy) zq A := C
  obtain ⟨hx, hb, hml, hown, hts, hret, hlk, hK, hX, hA⟩ := id C
  have hiX2 : ∀ w ∈ wsX20, w ∈ wsX2_both := by decide +kernel
  obtain ⟨Q, hQ⟩ : ∃ Q, Q = MQ below (zQ D (tX cy) (wX cy ad S') (some (.long r)) A) args s 0 0 A := ⟨_, rfl⟩
  rw [← hQ]
  unfold fX2_both at hf
  refine lv_aload_n hx hb dX2_both_0 rfl (lv_at hl 0 rfl) ?_
  refine lv_iload_n hx hb dX2_both_1 rfl (lv_at hl 1 rfl) ?_
  obtain ⟨r_2, S_2, hf_2, hf⟩ := zB2_s hf
  refine z_callV (w2 := (wX cy ad S_2)) C 1 (kX2_isLine l zq D cy ad a1 S S_2 r_2 hf_2) gX2_both_X2_isLine rfl (by decide +kernel) ⟨by decide, by decide⟩ hI 0 rfl rfl rfl hl.1 rfl (Nat.le_of_ble_eq_true rfl) dX2_both_2 ⟨by decide, by decide⟩ (st2 := [.int r_2]) rfl (fun H locs hI => ?_)
  refine lv_if_eq (tgt := 25) hx hb dX2_both_5 (by decide) (fun c_5 => ?_) (fun c_5 => ?_)
  · replace hf := zIt c_5 hf
    refine lv_lconst (v := 0) hx hb dX2_both_25 (by decide) ?_
    obtain ⟨h1, h2⟩ := zP2 hf
    rw [hQ]
    exact z_lret C (by rw [h2]; exact hI) (by rw [h1]) dX2_both_26
  · replace hf := zIf c_5 hf
    refine lv_aload_n hx hb dX2_both_8 rfl (lv_at hl 0 rfl) ?_
    refine lv_iload_n hx hb dX2_both_9 rfl (lv_at hl 2 rfl) ?_
    obtain ⟨r_10, S_10, hf_10, hf⟩ := zB2_s hf
    refine z_callV (w2 := (wX cy ad S_10)) C 1 (kX2_isLine l zq D cy ad a2 S_2 S_10 r_10 hf_10) gX2_both_X2_isLine rfl (by decide +kernel) ⟨by decide, by decide⟩ hI 0 rfl rfl rfl hl.1 rfl (Nat.le_of_ble_eq_true rfl) dX2_both_10 ⟨by decide, by decide⟩ (st2 := [.int r_10]) rfl (fun H locs hI => ?_)
    refine lv_if_eq (tgt := 25) hx hb dX2_both_13 (by decide) (fun c_13 => ?_) (fun c_13 => ?_)
    · replace hf := zIt c_13 hf
      refine lv_lconst (v := 0) hx hb dX2_both_25 (by decide) ?_
      obtain ⟨h1, h2⟩ := zP2 hf
      rw [hQ]
      exact z_lret C (by rw [h2]; exact hI) (by rw [h1]) dX2_both_26
    · replace hf := zIf c_13 hf
      refine lv_iload_n hx hb dX2_both_16 rfl (lv_at hl 3 rfl) ?_
      refine lv_if_lt (tgt := 25) hx hb dX2_both_17 (by decide) (fun c_17 => ?_) (fun c_17 => ?_)
      · replace hf := zIt c_17 hf
        refine lv_lconst (v := 0) hx hb dX2_both_25 (by decide) ?_
        obtain ⟨h1, h2⟩ := zP2 hf
        rw [hQ]
        exact z_lret C (by rw [h2]; exact hI) (by rw [h1]) dX2_both_26
      · replace hf := zIf c_17 hf
        refine lv_iload_n hx hb dX2_both_20 rfl (lv_at hl 3 rfl) ?_
        refine lv_iconst (v := 1) hx hb dX2_both_21 (by decide) ?_
        refine lv_icmp_le (tgt := 27) hx hb dX2_both_22 (by decide) (fun c_22 => ?_) (fun c_22 => ?_)
        · replace hf := zIt c_22 hf
          refine lv_iload_n hx hb dX2_both_27 rfl (lv_at hl 3 rfl) ?_
          refine lv_if_ne (tgt := 49) hx hb dX2_both_28 (by decide) (fun c_28 => ?_) (fun c_28 => ?_)
          · replace hf := zIf c_28 hf
            refine lv_aload_n hx hb dX2_both_49 rfl (lv_at hl 0 rfl) ?_
            refine va_get (D := D) (ci := 2) (v := .ref (ad 7)) (C := RX2) (T := TX2) (N := 13) hx hb hts hiX2 hown hK hI.1 0 rfl rfl 1 (by decide) (hts (.fieldLink RX2 16 "NoughtSums" "lineSums" "[J") (by decide +kernel)) (fun _ h9 => h9) rfl dX2_both_50 ?_
            refine lv_iload_n hx hb dX2_both_53 rfl (lv_at hl 1 rfl) ?_
            obtain ⟨g_54, hf⟩ := zGI_s hf
            refine va_lald (f := (x_lineSums S_10)) hx hb hK hI.1 7 5 rfl rfl g_54 dX2_both_54 ?_
            refine lv_aload_n hx hb dX2_both_55 rfl (lv_at hl 0 rfl) ?_
            refine va_get (D := D) (ci := 2) (v := .ref (ad 7)) (C := RX2) (T := TX2) (N := 13) hx hb hts hiX2 hown hK hI.1 0 rfl rfl 1 (by decide) (hts (.fieldLink RX2 16 "NoughtSums" "lineSums" "[J") (by decide +kernel)) (fun _ h9 => h9) rfl dX2_both_56 ?_
            refine lv_iload_n hx hb dX2_both_59 rfl (lv_at hl 2 rfl) ?_
            obtain ⟨g_60, hf⟩ := zGI_s hf
            refine va_lald (f := (x_lineSums S_10)) hx hb hK hI.1 7 5 rfl rfl g_60 dX2_both_60 ?_
            refine lv_lxor hx hb dX2_both_61 ?_
            obtain ⟨h1, h2⟩ := zP2 hf
            rw [hQ]
            exact z_lret C (by rw [h2]; exact hI) (by rw [h1]) dX2_both_62
          · replace hf := zIt c_28 hf
            refine lv_aload_n hx hb dX2_both_31 rfl (lv_at hl 0 rfl) ?_
            refine va_get (D := D) (ci := 2) (v := .ref (ad 7)) (C := RX2) (T := TX2) (N := 13) hx hb hts hiX2 hown hK hI.1 0 rfl rfl 1 (by decide) (hts (.fieldLink RX2 16 "NoughtSums" "lineSums" "[J") (by decide +kernel)) (fun _ h9 => h9) rfl dX2_both_32 ?_
            refine lv_iload_n hx hb dX2_both_35 rfl (lv_at hl 1 rfl) ?_
            obtain ⟨g_36, hf⟩ := zGI_s hf
            refine va_lald (f := (x_lineSums S_10)) hx hb hK hI.1 7 5 rfl rfl g_36 dX2_both_36 ?_
            refine lv_aload_n hx hb dX2_both_37 rfl (lv_at hl 0 rfl) ?_
            refine va_get (D := D) (ci := 2) (v := .ref (ad 7)) (C := RX2) (T := TX2) (N := 13) hx hb hts hiX2 hown hK hI.1 0 rfl rfl 1 (by decide) (hts (.fieldLink RX2 16 "NoughtSums" "lineSums" "[J") (by decide +kernel)) (fun _ h9 => h9) rfl dX2_both_38 ?_
            refine lv_iload_n hx hb dX2_both_41 rfl (lv_at hl 2 rfl) ?_
            obtain ⟨g_42, hf⟩ := zGI_s hf
            refine va_lald (f := (x_lineSums S_10)) hx hb hK hI.1 7 5 rfl rfl g_42 dX2_both_42 ?_
            obtain ⟨r_43, hf_43, hf⟩ := zB1_s hf
            refine z_callS C 2 (kX2_multiplied l zq D ((x_lineSums S_10) a1.toNatClampNeg) ((x_lineSums S_10) a2.toNatClampNeg) r_43 hf_43) gX2_both_X2_multiplied rfl (by decide +kernel) ⟨by decide, by decide⟩ hI rfl hl.1 rfl (Nat.le_of_ble_eq_true rfl) dX2_both_43 ⟨by decide, by decide⟩ (st2 := [.long r_43]) rfl (fun H locs hI => ?_)
            refine lv_goto (tgt := 62) hx hb dX2_both_46 (by decide) ?_
            obtain ⟨h1, h2⟩ := zP2 hf
            rw [hQ]
            exact z_lret C (by rw [h2]; exact hI) (by rw [h1]) dX2_both_62
        · replace hf := zIf c_22 hf
          refine lv_lconst (v := 0) hx hb dX2_both_25 (by decide) ?_
          obtain ⟨h1, h2⟩ := zP2 hf
          rw [hQ]
          exact z_lret C (by rw [h2]; exact hI) (by rw [h1]) dX2_both_26

def fX2_with (a1 : Int32) (a2 : Int32) (a3 : Int32) (S : XS) : Option (Int64 × XS) :=
(zB2 (fX2_isLine a1 S) (fun r_2 S_2 =>
(if r_2 = 0 then some ((0 : Int64), S_2) else
(if a2 < 0 then some ((0 : Int64), S_2) else
(if (6 : Int32) ≤ a2 then some ((0 : Int64), S_2) else
(if a3 < 0 then some ((0 : Int64), S_2) else
(if a3 ≤ (1 : Int32) then (zGI a1 32
((zGI a2 6
((zL (((x_lineSums S_2) a1.toNatClampNeg) &&& (zHas a2.toNatClampNeg)) (fun n_41 =>
(zGI a1 32
((zGI a2 6
((zL (((x_lineSums S_2) a1.toNatClampNeg) &&& ((zHas a2.toNatClampNeg) ^^^ (-1 : Int64))) (fun n_59 =>
(if a3 = 0 then some (n_59, S_2) else
some ((n_59 ^^^ (zLushr n_41 ((1 : Int32) <<< (a2 &&& 31)))), S_2)))))))))))))) else
some ((0 : Int64), S_2))))))))
set_option maxHeartbeats 4000000 in
set_option maxRecDepth 100000 in
theorem kX2_with (l : Launch) (zq : Nat → Nat) (D : va_G) (cy : Nat → ClassId) (ad : Nat → Nat) (a1 : Int32) (a2 : Int32) (a3 : Int32) (S S' : XS) (r : Int64) (hf : fX2_with a1 a2 a3 S = some (r, S')) : zMet l yX2_with wsX2_with 1 21 zq D (tX cy) (wX cy ad S) [.ref (ad 0), .int a1, .int a2, .int a3] (some (.long r)) (wX cy ad S') := by
  refine zMet.of cX2_with 8 (some .long) (by decide) rfl (Nat.le_of_ble_eq_true rfl) ?_
  intro p e s m args below meth c A ls C hl hI
  have hl : lv_has ls 8 [(0, .ref (ad 0)), (1, .int a1), (2, .int a2), (3, .int a3)] := hl
  have C : zC p s m args meth c cX2_with 8 (some .long) RX2 wsX2_with D (tX cy) zq A := C
  obtain ⟨hx, hb, hml, hown, hts, hret, hlk, hK, hX, hA⟩ := id C
  have hiX2 : ∀ w ∈ wsX20, w ∈ wsX2_with := by decide +kernel
  obtain ⟨Q, hQ⟩ : ∃ Q, Q = MQ below (zQ D (tX cy) (wX cy ad S') (some (.long r)) A) args s 0 0 A := ⟨_, rfl⟩
  rw [← hQ]
  unfold fX2_with at hf
  refine lv_aload_n hx hb dX2_with_0 rfl (lv_at hl 0 rfl) ?_
  refine lv_iload_n hx hb dX2_with_1 rfl (lv_at hl 1 rfl) ?_
  obtain ⟨r_2, S_2, hf_2, hf⟩ := zB2_s hf
  refine z_callV (w2 := (wX cy ad S_2)) C 1 (kX2_isLine l zq D cy ad a1 S S_2 r_2 hf_2) gX2_with_X2_isLine rfl (by decide +kernel) ⟨by decide, by decide⟩ hI 0 rfl rfl rfl hl.1 rfl (Nat.le_of_ble_eq_true rfl) dX2_with_2 ⟨by decide, by decide⟩ (st2 := [.int r_2]) rfl (fun H locs hI => ?_)
  refine lv_if_eq (tgt := 27) hx hb dX2_with_5 (by decide) (fun c_5 => ?_) (fun c_5 => ?_)
  · replace hf := zIt c_5 hf
    refine lv_lconst (v := 0) hx hb dX2_with_27 (by decide) ?_
    obtain ⟨h1, h2⟩ := zP2 hf
    rw [hQ]
    exact z_lret C (by rw [h2]; exact hI) (by rw [h1]) dX2_with_28
  · replace hf := zIf c_5 hf
    refine lv_iload_n hx hb dX2_with_8 rfl (lv_at hl 2 rfl) ?_
    refine lv_if_lt (tgt := 27) hx hb dX2_with_9 (by decide) (fun c_9 => ?_) (fun c_9 => ?_)
    · replace hf := zIt c_9 hf
      refine lv_lconst (v := 0) hx hb dX2_with_27 (by decide) ?_
      obtain ⟨h1, h2⟩ := zP2 hf
      rw [hQ]
      exact z_lret C (by rw [h2]; exact hI) (by rw [h1]) dX2_with_28
    · replace hf := zIf c_9 hf
      refine lv_iload_n hx hb dX2_with_12 rfl (lv_at hl 2 rfl) ?_
      refine lv_bipush (v := 6) hx hb dX2_with_13 (by decide) ?_
      refine lv_icmp_ge (tgt := 27) hx hb dX2_with_15 (by decide) (fun c_15 => ?_) (fun c_15 => ?_)
      · replace hf := zIt c_15 hf
        refine lv_lconst (v := 0) hx hb dX2_with_27 (by decide) ?_
        obtain ⟨h1, h2⟩ := zP2 hf
        rw [hQ]
        exact z_lret C (by rw [h2]; exact hI) (by rw [h1]) dX2_with_28
      · replace hf := zIf c_15 hf
        refine lv_iload_n hx hb dX2_with_18 rfl (lv_at hl 3 rfl) ?_
        refine lv_if_lt (tgt := 27) hx hb dX2_with_19 (by decide) (fun c_19 => ?_) (fun c_19 => ?_)
        · replace hf := zIt c_19 hf
          refine lv_lconst (v := 0) hx hb dX2_with_27 (by decide) ?_
          obtain ⟨h1, h2⟩ := zP2 hf
          rw [hQ]
          exact z_lret C (by rw [h2]; exact hI) (by rw [h1]) dX2_with_28
        · replace hf := zIf c_19 hf
          refine lv_iload_n hx hb dX2_with_22 rfl (lv_at hl 3 rfl) ?_
          refine lv_iconst (v := 1) hx hb dX2_with_23 (by decide) ?_
          refine lv_icmp_le (tgt := 29) hx hb dX2_with_24 (by decide) (fun c_24 => ?_) (fun c_24 => ?_)
          · replace hf := zIt c_24 hf
            refine lv_aload_n hx hb dX2_with_29 rfl (lv_at hl 0 rfl) ?_
            refine va_get (D := D) (ci := 2) (v := .ref (ad 7)) (C := RX2) (T := TX2) (N := 13) hx hb hts hiX2 hown hK hI.1 0 rfl rfl 1 (by decide) (hts (.fieldLink RX2 16 "NoughtSums" "lineSums" "[J") (by decide +kernel)) (fun _ h9 => h9) rfl dX2_with_30 ?_
            refine lv_iload_n hx hb dX2_with_33 rfl (lv_at hl 1 rfl) ?_
            obtain ⟨g_34, hf⟩ := zGI_s hf
            refine va_lald (f := (x_lineSums S_2)) hx hb hK hI.1 7 5 rfl rfl g_34 dX2_with_34 ?_
            refine va_gets (C := RX2) (n := "HAS_LETTER") (d := "[J") hx hb hX.2.2.2.1 hI.2.2 hown (hts (.fieldLink RX2 120 "NoughtSums" "HAS_LETTER" "[J") (by decide +kernel)) (fun _ h9 => h9) dX2_with_35 ?_
            refine lv_iload_n hx hb dX2_with_38 rfl (lv_at hl 2 rfl) ?_
            obtain ⟨g_39, hf⟩ := zGI_s hf
            refine va_tl hx hb hX.2.2.2.2.1 hI.2.2 g_39 (v := .long (zHas a2.toNatClampNeg)) rfl dX2_with_39 ?_
            refine lv_land hx hb dX2_with_40 ?_
            refine lv_topl (fun n_41 e_41 => ?_)
            replace hf := zL_s hf e_41
            refine lv_lstore (lv' := [(4, .long n_41), (0, .ref (ad 0)), (1, .int a1), (2, .int a2), (3, .int a3)]) hx hb dX2_with_41 hl (by decide) rfl (fun ls hl => ?_)
            refine lv_aload_n hx hb dX2_with_43 rfl (lv_at hl 1 rfl) ?_
            refine va_get (D := D) (ci := 2) (v := .ref (ad 7)) (C := RX2) (T := TX2) (N := 13) hx hb hts hiX2 hown hK hI.1 0 rfl rfl 1 (by decide) (hts (.fieldLink RX2 16 "NoughtSums" "lineSums" "[J") (by decide +kernel)) (fun _ h9 => h9) rfl dX2_with_44 ?_
            refine lv_iload_n hx hb dX2_with_47 rfl (lv_at hl 2 rfl) ?_
            obtain ⟨g_48, hf⟩ := zGI_s hf
            refine va_lald (f := (x_lineSums S_2)) hx hb hK hI.1 7 5 rfl rfl g_48 dX2_with_48 ?_
            refine va_gets (C := RX2) (n := "HAS_LETTER") (d := "[J") hx hb hX.2.2.2.1 hI.2.2 hown (hts (.fieldLink RX2 120 "NoughtSums" "HAS_LETTER" "[J") (by decide +kernel)) (fun _ h9 => h9) dX2_with_49 ?_
            refine lv_iload_n hx hb dX2_with_52 rfl (lv_at hl 3 rfl) ?_
            obtain ⟨g_53, hf⟩ := zGI_s hf
            refine va_tl hx hb hX.2.2.2.2.1 hI.2.2 g_53 (v := .long (zHas a2.toNatClampNeg)) rfl dX2_with_53 ?_
            refine lv_ldc2 hx hb hown (hts (.constantLong RX2 36 (-1)) (by decide +kernel)) dX2_with_54 ?_
            refine lv_lxor hx hb dX2_with_57 ?_
            refine lv_land hx hb dX2_with_58 ?_
            refine lv_topl (fun n_59 e_59 => ?_)
            replace hf := zL_s hf e_59
            refine lv_lstore (lv' := [(6, .long n_59), (4, .long n_41), (0, .ref (ad 0)), (1, .int a1), (2, .int a2), (3, .int a3)]) hx hb dX2_with_59 hl (by decide) rfl (fun ls hl => ?_)
            refine lv_iload_n hx hb dX2_with_61 rfl (lv_at hl 5 rfl) ?_
            refine lv_if_ne (tgt := 70) hx hb dX2_with_62 (by decide) (fun c_62 => ?_) (fun c_62 => ?_)
            · replace hf := zIf c_62 hf
              refine lv_lload hx hb dX2_with_70 (lv_at hl 0 rfl) ?_
              refine lv_lload hx hb dX2_with_72 (lv_at hl 1 rfl) ?_
              refine lv_iconst (v := 1) hx hb dX2_with_74 (by decide) ?_
              refine lv_iload_n hx hb dX2_with_75 rfl (lv_at hl 4 rfl) ?_
              refine lv_ishl hx hb dX2_with_76 ?_
              refine lv_lushr (v := zLushr n_41 ((1 : Int32) <<< (a2 &&& 31))) hx hb dX2_with_77 rfl ?_
              refine lv_lxor hx hb dX2_with_78 ?_
              obtain ⟨h1, h2⟩ := zP2 hf
              rw [hQ]
              exact z_lret C (by rw [h2]; exact hI) (by rw [h1]) dX2_with_79
            · replace hf := zIt c_62 hf
              refine lv_lload hx hb dX2_with_65 (lv_at hl 0 rfl) ?_
              refine lv_goto (tgt := 79) hx hb dX2_with_67 (by decide) ?_
              obtain ⟨h1, h2⟩ := zP2 hf
              rw [hQ]
              exact z_lret C (by rw [h2]; exact hI) (by rw [h1]) dX2_with_79
          · replace hf := zIf c_24 hf
            refine lv_lconst (v := 0) hx hb dX2_with_27 (by decide) ?_
            obtain ⟨h1, h2⟩ := zP2 hf
            rw [hQ]
            exact z_lret C (by rw [h2]; exact hI) (by rw [h1]) dX2_with_28

def fX2_common  (S : XS) : Option (Int64 × XS) :=
some ((x_commonWorlds S), S)
set_option maxHeartbeats 4000000 in
set_option maxRecDepth 100000 in
theorem kX2_common (l : Launch) (zq : Nat → Nat) (D : va_G) (cy : Nat → ClassId) (ad : Nat → Nat)  (S S' : XS) (r : Int64) (hf : fX2_common S = some (r, S')) : zMet l yX2_common wsX2_common 0 0 zq D (tX cy) (wX cy ad S) [.ref (ad 0)] (some (.long r)) (wX cy ad S') := by
  refine zMet.of cX2_common 1 (some .long) (by decide) rfl (Nat.le_of_ble_eq_true rfl) ?_
  intro p e s m args below meth c A ls C hl hI
  have hl : lv_has ls 1 [(0, .ref (ad 0))] := hl
  have C : zC p s m args meth c cX2_common 1 (some .long) RX2 wsX2_common D (tX cy) zq A := C
  obtain ⟨hx, hb, hml, hown, hts, hret, hlk, hK, hX, hA⟩ := id C
  have hiX2 : ∀ w ∈ wsX20, w ∈ wsX2_common := by decide +kernel
  obtain ⟨Q, hQ⟩ : ∃ Q, Q = MQ below (zQ D (tX cy) (wX cy ad S') (some (.long r)) A) args s 0 0 A := ⟨_, rfl⟩
  rw [← hQ]
  unfold fX2_common at hf
  refine lv_aload_n hx hb dX2_common_0 rfl (lv_at hl 0 rfl) ?_
  refine va_get (D := D) (ci := 2) (v := .long (x_commonWorlds S)) (C := RX2) (T := TX2) (N := 13) hx hb hts hiX2 hown hK hI.1 0 rfl rfl 7 (by decide) (hts (.fieldLink RX2 38 "NoughtSums" "commonWorlds" "J") (by decide +kernel)) (fun _ h9 => h9) rfl dX2_common_1 ?_
  obtain ⟨h1, h2⟩ := zP2 hf
  rw [hQ]
  exact z_lret C (by rw [h2]; exact hI) (by rw [h1]) dX2_common_4

def fX2_follows (a1 : Int32) (S : XS) : Option (Int32 × XS) :=
(zB2 (fX2_isLine a1 S) (fun r_2 S_2 =>
(if r_2 = 0 then some ((-1 : Int32), S_2) else
(zGI a1 32
((if (lg_cmp (((x_lineValues S_2) a1.toNatClampNeg) &&& (x_commonWorlds S_2)) (0 : Int64)) = 0 then some ((1 : Int32), S_2) else
some ((0 : Int32), S_2)))))))
set_option maxHeartbeats 4000000 in
set_option maxRecDepth 100000 in
theorem kX2_follows (l : Launch) (zq : Nat → Nat) (D : va_G) (cy : Nat → ClassId) (ad : Nat → Nat) (a1 : Int32) (S S' : XS) (r : Int32) (hf : fX2_follows a1 S = some (r, S')) : zMet l yX2_follows wsX2_follows 1 21 zq D (tX cy) (wX cy ad S) [.ref (ad 0), .int a1] (some (.int r)) (wX cy ad S') := by
  refine zMet.of cX2_follows 2 (some .int) (by decide) rfl (Nat.le_of_ble_eq_true rfl) ?_
  intro p e s m args below meth c A ls C hl hI
  have hl : lv_has ls 2 [(0, .ref (ad 0)), (1, .int a1)] := hl
  have C : zC p s m args meth c cX2_follows 2 (some .int) RX2 wsX2_follows D (tX cy) zq A := C
  obtain ⟨hx, hb, hml, hown, hts, hret, hlk, hK, hX, hA⟩ := id C
  have hiX2 : ∀ w ∈ wsX20, w ∈ wsX2_follows := by decide +kernel
  obtain ⟨Q, hQ⟩ : ∃ Q, Q = MQ below (zQ D (tX cy) (wX cy ad S') (some (.int r)) A) args s 0 0 A := ⟨_, rfl⟩
  rw [← hQ]
  unfold fX2_follows at hf
  refine lv_aload_n hx hb dX2_follows_0 rfl (lv_at hl 0 rfl) ?_
  refine lv_iload_n hx hb dX2_follows_1 rfl (lv_at hl 1 rfl) ?_
  obtain ⟨r_2, S_2, hf_2, hf⟩ := zB2_s hf
  refine z_callV (w2 := (wX cy ad S_2)) C 1 (kX2_isLine l zq D cy ad a1 S S_2 r_2 hf_2) gX2_follows_X2_isLine rfl (by decide +kernel) ⟨by decide, by decide⟩ hI 0 rfl rfl rfl hl.1 rfl (Nat.le_of_ble_eq_true rfl) dX2_follows_2 ⟨by decide, by decide⟩ (st2 := [.int r_2]) rfl (fun H locs hI => ?_)
  refine lv_if_ne (tgt := 10) hx hb dX2_follows_5 (by decide) (fun c_5 => ?_) (fun c_5 => ?_)
  · replace hf := zIf c_5 hf
    refine lv_aload_n hx hb dX2_follows_10 rfl (lv_at hl 0 rfl) ?_
    refine va_get (D := D) (ci := 2) (v := .ref (ad 8)) (C := RX2) (T := TX2) (N := 13) hx hb hts hiX2 hown hK hI.1 0 rfl rfl 2 (by decide) (hts (.fieldLink RX2 20 "NoughtSums" "lineValues" "[J") (by decide +kernel)) (fun _ h9 => h9) rfl dX2_follows_11 ?_
    refine lv_iload_n hx hb dX2_follows_14 rfl (lv_at hl 1 rfl) ?_
    obtain ⟨g_15, hf⟩ := zGI_s hf
    refine va_lald (f := (x_lineValues S_2)) hx hb hK hI.1 8 6 rfl rfl g_15 dX2_follows_15 ?_
    refine lv_aload_n hx hb dX2_follows_16 rfl (lv_at hl 0 rfl) ?_
    refine va_get (D := D) (ci := 2) (v := .long (x_commonWorlds S_2)) (C := RX2) (T := TX2) (N := 13) hx hb hts hiX2 hown hK hI.1 0 rfl rfl 7 (by decide) (hts (.fieldLink RX2 38 "NoughtSums" "commonWorlds" "J") (by decide +kernel)) (fun _ h9 => h9) rfl dX2_follows_17 ?_
    refine lv_land hx hb dX2_follows_20 ?_
    refine lv_lconst (v := 0) hx hb dX2_follows_21 (by decide) ?_
    refine W.lcmp hx hb dX2_follows_22 ?_
    refine lv_if_ne (tgt := 30) hx hb dX2_follows_23 (by decide) (fun c_23 => ?_) (fun c_23 => ?_)
    · replace hf := zIf c_23 hf
      refine lv_iconst (v := 0) hx hb dX2_follows_30 (by decide) ?_
      obtain ⟨h1, h2⟩ := zP2 hf
      rw [hQ]
      exact z_iret C (by rw [h2]; exact hI) (by rw [h1]) dX2_follows_31
    · replace hf := zIt c_23 hf
      refine lv_iconst (v := 1) hx hb dX2_follows_26 (by decide) ?_
      refine lv_goto (tgt := 31) hx hb dX2_follows_27 (by decide) ?_
      obtain ⟨h1, h2⟩ := zP2 hf
      rw [hQ]
      exact z_iret C (by rw [h2]; exact hI) (by rw [h1]) dX2_follows_31
  · replace hf := zIt c_5 hf
    refine lv_iconst (v := -1) hx hb dX2_follows_8 (by decide) ?_
    obtain ⟨h1, h2⟩ := zP2 hf
    rw [hQ]
    exact z_iret C (by rw [h2]; exact hI) (by rw [h1]) dX2_follows_9

def fX2_addMultiples_b36 (k3 : Int64 → Int32 → Int32 → Int32 → XS → Option XS) (v1 : Int64) (v3 : Int32) (v4 : Int32) (v5 : Int32) (S : XS) : Option XS :=
k3 v1 v3 v4 (v5 + (1 : Int32)) S

def fX2_addMultiples_b3 (k3 : Int64 → Int32 → Int32 → Int32 → XS → Option XS) (v1 : Int64) (v3 : Int32) (v4 : Int32) (v5 : Int32) (S : XS) : Option XS :=
(if (64 : Int32) ≤ v5 then some S else
(zB1 (fJ6_bitCount_0f7a4 v5) (fun r_12 =>
(if r_12 = v3 then (zB1 (fX2_multiplied v1 ((1 : Int64) <<< (v5.toInt64 &&& 63))) (fun r_28 =>
(zB1 (fX0_add r_28 v4 (x_following S)) (fun S_33 =>
(zL (x_following_u S S_33) (fun W_33 =>
fX2_addMultiples_b36 k3 v1 v3 v4 v5 W_33)))))) else
fX2_addMultiples_b36 k3 v1 v3 v4 v5 S))))
def fX2_addMultiples_b3L : Nat → Int64 → Int32 → Int32 → Int32 → XS → Option XS
  | 0, _, _, _, _, _ => none
  | n + 1, v1, v3, v4, v5, S => fX2_addMultiples_b3 (fX2_addMultiples_b3L n) v1 v3 v4 v5 S

def fX2_addMultiples (a1 : Int64) (a3 : Int32) (a4 : Int32) (S : XS) : Option XS :=
fX2_addMultiples_b3L zF a1 a3 a4 (0 : Int32) S
set_option maxHeartbeats 4000000 in
set_option maxRecDepth 100000 in
theorem kX2_addMultiples (l : Launch) (zq : Nat → Nat) (D : va_G) (cy : Nat → ClassId) (ad : Nat → Nat) (a1 : Int64) (a3 : Int32) (a4 : Int32) (S S' : XS) (hf : fX2_addMultiples a1 a3 a4 S = some S') : zMet l yX2_addMultiples wsX2_addMultiples 2 51 zq D (tX cy) (wX cy ad S) [.ref (ad 0), .long a1, .int a3, .int a4] none (wX cy ad S') := by
  refine zMet.of cX2_addMultiples 6 none (by decide) rfl (Nat.le_of_ble_eq_true rfl) ?_
  intro p e s m args below meth c A ls C hl hI
  have hl : lv_has ls 6 [(0, .ref (ad 0)), (1, .long a1), (3, .int a3), (4, .int a4)] := hl
  have C : zC p s m args meth c cX2_addMultiples 6 none RX2 wsX2_addMultiples D (tX cy) zq A := C
  obtain ⟨hx, hb, hml, hown, hts, hret, hlk, hK, hX, hA⟩ := id C
  have hiX2 : ∀ w ∈ wsX20, w ∈ wsX2_addMultiples := by decide +kernel
  obtain ⟨Q, hQ⟩ : ∃ Q, Q = MQ below (zQ D (tX cy) (wX cy ad S') none A) args s 0 0 A := ⟨_, rfl⟩
  rw [← hQ]
  have hb36 : ∀ (k3 : Int64 → Int32 → Int32 → Int32 → XS → Option XS) (hk3 : ∀ (v1 : Int64) (v3 : Int32) (v4 : Int32) (v5 : Int32) (S : XS) (H : Heap) (locs : List Loc) (ls : Array Slot), k3 v1 v3 v4 v5 S = some S' → zI D A s H locs (wX cy ad S) → lv_has ls 6 [(0, .ref (ad 0)), (1, .long v1), (3, .int v3), (4, .int v4), (5, .int v5)] → W p l e { frames := 2, cells := 0, slots := 0, locals := 51 } s m args below meth c H locs 0 0 Q (F0 m 3 ls [])), ∀ (v1 : Int64) (v3 : Int32) (v4 : Int32) (v5 : Int32) (S : XS) (H : Heap) (locs : List Loc) (ls : Array Slot), fX2_addMultiples_b36 k3 v1 v3 v4 v5 S = some S' → zI D A s H locs (wX cy ad S) → lv_has ls 6 [(0, .ref (ad 0)), (1, .long v1), (3, .int v3), (4, .int v4), (5, .int v5)] → W p l e { frames := 2, cells := 0, slots := 0, locals := 51 } s m args below meth c H locs 0 0 Q (F0 m 36 ls []) := by
    intro k3 hk3 v1 v3 v4 v5 S H locs ls hf hI hl
    unfold fX2_addMultiples_b36 at hf
    refine lv_iinc (v := (v5 + (1 : Int32))) (lv' := [(5, .int (v5 + (1 : Int32))), (0, .ref (ad 0)), (1, .long v1), (3, .int v3), (4, .int v4)]) hx hb dX2_addMultiples_36 hl (k := 4) rfl rfl (by decide) rfl (fun ls hl => ?_)
    refine lv_goto (tgt := 3) hx hb dX2_addMultiples_39 (by decide) ?_
    exact hk3 v1 v3 v4 (v5 + (1 : Int32)) S _ _ _ hf hI (lv_sub hl [1, 2, 3, 4, 0] rfl)
  have hb3 : ∀ (n : Nat), ∀ (v1 : Int64) (v3 : Int32) (v4 : Int32) (v5 : Int32) (S : XS) (H : Heap) (locs : List Loc) (ls : Array Slot), fX2_addMultiples_b3L n v1 v3 v4 v5 S = some S' → zI D A s H locs (wX cy ad S) → lv_has ls 6 [(0, .ref (ad 0)), (1, .long v1), (3, .int v3), (4, .int v4), (5, .int v5)] → W p l e { frames := 2, cells := 0, slots := 0, locals := 51 } s m args below meth c H locs 0 0 Q (F0 m 3 ls []) := by
    intro n
    induction n with
    | zero => intro v1 v3 v4 v5 S H locs ls hf; cases (show (none : Option XS) = some S' from hf)
    | succ n ih =>
      intro v1 v3 v4 v5 S H locs ls hf hI hl
      have hf : fX2_addMultiples_b3 (fX2_addMultiples_b3L n) v1 v3 v4 v5 S = some S' := hf
      unfold fX2_addMultiples_b3 at hf
      refine lv_iload hx hb dX2_addMultiples_3 (lv_at hl 4 rfl) ?_
      refine lv_bipush (v := 64) hx hb dX2_addMultiples_5 (by decide) ?_
      refine lv_icmp_ge (tgt := 42) hx hb dX2_addMultiples_7 (by decide) (fun c_7 => ?_) (fun c_7 => ?_)
      · replace hf := zIt c_7 hf
        have h2 := zP1 hf
        rw [hQ]
        exact z_vret C (by rw [h2]; exact hI) rfl dX2_addMultiples_42
      · replace hf := zIf c_7 hf
        refine lv_iload hx hb dX2_addMultiples_10 (lv_at hl 4 rfl) ?_
        obtain ⟨r_12, hf_12, hf⟩ := zB1_s hf
        refine z_callS C 1 (kJ6_bitCount_0f7a4 l zq D v5 r_12 hf_12) gX2_addMultiples_J6_bitCount_0f7a4 rfl (by decide +kernel) ⟨by decide, by decide⟩ hI rfl hl.1 rfl (Nat.le_of_ble_eq_true rfl) dX2_addMultiples_12 ⟨by decide, by decide⟩ (st2 := [.int r_12]) rfl (fun H locs hI => ?_)
        refine lv_iload_n hx hb dX2_addMultiples_15 rfl (lv_at hl 2 rfl) ?_
        refine lv_icmp_ne (tgt := 36) hx hb dX2_addMultiples_16 (by decide) (fun c_16 => ?_) (fun c_16 => ?_)
        · replace hf := zIf c_16 hf
          exact hb36 (fX2_addMultiples_b3L n) ih v1 v3 v4 v5 S _ _ _ hf hI (lv_sub hl [0, 1, 2, 3, 4] rfl)
        · replace hf := zIt c_16 hf
          refine lv_aload_n hx hb dX2_addMultiples_19 rfl (lv_at hl 0 rfl) ?_
          refine va_get (D := D) (ci := 2) (v := .ref (ad 9)) (C := RX2) (T := TX2) (N := 13) hx hb hts hiX2 hown hK hI.1 0 rfl rfl 9 (by decide) (hts (.fieldLink RX2 48 "NoughtSums" "following" "LNoughtSums$Span;") (by decide +kernel)) (fun _ h9 => h9) rfl dX2_addMultiples_20 ?_
          refine lv_lload_n hx hb dX2_addMultiples_23 rfl (lv_at hl 1 rfl) ?_
          refine lv_lconst (v := 1) hx hb dX2_addMultiples_24 (by decide) ?_
          refine lv_iload hx hb dX2_addMultiples_25 (lv_at hl 4 rfl) ?_
          refine lv_lshl hx hb dX2_addMultiples_27 rfl ?_
          obtain ⟨r_28, hf_28, hf⟩ := zB1_s hf
          refine z_callS C 2 (kX2_multiplied l zq D v1 ((1 : Int64) <<< (v5.toInt64 &&& 63)) r_28 hf_28) gX2_addMultiples_X2_multiplied rfl (by decide +kernel) ⟨by decide, by decide⟩ hI rfl hl.1 rfl (Nat.le_of_ble_eq_true rfl) dX2_addMultiples_28 ⟨by decide, by decide⟩ (st2 := [.long r_28, .ref (ad 9)]) rfl (fun H locs hI => ?_)
          refine lv_iload hx hb dX2_addMultiples_31 (lv_at hl 3 rfl) ?_
          obtain ⟨S_33, hf_33, hf⟩ := zB1_s hf
          obtain ⟨W_33, eW_33, hf⟩ := zL_e hf
          refine z_callX (w2 := (wX cy ad W_33)) C 2 (kX0_add l zq D (fun k => cy (k + 9)) (fun k => ad (k + 9)) r_28 v4 (x_following S) S_33 hf_33) gX2_addMultiples_X0_add rfl (by decide +kernel) ⟨by decide, by decide⟩ hI 9 rfl rfl [9, 10, 11, 12] [0, 1, 2, 3, 4, 5, 6, 7, 8, 13, 14, 15, 16] [0, 1, 2, 3, 4, 5, 6, 7, 8, 13, 14, 15, 16, 9, 10, 11, 12] [7, 8, 9] rfl rfl rfl rfl (by decide) rfl (by rw [eW_33]; rfl) rfl rfl hl.1 rfl (Nat.le_of_ble_eq_true rfl) dX2_addMultiples_33 ⟨by decide, by decide⟩ (st2 := []) rfl (fun H locs hI => ?_)
          exact hb36 (fX2_addMultiples_b3L n) ih v1 v3 v4 v5 W_33 _ _ _ hf hI (lv_sub hl [0, 1, 2, 3, 4] rfl)
  unfold fX2_addMultiples at hf
  refine lv_iconst (v := 0) hx hb dX2_addMultiples_0 (by decide) ?_
  refine lv_istore (lv' := [(5, .int (0 : Int32)), (0, .ref (ad 0)), (1, .long a1), (3, .int a3), (4, .int a4)]) hx hb dX2_addMultiples_1 hl (by decide) rfl (fun ls hl => ?_)
  exact hb3 zF a1 a3 a4 (0 : Int32) S _ _ _ hf hI (lv_sub hl [1, 2, 3, 4, 0] rfl)

def fX2_makeFollowing_b100 (k28 : Int32 → Int32 → XS → Option XS) (v1 : Int32) (v2 : Int32) (S : XS) : Option XS :=
k28 v1 (v2 + (1 : Int32)) S

def fX2_makeFollowing_b94 (k28 : Int32 → Int32 → XS → Option XS) (k47 : Int32 → Int32 → Int32 → XS → Option XS) (v1 : Int32) (v2 : Int32) (v3 : Int32) (S : XS) : Option XS :=
k47 v1 v2 (v3 + (1 : Int32)) S

def fX2_makeFollowing_b47 (k28 : Int32 → Int32 → XS → Option XS) (k47 : Int32 → Int32 → Int32 → XS → Option XS) (v1 : Int32) (v2 : Int32) (v3 : Int32) (S : XS) : Option XS :=
(if (x_givenLines S) ≤ v3 then fX2_makeFollowing_b100 k28 v1 v2 S else
(if (8 : Int32) ≤ v3 then fX2_makeFollowing_b100 k28 v1 v2 S else
(zGI v3 32
((if (lg_cmp ((x_lineSums S) v3.toNatClampNeg) (0 : Int64)) = 0 then fX2_makeFollowing_b94 k28 k47 v1 v2 v3 S else
(zGI v3 32
((zGI v3 32
((zB1 (fX2_degreeOf ((x_lineSums S) v3.toNatClampNeg)) (fun r_86 =>
(zB1 (fX2_addMultiples ((x_lineSums S) v3.toNatClampNeg) (v2 - r_86) v2 S) (fun S_91 =>
fX2_makeFollowing_b94 k28 k47 v1 v2 v3 S_91)))))))))))))
def fX2_makeFollowing_b47L (k28 : Int32 → Int32 → XS → Option XS) : Nat → Int32 → Int32 → Int32 → XS → Option XS
  | 0, _, _, _, _ => none
  | n + 1, v1, v2, v3, S => fX2_makeFollowing_b47 k28 (fX2_makeFollowing_b47L k28 n) v1 v2 v3 S

def fX2_makeFollowing_b28 (k28 : Int32 → Int32 → XS → Option XS) (v1 : Int32) (v2 : Int32) (S : XS) : Option XS :=
(if (12 : Int32) < v2 then (zL (x_followingStands_u S (1 : Int32)) (fun S_108 =>
some S_108)) else
(if v1 ≤ (s_size (x_following S)) then (zL (x_followingStands_u S (1 : Int32)) (fun S_108 =>
some S_108)) else
fX2_makeFollowing_b47L k28 zF v1 v2 (0 : Int32) S))
def fX2_makeFollowing_b28L : Nat → Int32 → Int32 → XS → Option XS
  | 0, _, _, _ => none
  | n + 1, v1, v2, S => fX2_makeFollowing_b28 (fX2_makeFollowing_b28L n) v1 v2 S

def fX2_makeFollowing  (S : XS) : Option XS :=
(if (x_followingStands S) = 0 then (zB1 (fX0_empty (x_following S)) (fun S_12 =>
(zL (x_following_u S S_12) (fun W_12 =>
(zB1 (fJ13_bitCount_95d88 (x_commonWorlds W_12)) (fun r_21 =>
fX2_makeFollowing_b28L zF ((64 : Int32) - r_21) (0 : Int32) W_12)))))) else
some S)
set_option maxHeartbeats 4000000 in
set_option maxRecDepth 100000 in
theorem kX2_makeFollowing (l : Launch) (zq : Nat → Nat) (D : va_G) (cy : Nat → ClassId) (ad : Nat → Nat)  (S S' : XS) (hf : fX2_makeFollowing S = some S') : zMet l yX2_makeFollowing wsX2_makeFollowing 3 76 zq D (tX cy) (wX cy ad S) [.ref (ad 0)] none (wX cy ad S') := by
  refine zMet.of cX2_makeFollowing 4 none (by decide) rfl (Nat.le_of_ble_eq_true rfl) ?_
  intro p e s m args below meth c A ls C hl hI
  have hl : lv_has ls 4 [(0, .ref (ad 0))] := hl
  have C : zC p s m args meth c cX2_makeFollowing 4 none RX2 wsX2_makeFollowing D (tX cy) zq A := C
  obtain ⟨hx, hb, hml, hown, hts, hret, hlk, hK, hX, hA⟩ := id C
  have hiX0 : ∀ w ∈ wsX00, w ∈ wsX2_makeFollowing := by decide +kernel
  have hiX2 : ∀ w ∈ wsX20, w ∈ wsX2_makeFollowing := by decide +kernel
  obtain ⟨Q, hQ⟩ : ∃ Q, Q = MQ below (zQ D (tX cy) (wX cy ad S') none A) args s 0 0 A := ⟨_, rfl⟩
  rw [← hQ]
  have hb100 : ∀ (k28 : Int32 → Int32 → XS → Option XS) (hk28 : ∀ (v1 : Int32) (v2 : Int32) (S : XS) (H : Heap) (locs : List Loc) (ls : Array Slot), k28 v1 v2 S = some S' → zI D A s H locs (wX cy ad S) → lv_has ls 4 [(0, .ref (ad 0)), (1, .int v1), (2, .int v2)] → W p l e { frames := 3, cells := 0, slots := 0, locals := 76 } s m args below meth c H locs 0 0 Q (F0 m 28 ls [])), ∀ (v1 : Int32) (v2 : Int32) (S : XS) (H : Heap) (locs : List Loc) (ls : Array Slot), fX2_makeFollowing_b100 k28 v1 v2 S = some S' → zI D A s H locs (wX cy ad S) → lv_has ls 4 [(0, .ref (ad 0)), (1, .int v1), (2, .int v2)] → W p l e { frames := 3, cells := 0, slots := 0, locals := 76 } s m args below meth c H locs 0 0 Q (F0 m 100 ls []) := by
    intro k28 hk28 v1 v2 S H locs ls hf hI hl
    unfold fX2_makeFollowing_b100 at hf
    refine lv_iinc (v := (v2 + (1 : Int32))) (lv' := [(2, .int (v2 + (1 : Int32))), (0, .ref (ad 0)), (1, .int v1)]) hx hb dX2_makeFollowing_100 hl (k := 2) rfl rfl (by decide) rfl (fun ls hl => ?_)
    refine lv_goto (tgt := 28) hx hb dX2_makeFollowing_103 (by decide) ?_
    exact hk28 v1 (v2 + (1 : Int32)) S _ _ _ hf hI (lv_sub hl [1, 2, 0] rfl)
  have hb94 : ∀ (k28 : Int32 → Int32 → XS → Option XS) (hk28 : ∀ (v1 : Int32) (v2 : Int32) (S : XS) (H : Heap) (locs : List Loc) (ls : Array Slot), k28 v1 v2 S = some S' → zI D A s H locs (wX cy ad S) → lv_has ls 4 [(0, .ref (ad 0)), (1, .int v1), (2, .int v2)] → W p l e { frames := 3, cells := 0, slots := 0, locals := 76 } s m args below meth c H locs 0 0 Q (F0 m 28 ls [])) (k47 : Int32 → Int32 → Int32 → XS → Option XS) (hk47 : ∀ (v1 : Int32) (v2 : Int32) (v3 : Int32) (S : XS) (H : Heap) (locs : List Loc) (ls : Array Slot), k47 v1 v2 v3 S = some S' → zI D A s H locs (wX cy ad S) → lv_has ls 4 [(0, .ref (ad 0)), (1, .int v1), (2, .int v2), (3, .int v3)] → W p l e { frames := 3, cells := 0, slots := 0, locals := 76 } s m args below meth c H locs 0 0 Q (F0 m 47 ls [])), ∀ (v1 : Int32) (v2 : Int32) (v3 : Int32) (S : XS) (H : Heap) (locs : List Loc) (ls : Array Slot), fX2_makeFollowing_b94 k28 k47 v1 v2 v3 S = some S' → zI D A s H locs (wX cy ad S) → lv_has ls 4 [(0, .ref (ad 0)), (1, .int v1), (2, .int v2), (3, .int v3)] → W p l e { frames := 3, cells := 0, slots := 0, locals := 76 } s m args below meth c H locs 0 0 Q (F0 m 94 ls []) := by
    intro k28 hk28 k47 hk47 v1 v2 v3 S H locs ls hf hI hl
    unfold fX2_makeFollowing_b94 at hf
    refine lv_iinc (v := (v3 + (1 : Int32))) (lv' := [(3, .int (v3 + (1 : Int32))), (0, .ref (ad 0)), (1, .int v1), (2, .int v2)]) hx hb dX2_makeFollowing_94 hl (k := 3) rfl rfl (by decide) rfl (fun ls hl => ?_)
    refine lv_goto (tgt := 47) hx hb dX2_makeFollowing_97 (by decide) ?_
    exact hk47 v1 v2 (v3 + (1 : Int32)) S _ _ _ hf hI (lv_sub hl [1, 2, 3, 0] rfl)
  have hb47 : ∀ (k28 : Int32 → Int32 → XS → Option XS) (hk28 : ∀ (v1 : Int32) (v2 : Int32) (S : XS) (H : Heap) (locs : List Loc) (ls : Array Slot), k28 v1 v2 S = some S' → zI D A s H locs (wX cy ad S) → lv_has ls 4 [(0, .ref (ad 0)), (1, .int v1), (2, .int v2)] → W p l e { frames := 3, cells := 0, slots := 0, locals := 76 } s m args below meth c H locs 0 0 Q (F0 m 28 ls [])) (n : Nat), ∀ (v1 : Int32) (v2 : Int32) (v3 : Int32) (S : XS) (H : Heap) (locs : List Loc) (ls : Array Slot), fX2_makeFollowing_b47L k28 n v1 v2 v3 S = some S' → zI D A s H locs (wX cy ad S) → lv_has ls 4 [(0, .ref (ad 0)), (1, .int v1), (2, .int v2), (3, .int v3)] → W p l e { frames := 3, cells := 0, slots := 0, locals := 76 } s m args below meth c H locs 0 0 Q (F0 m 47 ls []) := by
    intro k28 hk28 n
    induction n with
    | zero => intro v1 v2 v3 S H locs ls hf; cases (show (none : Option XS) = some S' from hf)
    | succ n ih =>
      intro v1 v2 v3 S H locs ls hf hI hl
      have hf : fX2_makeFollowing_b47 k28 (fX2_makeFollowing_b47L k28 n) v1 v2 v3 S = some S' := hf
      unfold fX2_makeFollowing_b47 at hf
      refine lv_iload_n hx hb dX2_makeFollowing_47 rfl (lv_at hl 3 rfl) ?_
      refine lv_aload_n hx hb dX2_makeFollowing_48 rfl (lv_at hl 0 rfl) ?_
      refine va_get (D := D) (ci := 2) (v := .int (x_givenLines S)) (C := RX2) (T := TX2) (N := 13) hx hb hts hiX2 hown hK hI.1 0 rfl rfl 4 (by decide) (hts (.fieldLink RX2 27 "NoughtSums" "givenLines" "I") (by decide +kernel)) (fun _ h9 => h9) rfl dX2_makeFollowing_49 ?_
      refine lv_icmp_ge (tgt := 100) hx hb dX2_makeFollowing_52 (by decide) (fun c_52 => ?_) (fun c_52 => ?_)
      · replace hf := zIt c_52 hf
        exact hb100 k28 hk28 v1 v2 S _ _ _ hf hI (lv_sub hl [0, 1, 2] rfl)
      · replace hf := zIf c_52 hf
        refine lv_iload_n hx hb dX2_makeFollowing_55 rfl (lv_at hl 3 rfl) ?_
        refine lv_bipush (v := 8) hx hb dX2_makeFollowing_56 (by decide) ?_
        refine lv_icmp_ge (tgt := 100) hx hb dX2_makeFollowing_58 (by decide) (fun c_58 => ?_) (fun c_58 => ?_)
        · replace hf := zIt c_58 hf
          exact hb100 k28 hk28 v1 v2 S _ _ _ hf hI (lv_sub hl [0, 1, 2] rfl)
        · replace hf := zIf c_58 hf
          refine lv_aload_n hx hb dX2_makeFollowing_61 rfl (lv_at hl 0 rfl) ?_
          refine va_get (D := D) (ci := 2) (v := .ref (ad 7)) (C := RX2) (T := TX2) (N := 13) hx hb hts hiX2 hown hK hI.1 0 rfl rfl 1 (by decide) (hts (.fieldLink RX2 16 "NoughtSums" "lineSums" "[J") (by decide +kernel)) (fun _ h9 => h9) rfl dX2_makeFollowing_62 ?_
          refine lv_iload_n hx hb dX2_makeFollowing_65 rfl (lv_at hl 3 rfl) ?_
          obtain ⟨g_66, hf⟩ := zGI_s hf
          refine va_lald (f := (x_lineSums S)) hx hb hK hI.1 7 5 rfl rfl g_66 dX2_makeFollowing_66 ?_
          refine lv_lconst (v := 0) hx hb dX2_makeFollowing_67 (by decide) ?_
          refine W.lcmp hx hb dX2_makeFollowing_68 ?_
          refine lv_if_eq (tgt := 94) hx hb dX2_makeFollowing_69 (by decide) (fun c_69 => ?_) (fun c_69 => ?_)
          · replace hf := zIt c_69 hf
            exact hb94 k28 hk28 (fX2_makeFollowing_b47L k28 n) ih v1 v2 v3 S _ _ _ hf hI (lv_sub hl [0, 1, 2, 3] rfl)
          · replace hf := zIf c_69 hf
            refine lv_aload_n hx hb dX2_makeFollowing_72 rfl (lv_at hl 0 rfl) ?_
            refine lv_aload_n hx hb dX2_makeFollowing_73 rfl (lv_at hl 0 rfl) ?_
            refine va_get (D := D) (ci := 2) (v := .ref (ad 7)) (C := RX2) (T := TX2) (N := 13) hx hb hts hiX2 hown hK hI.1 0 rfl rfl 1 (by decide) (hts (.fieldLink RX2 16 "NoughtSums" "lineSums" "[J") (by decide +kernel)) (fun _ h9 => h9) rfl dX2_makeFollowing_74 ?_
            refine lv_iload_n hx hb dX2_makeFollowing_77 rfl (lv_at hl 3 rfl) ?_
            obtain ⟨g_78, hf⟩ := zGI_s hf
            refine va_lald (f := (x_lineSums S)) hx hb hK hI.1 7 5 rfl rfl g_78 dX2_makeFollowing_78 ?_
            refine lv_iload_n hx hb dX2_makeFollowing_79 rfl (lv_at hl 2 rfl) ?_
            refine lv_aload_n hx hb dX2_makeFollowing_80 rfl (lv_at hl 0 rfl) ?_
            refine va_get (D := D) (ci := 2) (v := .ref (ad 7)) (C := RX2) (T := TX2) (N := 13) hx hb hts hiX2 hown hK hI.1 0 rfl rfl 1 (by decide) (hts (.fieldLink RX2 16 "NoughtSums" "lineSums" "[J") (by decide +kernel)) (fun _ h9 => h9) rfl dX2_makeFollowing_81 ?_
            refine lv_iload_n hx hb dX2_makeFollowing_84 rfl (lv_at hl 3 rfl) ?_
            obtain ⟨g_85, hf⟩ := zGI_s hf
            refine va_lald (f := (x_lineSums S)) hx hb hK hI.1 7 5 rfl rfl g_85 dX2_makeFollowing_85 ?_
            obtain ⟨r_86, hf_86, hf⟩ := zB1_s hf
            refine z_callS C 1 (kX2_degreeOf l zq D ((x_lineSums S) v3.toNatClampNeg) r_86 hf_86) gX2_makeFollowing_X2_degreeOf rfl (by decide +kernel) ⟨by decide, by decide⟩ hI rfl hl.1 rfl (Nat.le_of_ble_eq_true rfl) dX2_makeFollowing_86 ⟨by decide, by decide⟩ (st2 := [.int r_86, .int v2, .long ((x_lineSums S) v3.toNatClampNeg), .ref (ad 0)]) rfl (fun H locs hI => ?_)
            refine lv_isub hx hb dX2_makeFollowing_89 ?_
            refine lv_iload_n hx hb dX2_makeFollowing_90 rfl (lv_at hl 2 rfl) ?_
            obtain ⟨S_91, hf_91, hf⟩ := zB1_s hf
            refine z_callV (w2 := (wX cy ad S_91)) C 3 (kX2_addMultiples l zq D cy ad ((x_lineSums S) v3.toNatClampNeg) (v2 - r_86) v2 S S_91 hf_91) gX2_makeFollowing_X2_addMultiples rfl (by decide +kernel) ⟨by decide, by decide⟩ hI 0 rfl rfl rfl hl.1 rfl (Nat.le_of_ble_eq_true rfl) dX2_makeFollowing_91 ⟨by decide, by decide⟩ (st2 := []) rfl (fun H locs hI => ?_)
            exact hb94 k28 hk28 (fX2_makeFollowing_b47L k28 n) ih v1 v2 v3 S_91 _ _ _ hf hI (lv_sub hl [0, 1, 2, 3] rfl)
  have hb28 : ∀ (n : Nat), ∀ (v1 : Int32) (v2 : Int32) (S : XS) (H : Heap) (locs : List Loc) (ls : Array Slot), fX2_makeFollowing_b28L n v1 v2 S = some S' → zI D A s H locs (wX cy ad S) → lv_has ls 4 [(0, .ref (ad 0)), (1, .int v1), (2, .int v2)] → W p l e { frames := 3, cells := 0, slots := 0, locals := 76 } s m args below meth c H locs 0 0 Q (F0 m 28 ls []) := by
    intro n
    induction n with
    | zero => intro v1 v2 S H locs ls hf; cases (show (none : Option XS) = some S' from hf)
    | succ n ih =>
      intro v1 v2 S H locs ls hf hI hl
      have hf : fX2_makeFollowing_b28 (fX2_makeFollowing_b28L n) v1 v2 S = some S' := hf
      unfold fX2_makeFollowing_b28 at hf
      refine lv_iload_n hx hb dX2_makeFollowing_28 rfl (lv_at hl 2 rfl) ?_
      refine lv_bipush (v := 12) hx hb dX2_makeFollowing_29 (by decide) ?_
      refine lv_icmp_gt (tgt := 106) hx hb dX2_makeFollowing_31 (by decide) (fun c_31 => ?_) (fun c_31 => ?_)
      · replace hf := zIt c_31 hf
        refine lv_aload_n hx hb dX2_makeFollowing_106 rfl (lv_at hl 0 rfl) ?_
        refine lv_iconst (v := 1) hx hb dX2_makeFollowing_107 (by decide) ?_
        obtain ⟨S_108, eS_108, hf⟩ := zL_e hf
        refine z_put (D := D) (ci := 2) (v := .int (1 : Int32)) (ty := .boolean) (C := RX2) (T := TX2) (N := 13) (w2 := (wX cy ad S_108)) hx hb hts hiX2 tyX2 tyX2_ok nmX2 hown hK hI 0 rfl rfl 10 (by decide) (hts (.fieldLink RX2 52 "NoughtSums" "followingStands" "Z") (by decide +kernel)) (fun _ h9 => h9) rfl (by decide +kernel) rfl rfl (Nat.le_of_ble_eq_true rfl) dX2_makeFollowing_108 (by rw [eS_108]; rfl) (fun H locs hI => ?_)
        have h2 := zP1 hf
        rw [hQ]
        exact z_vret C (by rw [h2]; exact hI) rfl dX2_makeFollowing_111
      · replace hf := zIf c_31 hf
        refine lv_aload_n hx hb dX2_makeFollowing_34 rfl (lv_at hl 0 rfl) ?_
        refine va_get (D := D) (ci := 2) (v := .ref (ad 9)) (C := RX2) (T := TX2) (N := 13) hx hb hts hiX2 hown hK hI.1 0 rfl rfl 9 (by decide) (hts (.fieldLink RX2 48 "NoughtSums" "following" "LNoughtSums$Span;") (by decide +kernel)) (fun _ h9 => h9) rfl dX2_makeFollowing_35 ?_
        refine va_get (D := D) (ci := 0) (v := .int (s_size (x_following S))) (C := RX0) (T := TX0) (N := 5) hx hb hts hiX0 hown hK hI.1 9 rfl rfl 4 (by decide) (hts (.fieldLink RX2 189 "NoughtSums$Span" "size" "I") (by decide +kernel)) (fun _ h9 => h9) rfl dX2_makeFollowing_38 ?_
        refine lv_iload_n hx hb dX2_makeFollowing_41 rfl (lv_at hl 1 rfl) ?_
        refine lv_icmp_ge (tgt := 106) hx hb dX2_makeFollowing_42 (by decide) (fun c_42 => ?_) (fun c_42 => ?_)
        · replace hf := zIt c_42 hf
          refine lv_aload_n hx hb dX2_makeFollowing_106 rfl (lv_at hl 0 rfl) ?_
          refine lv_iconst (v := 1) hx hb dX2_makeFollowing_107 (by decide) ?_
          obtain ⟨S_108, eS_108, hf⟩ := zL_e hf
          refine z_put (D := D) (ci := 2) (v := .int (1 : Int32)) (ty := .boolean) (C := RX2) (T := TX2) (N := 13) (w2 := (wX cy ad S_108)) hx hb hts hiX2 tyX2 tyX2_ok nmX2 hown hK hI 0 rfl rfl 10 (by decide) (hts (.fieldLink RX2 52 "NoughtSums" "followingStands" "Z") (by decide +kernel)) (fun _ h9 => h9) rfl (by decide +kernel) rfl rfl (Nat.le_of_ble_eq_true rfl) dX2_makeFollowing_108 (by rw [eS_108]; rfl) (fun H locs hI => ?_)
          have h2 := zP1 hf
          rw [hQ]
          exact z_vret C (by rw [h2]; exact hI) rfl dX2_makeFollowing_111
        · replace hf := zIf c_42 hf
          refine lv_iconst (v := 0) hx hb dX2_makeFollowing_45 (by decide) ?_
          refine lv_istore_n (lv' := [(3, .int (0 : Int32)), (0, .ref (ad 0)), (1, .int v1), (2, .int v2)]) hx hb dX2_makeFollowing_46 rfl hl (by decide) rfl (fun ls hl => ?_)
          exact hb47 (fX2_makeFollowing_b28L n) ih zF v1 v2 (0 : Int32) S _ _ _ hf hI (lv_sub hl [1, 2, 3, 0] rfl)
  unfold fX2_makeFollowing at hf
  refine lv_aload_n hx hb dX2_makeFollowing_0 rfl (lv_at hl 0 rfl) ?_
  refine va_get (D := D) (ci := 2) (v := .int (x_followingStands S)) (C := RX2) (T := TX2) (N := 13) hx hb hts hiX2 hown hK hI.1 0 rfl rfl 10 (by decide) (hts (.fieldLink RX2 52 "NoughtSums" "followingStands" "Z") (by decide +kernel)) (fun _ h9 => h9) rfl dX2_makeFollowing_1 ?_
  refine lv_if_eq (tgt := 8) hx hb dX2_makeFollowing_4 (by decide) (fun c_4 => ?_) (fun c_4 => ?_)
  · replace hf := zIt c_4 hf
    refine lv_aload_n hx hb dX2_makeFollowing_8 rfl (lv_at hl 0 rfl) ?_
    refine va_get (D := D) (ci := 2) (v := .ref (ad 9)) (C := RX2) (T := TX2) (N := 13) hx hb hts hiX2 hown hK hI.1 0 rfl rfl 9 (by decide) (hts (.fieldLink RX2 48 "NoughtSums" "following" "LNoughtSums$Span;") (by decide +kernel)) (fun _ h9 => h9) rfl dX2_makeFollowing_9 ?_
    obtain ⟨S_12, hf_12, hf⟩ := zB1_s hf
    obtain ⟨W_12, eW_12, hf⟩ := zL_e hf
    refine z_callX (w2 := (wX cy ad W_12)) C 0 (kX0_empty l zq D (fun k => cy (k + 9)) (fun k => ad (k + 9)) (x_following S) S_12 hf_12) gX2_makeFollowing_X0_empty rfl (by decide +kernel) ⟨by decide, by decide⟩ hI 9 rfl rfl [9, 10, 11, 12] [0, 1, 2, 3, 4, 5, 6, 7, 8, 13, 14, 15, 16] [0, 1, 2, 3, 4, 5, 6, 7, 8, 13, 14, 15, 16, 9, 10, 11, 12] [7, 8, 9] rfl rfl rfl rfl (by decide) rfl (by rw [eW_12]; rfl) rfl rfl hl.1 rfl (Nat.le_of_ble_eq_true rfl) dX2_makeFollowing_12 ⟨by decide, by decide⟩ (st2 := []) rfl (fun H locs hI => ?_)
    refine lv_bipush (v := 64) hx hb dX2_makeFollowing_15 (by decide) ?_
    refine lv_aload_n hx hb dX2_makeFollowing_17 rfl (lv_at hl 0 rfl) ?_
    refine va_get (D := D) (ci := 2) (v := .long (x_commonWorlds W_12)) (C := RX2) (T := TX2) (N := 13) hx hb hts hiX2 hown hK hI.1 0 rfl rfl 7 (by decide) (hts (.fieldLink RX2 38 "NoughtSums" "commonWorlds" "J") (by decide +kernel)) (fun _ h9 => h9) rfl dX2_makeFollowing_18 ?_
    obtain ⟨r_21, hf_21, hf⟩ := zB1_s hf
    refine z_callS C 1 (kJ13_bitCount_95d88 l zq D (x_commonWorlds W_12) r_21 hf_21) gX2_makeFollowing_J13_bitCount_95d88 rfl (by decide +kernel) ⟨by decide, by decide⟩ hI rfl hl.1 rfl (Nat.le_of_ble_eq_true rfl) dX2_makeFollowing_21 ⟨by decide, by decide⟩ (st2 := [.int r_21, .int (64 : Int32)]) rfl (fun H locs hI => ?_)
    refine lv_isub hx hb dX2_makeFollowing_24 ?_
    refine lv_istore_n (lv' := [(1, .int ((64 : Int32) - r_21)), (0, .ref (ad 0))]) hx hb dX2_makeFollowing_25 rfl hl (by decide) rfl (fun ls hl => ?_)
    refine lv_iconst (v := 0) hx hb dX2_makeFollowing_26 (by decide) ?_
    refine lv_istore_n (lv' := [(2, .int (0 : Int32)), (1, .int ((64 : Int32) - r_21)), (0, .ref (ad 0))]) hx hb dX2_makeFollowing_27 rfl hl (by decide) rfl (fun ls hl => ?_)
    exact hb28 zF ((64 : Int32) - r_21) (0 : Int32) W_12 _ _ _ hf hI (lv_sub hl [2, 1, 0] rfl)
  · replace hf := zIf c_4 hf
    have h2 := zP1 hf
    rw [hQ]
    exact z_vret C (by rw [h2]; exact hI) rfl dX2_makeFollowing_7

def fX2_standingProducts  (S : XS) : Option (Int64 × XS) :=
(zB1 (fX2_makeFollowing S) (fun S_1 =>
some (((s_leads (x_following S_1)) ^^^ (-1 : Int64)), S_1)))
set_option maxHeartbeats 4000000 in
set_option maxRecDepth 100000 in
theorem kX2_standingProducts (l : Launch) (zq : Nat → Nat) (D : va_G) (cy : Nat → ClassId) (ad : Nat → Nat)  (S S' : XS) (r : Int64) (hf : fX2_standingProducts S = some (r, S')) : zMet l yX2_standingProducts wsX2_standingProducts 4 99 zq D (tX cy) (wX cy ad S) [.ref (ad 0)] (some (.long r)) (wX cy ad S') := by
  refine zMet.of cX2_standingProducts 1 (some .long) (by decide) rfl (Nat.le_of_ble_eq_true rfl) ?_
  intro p e s m args below meth c A ls C hl hI
  have hl : lv_has ls 1 [(0, .ref (ad 0))] := hl
  have C : zC p s m args meth c cX2_standingProducts 1 (some .long) RX2 wsX2_standingProducts D (tX cy) zq A := C
  obtain ⟨hx, hb, hml, hown, hts, hret, hlk, hK, hX, hA⟩ := id C
  have hiX0 : ∀ w ∈ wsX00, w ∈ wsX2_standingProducts := by decide +kernel
  have hiX2 : ∀ w ∈ wsX20, w ∈ wsX2_standingProducts := by decide +kernel
  obtain ⟨Q, hQ⟩ : ∃ Q, Q = MQ below (zQ D (tX cy) (wX cy ad S') (some (.long r)) A) args s 0 0 A := ⟨_, rfl⟩
  rw [← hQ]
  unfold fX2_standingProducts at hf
  refine lv_aload_n hx hb dX2_standingProducts_0 rfl (lv_at hl 0 rfl) ?_
  obtain ⟨S_1, hf_1, hf⟩ := zB1_s hf
  refine z_callV (w2 := (wX cy ad S_1)) C 0 (kX2_makeFollowing l zq D cy ad S S_1 hf_1) gX2_standingProducts_X2_makeFollowing rfl (by decide +kernel) ⟨by decide, by decide⟩ hI 0 rfl rfl rfl hl.1 rfl (Nat.le_of_ble_eq_true rfl) dX2_standingProducts_1 ⟨by decide, by decide⟩ (st2 := []) rfl (fun H locs hI => ?_)
  refine lv_aload_n hx hb dX2_standingProducts_4 rfl (lv_at hl 0 rfl) ?_
  refine va_get (D := D) (ci := 2) (v := .ref (ad 9)) (C := RX2) (T := TX2) (N := 13) hx hb hts hiX2 hown hK hI.1 0 rfl rfl 9 (by decide) (hts (.fieldLink RX2 48 "NoughtSums" "following" "LNoughtSums$Span;") (by decide +kernel)) (fun _ h9 => h9) rfl dX2_standingProducts_5 ?_
  refine va_get (D := D) (ci := 0) (v := .long (s_leads (x_following S_1))) (C := RX0) (T := TX0) (N := 5) hx hb hts hiX0 hown hK hI.1 9 rfl rfl 3 (by decide) (hts (.fieldLink RX2 200 "NoughtSums$Span" "leads" "J") (by decide +kernel)) (fun _ h9 => h9) rfl dX2_standingProducts_8 ?_
  refine lv_ldc2 hx hb hown (hts (.constantLong RX2 36 (-1)) (by decide +kernel)) dX2_standingProducts_11 ?_
  refine lv_lxor hx hb dX2_standingProducts_14 ?_
  obtain ⟨h1, h2⟩ := zP2 hf
  rw [hQ]
  exact z_lret C (by rw [h2]; exact hI) (by rw [h1]) dX2_standingProducts_15

def fX2_standing  (S : XS) : Option (Int64 × XS) :=
(zB2 (fX2_standingProducts S) (fun r_1 S_1 =>
some (r_1, S_1)))
set_option maxHeartbeats 4000000 in
set_option maxRecDepth 100000 in
theorem kX2_standing (l : Launch) (zq : Nat → Nat) (D : va_G) (cy : Nat → ClassId) (ad : Nat → Nat)  (S S' : XS) (r : Int64) (hf : fX2_standing S = some (r, S')) : zMet l yX2_standing wsX2_standing 5 119 zq D (tX cy) (wX cy ad S) [.ref (ad 0)] (some (.long r)) (wX cy ad S') := by
  refine zMet.of cX2_standing 1 (some .long) (by decide) rfl (Nat.le_of_ble_eq_true rfl) ?_
  intro p e s m args below meth c A ls C hl hI
  have hl : lv_has ls 1 [(0, .ref (ad 0))] := hl
  have C : zC p s m args meth c cX2_standing 1 (some .long) RX2 wsX2_standing D (tX cy) zq A := C
  obtain ⟨hx, hb, hml, hown, hts, hret, hlk, hK, hX, hA⟩ := id C
  obtain ⟨Q, hQ⟩ : ∃ Q, Q = MQ below (zQ D (tX cy) (wX cy ad S') (some (.long r)) A) args s 0 0 A := ⟨_, rfl⟩
  rw [← hQ]
  unfold fX2_standing at hf
  refine lv_aload_n hx hb dX2_standing_0 rfl (lv_at hl 0 rfl) ?_
  obtain ⟨r_1, S_1, hf_1, hf⟩ := zB2_s hf
  refine z_callV (w2 := (wX cy ad S_1)) C 0 (kX2_standingProducts l zq D cy ad S S_1 r_1 hf_1) gX2_standing_X2_standingProducts rfl (by decide +kernel) ⟨by decide, by decide⟩ hI 0 rfl rfl rfl hl.1 rfl (Nat.le_of_ble_eq_true rfl) dX2_standing_1 ⟨by decide, by decide⟩ (st2 := [.long r_1]) rfl (fun H locs hI => ?_)
  obtain ⟨h1, h2⟩ := zP2 hf
  rw [hQ]
  exact z_lret C (by rw [h2]; exact hI) (by rw [h1]) dX2_standing_4

def fX2_leftOf (a1 : Int64) (S : XS) : Option (Int64 × XS) :=
(zB1 (fX2_makeFollowing S) (fun S_1 =>
(zB2 (fX0_reduced a1 (x_following S_1)) (fun r_9 S_9 =>
(zL (x_following_u S_1 S_9) (fun W_9 =>
some (r_9, W_9)))))))
set_option maxHeartbeats 4000000 in
set_option maxRecDepth 100000 in
theorem kX2_leftOf (l : Launch) (zq : Nat → Nat) (D : va_G) (cy : Nat → ClassId) (ad : Nat → Nat) (a1 : Int64) (S S' : XS) (r : Int64) (hf : fX2_leftOf a1 S = some (r, S')) : zMet l yX2_leftOf wsX2_leftOf 4 99 zq D (tX cy) (wX cy ad S) [.ref (ad 0), .long a1] (some (.long r)) (wX cy ad S') := by
  refine zMet.of cX2_leftOf 3 (some .long) (by decide) rfl (Nat.le_of_ble_eq_true rfl) ?_
  intro p e s m args below meth c A ls C hl hI
  have hl : lv_has ls 3 [(0, .ref (ad 0)), (1, .long a1)] := hl
  have C : zC p s m args meth c cX2_leftOf 3 (some .long) RX2 wsX2_leftOf D (tX cy) zq A := C
  obtain ⟨hx, hb, hml, hown, hts, hret, hlk, hK, hX, hA⟩ := id C
  have hiX2 : ∀ w ∈ wsX20, w ∈ wsX2_leftOf := by decide +kernel
  obtain ⟨Q, hQ⟩ : ∃ Q, Q = MQ below (zQ D (tX cy) (wX cy ad S') (some (.long r)) A) args s 0 0 A := ⟨_, rfl⟩
  rw [← hQ]
  unfold fX2_leftOf at hf
  refine lv_aload_n hx hb dX2_leftOf_0 rfl (lv_at hl 0 rfl) ?_
  obtain ⟨S_1, hf_1, hf⟩ := zB1_s hf
  refine z_callV (w2 := (wX cy ad S_1)) C 0 (kX2_makeFollowing l zq D cy ad S S_1 hf_1) gX2_leftOf_X2_makeFollowing rfl (by decide +kernel) ⟨by decide, by decide⟩ hI 0 rfl rfl rfl hl.1 rfl (Nat.le_of_ble_eq_true rfl) dX2_leftOf_1 ⟨by decide, by decide⟩ (st2 := []) rfl (fun H locs hI => ?_)
  refine lv_aload_n hx hb dX2_leftOf_4 rfl (lv_at hl 0 rfl) ?_
  refine va_get (D := D) (ci := 2) (v := .ref (ad 9)) (C := RX2) (T := TX2) (N := 13) hx hb hts hiX2 hown hK hI.1 0 rfl rfl 9 (by decide) (hts (.fieldLink RX2 48 "NoughtSums" "following" "LNoughtSums$Span;") (by decide +kernel)) (fun _ h9 => h9) rfl dX2_leftOf_5 ?_
  refine lv_lload_n hx hb dX2_leftOf_8 rfl (lv_at hl 1 rfl) ?_
  obtain ⟨r_9, S_9, hf_9, hf⟩ := zB2_s hf
  obtain ⟨W_9, eW_9, hf⟩ := zL_e hf
  refine z_callX (w2 := (wX cy ad W_9)) C 1 (kX0_reduced l zq D (fun k => cy (k + 9)) (fun k => ad (k + 9)) a1 (x_following S_1) S_9 r_9 hf_9) gX2_leftOf_X0_reduced rfl (by decide +kernel) ⟨by decide, by decide⟩ hI 9 rfl rfl [9, 10, 11, 12] [0, 1, 2, 3, 4, 5, 6, 7, 8, 13, 14, 15, 16] [0, 1, 2, 3, 4, 5, 6, 7, 8, 13, 14, 15, 16, 9, 10, 11, 12] [7, 8, 9] rfl rfl rfl rfl (by decide) rfl (by rw [eW_9]; rfl) rfl rfl hl.1 rfl (Nat.le_of_ble_eq_true rfl) dX2_leftOf_9 ⟨by decide, by decide⟩ (st2 := [.long r_9]) rfl (fun H locs hI => ?_)
  obtain ⟨h1, h2⟩ := zP2 hf
  rw [hQ]
  exact z_lret C (by rw [h2]; exact hI) (by rw [h1]) dX2_leftOf_12

def fX2_left (a1 : Int32) (S : XS) : Option (Int64 × XS) :=
(zB2 (fX2_sumOf a1 S) (fun r_3 S_3 =>
(zB2 (fX2_leftOf r_3 S_3) (fun r_6 S_6 =>
some (r_6, S_6)))))
set_option maxHeartbeats 4000000 in
set_option maxRecDepth 100000 in
theorem kX2_left (l : Launch) (zq : Nat → Nat) (D : va_G) (cy : Nat → ClassId) (ad : Nat → Nat) (a1 : Int32) (S S' : XS) (r : Int64) (hf : fX2_left a1 S = some (r, S')) : zMet l yX2_left wsX2_left 5 121 zq D (tX cy) (wX cy ad S) [.ref (ad 0), .int a1] (some (.long r)) (wX cy ad S') := by
  refine zMet.of cX2_left 2 (some .long) (by decide) rfl (Nat.le_of_ble_eq_true rfl) ?_
  intro p e s m args below meth c A ls C hl hI
  have hl : lv_has ls 2 [(0, .ref (ad 0)), (1, .int a1)] := hl
  have C : zC p s m args meth c cX2_left 2 (some .long) RX2 wsX2_left D (tX cy) zq A := C
  obtain ⟨hx, hb, hml, hown, hts, hret, hlk, hK, hX, hA⟩ := id C
  obtain ⟨Q, hQ⟩ : ∃ Q, Q = MQ below (zQ D (tX cy) (wX cy ad S') (some (.long r)) A) args s 0 0 A := ⟨_, rfl⟩
  rw [← hQ]
  unfold fX2_left at hf
  refine lv_aload_n hx hb dX2_left_0 rfl (lv_at hl 0 rfl) ?_
  refine lv_aload_n hx hb dX2_left_1 rfl (lv_at hl 0 rfl) ?_
  refine lv_iload_n hx hb dX2_left_2 rfl (lv_at hl 1 rfl) ?_
  obtain ⟨r_3, S_3, hf_3, hf⟩ := zB2_s hf
  refine z_callV (w2 := (wX cy ad S_3)) C 1 (kX2_sumOf l zq D cy ad a1 S S_3 r_3 hf_3) gX2_left_X2_sumOf rfl (by decide +kernel) ⟨by decide, by decide⟩ hI 0 rfl rfl rfl hl.1 rfl (Nat.le_of_ble_eq_true rfl) dX2_left_3 ⟨by decide, by decide⟩ (st2 := [.long r_3, .ref (ad 0)]) rfl (fun H locs hI => ?_)
  obtain ⟨r_6, S_6, hf_6, hf⟩ := zB2_s hf
  refine z_callV (w2 := (wX cy ad S_6)) C 1 (kX2_leftOf l zq D cy ad r_3 S_3 S_6 r_6 hf_6) gX2_left_X2_leftOf rfl (by decide +kernel) ⟨by decide, by decide⟩ hI 0 rfl rfl rfl hl.1 rfl (Nat.le_of_ble_eq_true rfl) dX2_left_6 ⟨by decide, by decide⟩ (st2 := [.long r_6]) rfl (fun H locs hI => ?_)
  obtain ⟨h1, h2⟩ := zP2 hf
  rw [hQ]
  exact z_lret C (by rw [h2]; exact hI) (by rw [h1]) dX2_left_9

def fX2_rest (a1 : Int64) (S : XS) : Option (Int64 × XS) :=
(zB2 (fX2_leftOf a1 S) (fun r_2 S_2 =>
some (r_2, S_2)))
set_option maxHeartbeats 4000000 in
set_option maxRecDepth 100000 in
theorem kX2_rest (l : Launch) (zq : Nat → Nat) (D : va_G) (cy : Nat → ClassId) (ad : Nat → Nat) (a1 : Int64) (S S' : XS) (r : Int64) (hf : fX2_rest a1 S = some (r, S')) : zMet l yX2_rest wsX2_rest 5 121 zq D (tX cy) (wX cy ad S) [.ref (ad 0), .long a1] (some (.long r)) (wX cy ad S') := by
  refine zMet.of cX2_rest 3 (some .long) (by decide) rfl (Nat.le_of_ble_eq_true rfl) ?_
  intro p e s m args below meth c A ls C hl hI
  have hl : lv_has ls 3 [(0, .ref (ad 0)), (1, .long a1)] := hl
  have C : zC p s m args meth c cX2_rest 3 (some .long) RX2 wsX2_rest D (tX cy) zq A := C
  obtain ⟨hx, hb, hml, hown, hts, hret, hlk, hK, hX, hA⟩ := id C
  obtain ⟨Q, hQ⟩ : ∃ Q, Q = MQ below (zQ D (tX cy) (wX cy ad S') (some (.long r)) A) args s 0 0 A := ⟨_, rfl⟩
  rw [← hQ]
  unfold fX2_rest at hf
  refine lv_aload_n hx hb dX2_rest_0 rfl (lv_at hl 0 rfl) ?_
  refine lv_lload_n hx hb dX2_rest_1 rfl (lv_at hl 1 rfl) ?_
  obtain ⟨r_2, S_2, hf_2, hf⟩ := zB2_s hf
  refine z_callV (w2 := (wX cy ad S_2)) C 1 (kX2_leftOf l zq D cy ad a1 S S_2 r_2 hf_2) gX2_rest_X2_leftOf rfl (by decide +kernel) ⟨by decide, by decide⟩ hI 0 rfl rfl rfl hl.1 rfl (Nat.le_of_ble_eq_true rfl) dX2_rest_2 ⟨by decide, by decide⟩ (st2 := [.long r_2]) rfl (fun H locs hI => ?_)
  obtain ⟨h1, h2⟩ := zP2 hf
  rw [hQ]
  exact z_lret C (by rw [h2]; exact hI) (by rw [h1]) dX2_rest_5

def fX2_base_b64 (k17 : Int32 → Int64 → Int32 → Int32 → XS → Option (Int64 × XS)) (v1 : Int32) (v2 : Int64) (v4 : Int32) (v5 : Int32) (S : XS) : Option (Int64 × XS) :=
k17 v1 v2 v4 (v5 + (1 : Int32)) S

def fX2_base_b17 (k17 : Int32 → Int64 → Int32 → Int32 → XS → Option (Int64 × XS)) (v1 : Int32) (v2 : Int64) (v4 : Int32) (v5 : Int32) (S : XS) : Option (Int64 × XS) :=
(if (64 : Int32) ≤ v5 then some ((0 : Int64), S) else
(zGI v5 64
((zB1 (fX2_beginsBase (zOrd v5.toNatClampNeg) v2) (fun r_35 =>
(if r_35 = 0 then fX2_base_b64 k17 v1 v2 v4 v5 S else
(if v4 = v1 then (zB2 (fX2_leftOf ((1 : Int64) <<< ((zOrd v5.toNatClampNeg).toInt64 &&& 63)) S) (fun r_56 S_56 =>
some ((((1 : Int64) <<< ((zOrd v5.toNatClampNeg).toInt64 &&& 63)) ^^^ r_56), S_56))) else
fX2_base_b64 k17 v1 v2 (v4 + (1 : Int32)) v5 S)))))))
def fX2_base_b17L : Nat → Int32 → Int64 → Int32 → Int32 → XS → Option (Int64 × XS)
  | 0, _, _, _, _, _ => none
  | n + 1, v1, v2, v4, v5, S => fX2_base_b17 (fX2_base_b17L n) v1 v2 v4 v5 S

def fX2_base (a1 : Int32) (S : XS) : Option (Int64 × XS) :=
(if 0 ≤ a1 then (zB2 (fX2_standingProducts S) (fun r_7 S_7 =>
fX2_base_b17L zF a1 r_7 (0 : Int32) (0 : Int32) S_7)) else
some ((0 : Int64), S))
set_option maxHeartbeats 4000000 in
set_option maxRecDepth 100000 in
theorem kX2_base (l : Launch) (zq : Nat → Nat) (D : va_G) (cy : Nat → ClassId) (ad : Nat → Nat) (a1 : Int32) (S S' : XS) (r : Int64) (hf : fX2_base a1 S = some (r, S')) : zMet l yX2_base wsX2_base 5 121 zq D (tX cy) (wX cy ad S) [.ref (ad 0), .int a1] (some (.long r)) (wX cy ad S') := by
  refine zMet.of cX2_base 7 (some .long) (by decide) rfl (Nat.le_of_ble_eq_true rfl) ?_
  intro p e s m args below meth c A ls C hl hI
  have hl : lv_has ls 7 [(0, .ref (ad 0)), (1, .int a1)] := hl
  have C : zC p s m args meth c cX2_base 7 (some .long) RX2 wsX2_base D (tX cy) zq A := C
  obtain ⟨hx, hb, hml, hown, hts, hret, hlk, hK, hX, hA⟩ := id C
  obtain ⟨Q, hQ⟩ : ∃ Q, Q = MQ below (zQ D (tX cy) (wX cy ad S') (some (.long r)) A) args s 0 0 A := ⟨_, rfl⟩
  rw [← hQ]
  have hb64 : ∀ (k17 : Int32 → Int64 → Int32 → Int32 → XS → Option (Int64 × XS)) (hk17 : ∀ (v1 : Int32) (v2 : Int64) (v4 : Int32) (v5 : Int32) (S : XS) (H : Heap) (locs : List Loc) (ls : Array Slot), k17 v1 v2 v4 v5 S = some (r, S') → zI D A s H locs (wX cy ad S) → lv_has ls 7 [(0, .ref (ad 0)), (1, .int v1), (2, .long v2), (4, .int v4), (5, .int v5)] → W p l e { frames := 5, cells := 0, slots := 0, locals := 121 } s m args below meth c H locs 0 0 Q (F0 m 17 ls [])), ∀ (v1 : Int32) (v2 : Int64) (v4 : Int32) (v5 : Int32) (S : XS) (H : Heap) (locs : List Loc) (ls : Array Slot), fX2_base_b64 k17 v1 v2 v4 v5 S = some (r, S') → zI D A s H locs (wX cy ad S) → lv_has ls 7 [(0, .ref (ad 0)), (1, .int v1), (2, .long v2), (4, .int v4), (5, .int v5)] → W p l e { frames := 5, cells := 0, slots := 0, locals := 121 } s m args below meth c H locs 0 0 Q (F0 m 64 ls []) := by
    intro k17 hk17 v1 v2 v4 v5 S H locs ls hf hI hl
    unfold fX2_base_b64 at hf
    refine lv_iinc (v := (v5 + (1 : Int32))) (lv' := [(5, .int (v5 + (1 : Int32))), (0, .ref (ad 0)), (1, .int v1), (2, .long v2), (4, .int v4)]) hx hb dX2_base_64 hl (k := 4) rfl rfl (by decide) rfl (fun ls hl => ?_)
    refine lv_goto (tgt := 17) hx hb dX2_base_67 (by decide) ?_
    exact hk17 v1 v2 v4 (v5 + (1 : Int32)) S _ _ _ hf hI (lv_sub hl [1, 2, 3, 4, 0] rfl)
  have hb17 : ∀ (n : Nat), ∀ (v1 : Int32) (v2 : Int64) (v4 : Int32) (v5 : Int32) (S : XS) (H : Heap) (locs : List Loc) (ls : Array Slot), fX2_base_b17L n v1 v2 v4 v5 S = some (r, S') → zI D A s H locs (wX cy ad S) → lv_has ls 7 [(0, .ref (ad 0)), (1, .int v1), (2, .long v2), (4, .int v4), (5, .int v5)] → W p l e { frames := 5, cells := 0, slots := 0, locals := 121 } s m args below meth c H locs 0 0 Q (F0 m 17 ls []) := by
    intro n
    induction n with
    | zero => intro v1 v2 v4 v5 S H locs ls hf; cases (show (none : Option (Int64 × XS)) = some (r, S') from hf)
    | succ n ih =>
      intro v1 v2 v4 v5 S H locs ls hf hI hl
      have hf : fX2_base_b17 (fX2_base_b17L n) v1 v2 v4 v5 S = some (r, S') := hf
      unfold fX2_base_b17 at hf
      refine lv_iload hx hb dX2_base_17 (lv_at hl 4 rfl) ?_
      refine lv_bipush (v := 64) hx hb dX2_base_19 (by decide) ?_
      refine lv_icmp_ge (tgt := 70) hx hb dX2_base_21 (by decide) (fun c_21 => ?_) (fun c_21 => ?_)
      · replace hf := zIt c_21 hf
        refine lv_lconst (v := 0) hx hb dX2_base_70 (by decide) ?_
        obtain ⟨h1, h2⟩ := zP2 hf
        rw [hQ]
        exact z_lret C (by rw [h2]; exact hI) (by rw [h1]) dX2_base_71
      · replace hf := zIf c_21 hf
        refine va_gets (C := RX2) (n := "ORDER") (d := "[I") hx hb hX.2.1 hI.2.2 hown (hts (.fieldLink RX2 130 "NoughtSums" "ORDER" "[I") (by decide +kernel)) (fun _ h9 => h9) dX2_base_24 ?_
        refine lv_iload hx hb dX2_base_27 (lv_at hl 4 rfl) ?_
        obtain ⟨g_29, hf⟩ := zGI_s hf
        refine va_ti hx hb hX.2.2.1 hI.2.2 g_29 (v := .int (zOrd v5.toNatClampNeg)) rfl dX2_base_29 ?_
        refine lv_istore (lv' := [(6, .int (zOrd v5.toNatClampNeg)), (0, .ref (ad 0)), (1, .int v1), (2, .long v2), (4, .int v4), (5, .int v5)]) hx hb dX2_base_30 hl (by decide) rfl (fun ls hl => ?_)
        refine lv_iload hx hb dX2_base_32 (lv_at hl 0 rfl) ?_
        refine lv_lload_n hx hb dX2_base_34 rfl (lv_at hl 3 rfl) ?_
        obtain ⟨r_35, hf_35, hf⟩ := zB1_s hf
        refine z_callS C 2 (kX2_beginsBase l zq D (zOrd v5.toNatClampNeg) v2 r_35 hf_35) gX2_base_X2_beginsBase rfl (by decide +kernel) ⟨by decide, by decide⟩ hI rfl hl.1 rfl (Nat.le_of_ble_eq_true rfl) dX2_base_35 ⟨by decide, by decide⟩ (st2 := [.int r_35]) rfl (fun H locs hI => ?_)
        refine lv_if_eq (tgt := 64) hx hb dX2_base_38 (by decide) (fun c_38 => ?_) (fun c_38 => ?_)
        · replace hf := zIt c_38 hf
          exact hb64 (fX2_base_b17L n) ih v1 v2 v4 v5 S _ _ _ hf hI (lv_sub hl [1, 2, 3, 4, 5] rfl)
        · replace hf := zIf c_38 hf
          refine lv_iload hx hb dX2_base_41 (lv_at hl 4 rfl) ?_
          refine lv_iload_n hx hb dX2_base_43 rfl (lv_at hl 2 rfl) ?_
          refine lv_icmp_ne (tgt := 61) hx hb dX2_base_44 (by decide) (fun c_44 => ?_) (fun c_44 => ?_)
          · replace hf := zIf c_44 hf
            refine lv_iinc (v := (v4 + (1 : Int32))) (lv' := [(4, .int (v4 + (1 : Int32))), (6, .int (zOrd v5.toNatClampNeg)), (0, .ref (ad 0)), (1, .int v1), (2, .long v2), (5, .int v5)]) hx hb dX2_base_61 hl (k := 4) rfl rfl (by decide) rfl (fun ls hl => ?_)
            exact hb64 (fX2_base_b17L n) ih v1 v2 (v4 + (1 : Int32)) v5 S _ _ _ hf hI (lv_sub hl [2, 3, 4, 0, 5] rfl)
          · replace hf := zIt c_44 hf
            refine lv_lconst (v := 1) hx hb dX2_base_47 (by decide) ?_
            refine lv_iload hx hb dX2_base_48 (lv_at hl 0 rfl) ?_
            refine lv_lshl hx hb dX2_base_50 rfl ?_
            refine lv_aload_n hx hb dX2_base_51 rfl (lv_at hl 1 rfl) ?_
            refine lv_lconst (v := 1) hx hb dX2_base_52 (by decide) ?_
            refine lv_iload hx hb dX2_base_53 (lv_at hl 0 rfl) ?_
            refine lv_lshl hx hb dX2_base_55 rfl ?_
            obtain ⟨r_56, S_56, hf_56, hf⟩ := zB2_s hf
            refine z_callV (w2 := (wX cy ad S_56)) C 1 (kX2_leftOf l zq D cy ad ((1 : Int64) <<< ((zOrd v5.toNatClampNeg).toInt64 &&& 63)) S S_56 r_56 hf_56) gX2_base_X2_leftOf rfl (by decide +kernel) ⟨by decide, by decide⟩ hI 0 rfl rfl rfl hl.1 rfl (Nat.le_of_ble_eq_true rfl) dX2_base_56 ⟨by decide, by decide⟩ (st2 := [.long r_56, .long ((1 : Int64) <<< ((zOrd v5.toNatClampNeg).toInt64 &&& 63))]) rfl (fun H locs hI => ?_)
            refine lv_lxor hx hb dX2_base_59 ?_
            obtain ⟨h1, h2⟩ := zP2 hf
            rw [hQ]
            exact z_lret C (by rw [h2]; exact hI) (by rw [h1]) dX2_base_60
  unfold fX2_base at hf
  refine lv_iload_n hx hb dX2_base_0 rfl (lv_at hl 1 rfl) ?_
  refine lv_if_ge (tgt := 6) hx hb dX2_base_1 (by decide) (fun c_1 => ?_) (fun c_1 => ?_)
  · replace hf := zIt c_1 hf
    refine lv_aload_n hx hb dX2_base_6 rfl (lv_at hl 0 rfl) ?_
    obtain ⟨r_7, S_7, hf_7, hf⟩ := zB2_s hf
    refine z_callV (w2 := (wX cy ad S_7)) C 0 (kX2_standingProducts l zq D cy ad S S_7 r_7 hf_7) gX2_base_X2_standingProducts rfl (by decide +kernel) ⟨by decide, by decide⟩ hI 0 rfl rfl rfl hl.1 rfl (Nat.le_of_ble_eq_true rfl) dX2_base_7 ⟨by decide, by decide⟩ (st2 := [.long r_7]) rfl (fun H locs hI => ?_)
    refine lv_lstore_n (lv' := [(2, .long r_7), (0, .ref (ad 0)), (1, .int a1)]) hx hb dX2_base_10 rfl hl (by decide) rfl (fun ls hl => ?_)
    refine lv_iconst (v := 0) hx hb dX2_base_11 (by decide) ?_
    refine lv_istore (lv' := [(4, .int (0 : Int32)), (2, .long r_7), (0, .ref (ad 0)), (1, .int a1)]) hx hb dX2_base_12 hl (by decide) rfl (fun ls hl => ?_)
    refine lv_iconst (v := 0) hx hb dX2_base_14 (by decide) ?_
    refine lv_istore (lv' := [(5, .int (0 : Int32)), (4, .int (0 : Int32)), (2, .long r_7), (0, .ref (ad 0)), (1, .int a1)]) hx hb dX2_base_15 hl (by decide) rfl (fun ls hl => ?_)
    exact hb17 zF a1 r_7 (0 : Int32) (0 : Int32) S_7 _ _ _ hf hI (lv_sub hl [3, 4, 2, 1, 0] rfl)
  · replace hf := zIf c_1 hf
    refine lv_lconst (v := 0) hx hb dX2_base_4 (by decide) ?_
    obtain ⟨h1, h2⟩ := zP2 hf
    rw [hQ]
    exact z_lret C (by rw [h2]; exact hI) (by rw [h1]) dX2_base_5

def fX2_multiplyRows_b90 (k2 : Int32 → Int32 → XS → Option XS) (v1 : Int32) (v2 : Int32) (S : XS) : Option XS :=
k2 v1 (v2 + (1 : Int32)) S

def fX2_multiplyRows_b52 (k2 : Int32 → Int32 → XS → Option XS) (k52 : Int32 → Int32 → Int32 → XS → Option XS) (v1 : Int32) (v2 : Int32) (v4 : Int32) (S : XS) : Option XS :=
(if (6 : Int32) ≤ v4 then fX2_multiplyRows_b90 k2 v1 v2 S else
(zB2 (fX0_sumOfRow v2 (x_grown S)) (fun r_68 S_68 =>
(zL (x_grown_u S S_68) (fun W_68 =>
(zB1 (fX2_multiplied r_68 ((1 : Int64) <<< (((1 : Int32) <<< (v4 &&& 31)).toInt64 &&& 63))) (fun r_77 =>
(zB1 (fX0_add r_77 v1 (x_grown W_68)) (fun S_81 =>
(zL (x_grown_u W_68 S_81) (fun W_81 =>
k52 v1 v2 (v4 + (1 : Int32)) W_81)))))))))))
def fX2_multiplyRows_b52L (k2 : Int32 → Int32 → XS → Option XS) : Nat → Int32 → Int32 → Int32 → XS → Option XS
  | 0, _, _, _, _ => none
  | n + 1, v1, v2, v4, S => fX2_multiplyRows_b52 k2 (fX2_multiplyRows_b52L k2 n) v1 v2 v4 S

def fX2_multiplyRows_b2 (k2 : Int32 → Int32 → XS → Option XS) (v1 : Int32) (v2 : Int32) (S : XS) : Option XS :=
(if (64 : Int32) ≤ v2 then some S else
(if (s_size (x_grown S)) ≤ v2 then some S else
(zB2 (fX0_levelOfRow v2 (x_grown S)) (fun r_24 S_24 =>
(zL (x_grown_u S S_24) (fun W_24 =>
(zB2 (fX0_sumOfRow v2 (x_grown W_24)) (fun r_32 S_32 =>
(zL (x_grown_u W_24 S_32) (fun W_32 =>
(zB1 (fX2_degreeOf r_32) (fun r_35 =>
(zL (if r_24 < (r_35 + (1 : Int32)) then (r_35 + (1 : Int32)) else r_24) (fun n_43 =>
(if n_43 = v1 then fX2_multiplyRows_b52L k2 zF v1 v2 (0 : Int32) W_32 else
fX2_multiplyRows_b90 k2 v1 v2 W_32)))))))))))))))
def fX2_multiplyRows_b2L : Nat → Int32 → Int32 → XS → Option XS
  | 0, _, _, _ => none
  | n + 1, v1, v2, S => fX2_multiplyRows_b2 (fX2_multiplyRows_b2L n) v1 v2 S

def fX2_multiplyRows (a1 : Int32) (S : XS) : Option XS :=
fX2_multiplyRows_b2L zF a1 (0 : Int32) S
set_option maxHeartbeats 4000000 in
set_option maxRecDepth 100000 in
theorem kX2_multiplyRows (l : Launch) (zq : Nat → Nat) (D : va_G) (cy : Nat → ClassId) (ad : Nat → Nat) (a1 : Int32) (S S' : XS) (hf : fX2_multiplyRows a1 S = some S') : zMet l yX2_multiplyRows wsX2_multiplyRows 3 66 zq D (tX cy) (wX cy ad S) [.ref (ad 0), .int a1] none (wX cy ad S') := by
  refine zMet.of cX2_multiplyRows 5 none (by decide) rfl (Nat.le_of_ble_eq_true rfl) ?_
  intro p e s m args below meth c A ls C hl hI
  have hl : lv_has ls 5 [(0, .ref (ad 0)), (1, .int a1)] := hl
  have C : zC p s m args meth c cX2_multiplyRows 5 none RX2 wsX2_multiplyRows D (tX cy) zq A := C
  obtain ⟨hx, hb, hml, hown, hts, hret, hlk, hK, hX, hA⟩ := id C
  have hiX0 : ∀ w ∈ wsX00, w ∈ wsX2_multiplyRows := by decide +kernel
  have hiX2 : ∀ w ∈ wsX20, w ∈ wsX2_multiplyRows := by decide +kernel
  obtain ⟨Q, hQ⟩ : ∃ Q, Q = MQ below (zQ D (tX cy) (wX cy ad S') none A) args s 0 0 A := ⟨_, rfl⟩
  rw [← hQ]
  have hb90 : ∀ (k2 : Int32 → Int32 → XS → Option XS) (hk2 : ∀ (v1 : Int32) (v2 : Int32) (S : XS) (H : Heap) (locs : List Loc) (ls : Array Slot), k2 v1 v2 S = some S' → zI D A s H locs (wX cy ad S) → lv_has ls 5 [(0, .ref (ad 0)), (1, .int v1), (2, .int v2)] → W p l e { frames := 3, cells := 0, slots := 0, locals := 66 } s m args below meth c H locs 0 0 Q (F0 m 2 ls [])), ∀ (v1 : Int32) (v2 : Int32) (S : XS) (H : Heap) (locs : List Loc) (ls : Array Slot), fX2_multiplyRows_b90 k2 v1 v2 S = some S' → zI D A s H locs (wX cy ad S) → lv_has ls 5 [(0, .ref (ad 0)), (1, .int v1), (2, .int v2)] → W p l e { frames := 3, cells := 0, slots := 0, locals := 66 } s m args below meth c H locs 0 0 Q (F0 m 90 ls []) := by
    intro k2 hk2 v1 v2 S H locs ls hf hI hl
    unfold fX2_multiplyRows_b90 at hf
    refine lv_iinc (v := (v2 + (1 : Int32))) (lv' := [(2, .int (v2 + (1 : Int32))), (0, .ref (ad 0)), (1, .int v1)]) hx hb dX2_multiplyRows_90 hl (k := 2) rfl rfl (by decide) rfl (fun ls hl => ?_)
    refine lv_goto (tgt := 2) hx hb dX2_multiplyRows_93 (by decide) ?_
    exact hk2 v1 (v2 + (1 : Int32)) S _ _ _ hf hI (lv_sub hl [1, 2, 0] rfl)
  have hb52 : ∀ (k2 : Int32 → Int32 → XS → Option XS) (hk2 : ∀ (v1 : Int32) (v2 : Int32) (S : XS) (H : Heap) (locs : List Loc) (ls : Array Slot), k2 v1 v2 S = some S' → zI D A s H locs (wX cy ad S) → lv_has ls 5 [(0, .ref (ad 0)), (1, .int v1), (2, .int v2)] → W p l e { frames := 3, cells := 0, slots := 0, locals := 66 } s m args below meth c H locs 0 0 Q (F0 m 2 ls [])) (n : Nat), ∀ (v1 : Int32) (v2 : Int32) (v4 : Int32) (S : XS) (H : Heap) (locs : List Loc) (ls : Array Slot), fX2_multiplyRows_b52L k2 n v1 v2 v4 S = some S' → zI D A s H locs (wX cy ad S) → lv_has ls 5 [(0, .ref (ad 0)), (1, .int v1), (2, .int v2), (4, .int v4)] → W p l e { frames := 3, cells := 0, slots := 0, locals := 66 } s m args below meth c H locs 0 0 Q (F0 m 52 ls []) := by
    intro k2 hk2 n
    induction n with
    | zero => intro v1 v2 v4 S H locs ls hf; cases (show (none : Option XS) = some S' from hf)
    | succ n ih =>
      intro v1 v2 v4 S H locs ls hf hI hl
      have hf : fX2_multiplyRows_b52 k2 (fX2_multiplyRows_b52L k2 n) v1 v2 v4 S = some S' := hf
      unfold fX2_multiplyRows_b52 at hf
      refine lv_iload hx hb dX2_multiplyRows_52 (lv_at hl 3 rfl) ?_
      refine lv_bipush (v := 6) hx hb dX2_multiplyRows_54 (by decide) ?_
      refine lv_icmp_ge (tgt := 90) hx hb dX2_multiplyRows_56 (by decide) (fun c_56 => ?_) (fun c_56 => ?_)
      · replace hf := zIt c_56 hf
        exact hb90 k2 hk2 v1 v2 S _ _ _ hf hI (lv_sub hl [0, 1, 2] rfl)
      · replace hf := zIf c_56 hf
        refine lv_aload_n hx hb dX2_multiplyRows_59 rfl (lv_at hl 0 rfl) ?_
        refine va_get (D := D) (ci := 2) (v := .ref (ad 13)) (C := RX2) (T := TX2) (N := 13) hx hb hts hiX2 hown hK hI.1 0 rfl rfl 11 (by decide) (hts (.fieldLink RX2 56 "NoughtSums" "grown" "LNoughtSums$Span;") (by decide +kernel)) (fun _ h9 => h9) rfl dX2_multiplyRows_60 ?_
        refine lv_aload_n hx hb dX2_multiplyRows_63 rfl (lv_at hl 0 rfl) ?_
        refine va_get (D := D) (ci := 2) (v := .ref (ad 13)) (C := RX2) (T := TX2) (N := 13) hx hb hts hiX2 hown hK hI.1 0 rfl rfl 11 (by decide) (hts (.fieldLink RX2 56 "NoughtSums" "grown" "LNoughtSums$Span;") (by decide +kernel)) (fun _ h9 => h9) rfl dX2_multiplyRows_64 ?_
        refine lv_iload_n hx hb dX2_multiplyRows_67 rfl (lv_at hl 2 rfl) ?_
        obtain ⟨r_68, S_68, hf_68, hf⟩ := zB2_s hf
        obtain ⟨W_68, eW_68, hf⟩ := zL_e hf
        refine z_callX (w2 := (wX cy ad W_68)) C 1 (kX0_sumOfRow l zq D (fun k => cy (k + 13)) (fun k => ad (k + 13)) v2 (x_grown S) S_68 r_68 hf_68) gX2_multiplyRows_X0_sumOfRow rfl (by decide +kernel) ⟨by decide, by decide⟩ hI 13 rfl rfl [13, 14, 15, 16] [0, 1, 2, 3, 4, 5, 6, 7, 8, 9, 10, 11, 12] [0, 1, 2, 3, 4, 5, 6, 7, 8, 9, 10, 11, 12, 13, 14, 15, 16] [10, 11, 12] rfl rfl rfl rfl (by decide) rfl (by rw [eW_68]; rfl) rfl rfl hl.1 rfl (Nat.le_of_ble_eq_true rfl) dX2_multiplyRows_68 ⟨by decide, by decide⟩ (st2 := [.long r_68, .ref (ad 13)]) rfl (fun H locs hI => ?_)
        refine lv_lconst (v := 1) hx hb dX2_multiplyRows_71 (by decide) ?_
        refine lv_iconst (v := 1) hx hb dX2_multiplyRows_72 (by decide) ?_
        refine lv_iload hx hb dX2_multiplyRows_73 (lv_at hl 3 rfl) ?_
        refine lv_ishl hx hb dX2_multiplyRows_75 ?_
        refine lv_lshl hx hb dX2_multiplyRows_76 rfl ?_
        obtain ⟨r_77, hf_77, hf⟩ := zB1_s hf
        refine z_callS C 2 (kX2_multiplied l zq D r_68 ((1 : Int64) <<< (((1 : Int32) <<< (v4 &&& 31)).toInt64 &&& 63)) r_77 hf_77) gX2_multiplyRows_X2_multiplied rfl (by decide +kernel) ⟨by decide, by decide⟩ hI rfl hl.1 rfl (Nat.le_of_ble_eq_true rfl) dX2_multiplyRows_77 ⟨by decide, by decide⟩ (st2 := [.long r_77, .ref (ad 13)]) rfl (fun H locs hI => ?_)
        refine lv_iload_n hx hb dX2_multiplyRows_80 rfl (lv_at hl 1 rfl) ?_
        obtain ⟨S_81, hf_81, hf⟩ := zB1_s hf
        obtain ⟨W_81, eW_81, hf⟩ := zL_e hf
        refine z_callX (w2 := (wX cy ad W_81)) C 2 (kX0_add l zq D (fun k => cy (k + 13)) (fun k => ad (k + 13)) r_77 v1 (x_grown W_68) S_81 hf_81) gX2_multiplyRows_X0_add rfl (by decide +kernel) ⟨by decide, by decide⟩ hI 13 rfl rfl [13, 14, 15, 16] [0, 1, 2, 3, 4, 5, 6, 7, 8, 9, 10, 11, 12] [0, 1, 2, 3, 4, 5, 6, 7, 8, 9, 10, 11, 12, 13, 14, 15, 16] [10, 11, 12] rfl rfl rfl rfl (by decide) rfl (by rw [eW_81]; rfl) rfl rfl hl.1 rfl (Nat.le_of_ble_eq_true rfl) dX2_multiplyRows_81 ⟨by decide, by decide⟩ (st2 := []) rfl (fun H locs hI => ?_)
        refine lv_iinc (v := (v4 + (1 : Int32))) (lv' := [(4, .int (v4 + (1 : Int32))), (0, .ref (ad 0)), (1, .int v1), (2, .int v2)]) hx hb dX2_multiplyRows_84 hl (k := 3) rfl rfl (by decide) rfl (fun ls hl => ?_)
        refine lv_goto (tgt := 52) hx hb dX2_multiplyRows_87 (by decide) ?_
        exact ih v1 v2 (v4 + (1 : Int32)) W_81 _ _ _ hf hI (lv_sub hl [1, 2, 3, 0] rfl)
  have hb2 : ∀ (n : Nat), ∀ (v1 : Int32) (v2 : Int32) (S : XS) (H : Heap) (locs : List Loc) (ls : Array Slot), fX2_multiplyRows_b2L n v1 v2 S = some S' → zI D A s H locs (wX cy ad S) → lv_has ls 5 [(0, .ref (ad 0)), (1, .int v1), (2, .int v2)] → W p l e { frames := 3, cells := 0, slots := 0, locals := 66 } s m args below meth c H locs 0 0 Q (F0 m 2 ls []) := by
    intro n
    induction n with
    | zero => intro v1 v2 S H locs ls hf; cases (show (none : Option XS) = some S' from hf)
    | succ n ih =>
      intro v1 v2 S H locs ls hf hI hl
      have hf : fX2_multiplyRows_b2 (fX2_multiplyRows_b2L n) v1 v2 S = some S' := hf
      unfold fX2_multiplyRows_b2 at hf
      refine lv_iload_n hx hb dX2_multiplyRows_2 rfl (lv_at hl 2 rfl) ?_
      refine lv_bipush (v := 64) hx hb dX2_multiplyRows_3 (by decide) ?_
      refine lv_icmp_ge (tgt := 96) hx hb dX2_multiplyRows_5 (by decide) (fun c_5 => ?_) (fun c_5 => ?_)
      · replace hf := zIt c_5 hf
        have h2 := zP1 hf
        rw [hQ]
        exact z_vret C (by rw [h2]; exact hI) rfl dX2_multiplyRows_96
      · replace hf := zIf c_5 hf
        refine lv_iload_n hx hb dX2_multiplyRows_8 rfl (lv_at hl 2 rfl) ?_
        refine lv_aload_n hx hb dX2_multiplyRows_9 rfl (lv_at hl 0 rfl) ?_
        refine va_get (D := D) (ci := 2) (v := .ref (ad 13)) (C := RX2) (T := TX2) (N := 13) hx hb hts hiX2 hown hK hI.1 0 rfl rfl 11 (by decide) (hts (.fieldLink RX2 56 "NoughtSums" "grown" "LNoughtSums$Span;") (by decide +kernel)) (fun _ h9 => h9) rfl dX2_multiplyRows_10 ?_
        refine va_get (D := D) (ci := 0) (v := .int (s_size (x_grown S))) (C := RX0) (T := TX0) (N := 5) hx hb hts hiX0 hown hK hI.1 13 rfl rfl 4 (by decide) (hts (.fieldLink RX2 189 "NoughtSums$Span" "size" "I") (by decide +kernel)) (fun _ h9 => h9) rfl dX2_multiplyRows_13 ?_
        refine lv_icmp_ge (tgt := 96) hx hb dX2_multiplyRows_16 (by decide) (fun c_16 => ?_) (fun c_16 => ?_)
        · replace hf := zIt c_16 hf
          have h2 := zP1 hf
          rw [hQ]
          exact z_vret C (by rw [h2]; exact hI) rfl dX2_multiplyRows_96
        · replace hf := zIf c_16 hf
          refine lv_aload_n hx hb dX2_multiplyRows_19 rfl (lv_at hl 0 rfl) ?_
          refine va_get (D := D) (ci := 2) (v := .ref (ad 13)) (C := RX2) (T := TX2) (N := 13) hx hb hts hiX2 hown hK hI.1 0 rfl rfl 11 (by decide) (hts (.fieldLink RX2 56 "NoughtSums" "grown" "LNoughtSums$Span;") (by decide +kernel)) (fun _ h9 => h9) rfl dX2_multiplyRows_20 ?_
          refine lv_iload_n hx hb dX2_multiplyRows_23 rfl (lv_at hl 2 rfl) ?_
          obtain ⟨r_24, S_24, hf_24, hf⟩ := zB2_s hf
          obtain ⟨W_24, eW_24, hf⟩ := zL_e hf
          refine z_callX (w2 := (wX cy ad W_24)) C 1 (kX0_levelOfRow l zq D (fun k => cy (k + 13)) (fun k => ad (k + 13)) v2 (x_grown S) S_24 r_24 hf_24) gX2_multiplyRows_X0_levelOfRow rfl (by decide +kernel) ⟨by decide, by decide⟩ hI 13 rfl rfl [13, 14, 15, 16] [0, 1, 2, 3, 4, 5, 6, 7, 8, 9, 10, 11, 12] [0, 1, 2, 3, 4, 5, 6, 7, 8, 9, 10, 11, 12, 13, 14, 15, 16] [10, 11, 12] rfl rfl rfl rfl (by decide) rfl (by rw [eW_24]; rfl) rfl rfl hl.1 rfl (Nat.le_of_ble_eq_true rfl) dX2_multiplyRows_24 ⟨by decide, by decide⟩ (st2 := [.int r_24]) rfl (fun H locs hI => ?_)
          refine lv_aload_n hx hb dX2_multiplyRows_27 rfl (lv_at hl 0 rfl) ?_
          refine va_get (D := D) (ci := 2) (v := .ref (ad 13)) (C := RX2) (T := TX2) (N := 13) hx hb hts hiX2 hown hK hI.1 0 rfl rfl 11 (by decide) (hts (.fieldLink RX2 56 "NoughtSums" "grown" "LNoughtSums$Span;") (by decide +kernel)) (fun _ h9 => h9) rfl dX2_multiplyRows_28 ?_
          refine lv_iload_n hx hb dX2_multiplyRows_31 rfl (lv_at hl 2 rfl) ?_
          obtain ⟨r_32, S_32, hf_32, hf⟩ := zB2_s hf
          obtain ⟨W_32, eW_32, hf⟩ := zL_e hf
          refine z_callX (w2 := (wX cy ad W_32)) C 1 (kX0_sumOfRow l zq D (fun k => cy (k + 13)) (fun k => ad (k + 13)) v2 (x_grown W_24) S_32 r_32 hf_32) gX2_multiplyRows_X0_sumOfRow rfl (by decide +kernel) ⟨by decide, by decide⟩ hI 13 rfl rfl [13, 14, 15, 16] [0, 1, 2, 3, 4, 5, 6, 7, 8, 9, 10, 11, 12] [0, 1, 2, 3, 4, 5, 6, 7, 8, 9, 10, 11, 12, 13, 14, 15, 16] [10, 11, 12] rfl rfl rfl rfl (by decide) rfl (by rw [eW_32]; rfl) rfl rfl hl.1 rfl (Nat.le_of_ble_eq_true rfl) dX2_multiplyRows_32 ⟨by decide, by decide⟩ (st2 := [.long r_32, .int r_24]) rfl (fun H locs hI => ?_)
          obtain ⟨r_35, hf_35, hf⟩ := zB1_s hf
          refine z_callS C 1 (kX2_degreeOf l zq D r_32 r_35 hf_35) gX2_multiplyRows_X2_degreeOf rfl (by decide +kernel) ⟨by decide, by decide⟩ hI rfl hl.1 rfl (Nat.le_of_ble_eq_true rfl) dX2_multiplyRows_35 ⟨by decide, by decide⟩ (st2 := [.int r_35, .int r_24]) rfl (fun H locs hI => ?_)
          refine lv_iconst (v := 1) hx hb dX2_multiplyRows_38 (by decide) ?_
          refine lv_iadd hx hb dX2_multiplyRows_39 ?_
          refine va_mmax hx hb (hml.trans hl.1.symm) hown (hts (.methodLink RX2 215 Lib.Math.max.name) (by decide +kernel)) (hts (.static Lib.Math.max.name) (by decide +kernel)) (hts (.initialized "java/lang/Math") (by decide +kernel)) (hts (.code Lib.Math.max.name Lib.Math.max.code 2 (some .int)) (by decide +kernel)) (by decide) (Nat.le_of_ble_eq_true rfl) (by decide) (by decide) dX2_multiplyRows_40 ?_
          refine lv_topi (fun n_43 e_43 => ?_)
          replace hf := zL_s hf e_43
          refine lv_istore_n (lv' := [(3, .int n_43), (0, .ref (ad 0)), (1, .int v1), (2, .int v2)]) hx hb dX2_multiplyRows_43 rfl hl (by decide) rfl (fun ls hl => ?_)
          refine lv_iload_n hx hb dX2_multiplyRows_44 rfl (lv_at hl 0 rfl) ?_
          refine lv_iload_n hx hb dX2_multiplyRows_45 rfl (lv_at hl 2 rfl) ?_
          refine lv_icmp_ne (tgt := 90) hx hb dX2_multiplyRows_46 (by decide) (fun c_46 => ?_) (fun c_46 => ?_)
          · replace hf := zIf c_46 hf
            exact hb90 (fX2_multiplyRows_b2L n) ih v1 v2 W_32 _ _ _ hf hI (lv_sub hl [1, 2, 3] rfl)
          · replace hf := zIt c_46 hf
            refine lv_iconst (v := 0) hx hb dX2_multiplyRows_49 (by decide) ?_
            refine lv_istore (lv' := [(4, .int (0 : Int32)), (3, .int n_43), (0, .ref (ad 0)), (1, .int v1), (2, .int v2)]) hx hb dX2_multiplyRows_50 hl (by decide) rfl (fun ls hl => ?_)
            exact hb52 (fX2_multiplyRows_b2L n) ih zF v1 v2 (0 : Int32) W_32 _ _ _ hf hI (lv_sub hl [2, 3, 4, 0] rfl)
  unfold fX2_multiplyRows at hf
  refine lv_iconst (v := 0) hx hb dX2_multiplyRows_0 (by decide) ?_
  refine lv_istore_n (lv' := [(2, .int (0 : Int32)), (0, .ref (ad 0)), (1, .int a1)]) hx hb dX2_multiplyRows_1 rfl hl (by decide) rfl (fun ls hl => ?_)
  exact hb2 zF a1 (0 : Int32) S _ _ _ hf hI (lv_sub hl [1, 2, 0] rfl)

def fX2_makeGrown_b72 (k17 : Int32 → XS → Option XS) (v1 : Int32) (S : XS) : Option XS :=
(zB1 (fX2_multiplyRows v1 S) (fun S_74 =>
k17 (v1 + (1 : Int32)) S_74))

def fX2_makeGrown_b66 (k17 : Int32 → XS → Option XS) (k25 : Int32 → Int32 → XS → Option XS) (v1 : Int32) (v2 : Int32) (S : XS) : Option XS :=
k25 v1 (v2 + (1 : Int32)) S

def fX2_makeGrown_b25 (k17 : Int32 → XS → Option XS) (k25 : Int32 → Int32 → XS → Option XS) (v1 : Int32) (v2 : Int32) (S : XS) : Option XS :=
(if (x_givenLines S) ≤ v2 then fX2_makeGrown_b72 k17 v1 S else
(if (8 : Int32) ≤ v2 then fX2_makeGrown_b72 k17 v1 S else
(zGI v2 32
((zB1 (fX2_degreeOf ((x_lineSums S) v2.toNatClampNeg)) (fun r_45 =>
(if r_45 = v1 then (zGI v2 32
((zB1 (fX0_add ((x_lineSums S) v2.toNatClampNeg) v1 (x_grown S)) (fun S_63 =>
(zL (x_grown_u S S_63) (fun W_63 =>
fX2_makeGrown_b66 k17 k25 v1 v2 W_63)))))) else
fX2_makeGrown_b66 k17 k25 v1 v2 S)))))))
def fX2_makeGrown_b25L (k17 : Int32 → XS → Option XS) : Nat → Int32 → Int32 → XS → Option XS
  | 0, _, _, _ => none
  | n + 1, v1, v2, S => fX2_makeGrown_b25 k17 (fX2_makeGrown_b25L k17 n) v1 v2 S

def fX2_makeGrown_b17 (k17 : Int32 → XS → Option XS) (v1 : Int32) (S : XS) : Option XS :=
(if (6 : Int32) < v1 then (zL (x_grownStands_u S (1 : Int32)) (fun S_85 =>
some S_85)) else
fX2_makeGrown_b25L k17 zF v1 (0 : Int32) S)
def fX2_makeGrown_b17L : Nat → Int32 → XS → Option XS
  | 0, _, _ => none
  | n + 1, v1, S => fX2_makeGrown_b17 (fX2_makeGrown_b17L n) v1 S

def fX2_makeGrown  (S : XS) : Option XS :=
(if (x_grownStands S) = 0 then (zB1 (fX0_empty (x_grown S)) (fun S_12 =>
(zL (x_grown_u S S_12) (fun W_12 =>
fX2_makeGrown_b17L zF (0 : Int32) W_12)))) else
some S)
set_option maxHeartbeats 4000000 in
set_option maxRecDepth 100000 in
theorem kX2_makeGrown (l : Launch) (zq : Nat → Nat) (D : va_G) (cy : Nat → ClassId) (ad : Nat → Nat)  (S S' : XS) (hf : fX2_makeGrown S = some S') : zMet l yX2_makeGrown wsX2_makeGrown 4 90 zq D (tX cy) (wX cy ad S) [.ref (ad 0)] none (wX cy ad S') := by
  refine zMet.of cX2_makeGrown 3 none (by decide) rfl (Nat.le_of_ble_eq_true rfl) ?_
  intro p e s m args below meth c A ls C hl hI
  have hl : lv_has ls 3 [(0, .ref (ad 0))] := hl
  have C : zC p s m args meth c cX2_makeGrown 3 none RX2 wsX2_makeGrown D (tX cy) zq A := C
  obtain ⟨hx, hb, hml, hown, hts, hret, hlk, hK, hX, hA⟩ := id C
  have hiX2 : ∀ w ∈ wsX20, w ∈ wsX2_makeGrown := by decide +kernel
  obtain ⟨Q, hQ⟩ : ∃ Q, Q = MQ below (zQ D (tX cy) (wX cy ad S') none A) args s 0 0 A := ⟨_, rfl⟩
  rw [← hQ]
  have hb72 : ∀ (k17 : Int32 → XS → Option XS) (hk17 : ∀ (v1 : Int32) (S : XS) (H : Heap) (locs : List Loc) (ls : Array Slot), k17 v1 S = some S' → zI D A s H locs (wX cy ad S) → lv_has ls 3 [(0, .ref (ad 0)), (1, .int v1)] → W p l e { frames := 4, cells := 0, slots := 0, locals := 90 } s m args below meth c H locs 0 0 Q (F0 m 17 ls [])), ∀ (v1 : Int32) (S : XS) (H : Heap) (locs : List Loc) (ls : Array Slot), fX2_makeGrown_b72 k17 v1 S = some S' → zI D A s H locs (wX cy ad S) → lv_has ls 3 [(0, .ref (ad 0)), (1, .int v1)] → W p l e { frames := 4, cells := 0, slots := 0, locals := 90 } s m args below meth c H locs 0 0 Q (F0 m 72 ls []) := by
    intro k17 hk17 v1 S H locs ls hf hI hl
    unfold fX2_makeGrown_b72 at hf
    refine lv_aload_n hx hb dX2_makeGrown_72 rfl (lv_at hl 0 rfl) ?_
    refine lv_iload_n hx hb dX2_makeGrown_73 rfl (lv_at hl 1 rfl) ?_
    obtain ⟨S_74, hf_74, hf⟩ := zB1_s hf
    refine z_callV (w2 := (wX cy ad S_74)) C 1 (kX2_multiplyRows l zq D cy ad v1 S S_74 hf_74) gX2_makeGrown_X2_multiplyRows rfl (by decide +kernel) ⟨by decide, by decide⟩ hI 0 rfl rfl rfl hl.1 rfl (Nat.le_of_ble_eq_true rfl) dX2_makeGrown_74 ⟨by decide, by decide⟩ (st2 := []) rfl (fun H locs hI => ?_)
    refine lv_iinc (v := (v1 + (1 : Int32))) (lv' := [(1, .int (v1 + (1 : Int32))), (0, .ref (ad 0))]) hx hb dX2_makeGrown_77 hl (k := 1) rfl rfl (by decide) rfl (fun ls hl => ?_)
    refine lv_goto (tgt := 17) hx hb dX2_makeGrown_80 (by decide) ?_
    exact hk17 (v1 + (1 : Int32)) S_74 _ _ _ hf hI (lv_sub hl [1, 0] rfl)
  have hb66 : ∀ (k17 : Int32 → XS → Option XS) (hk17 : ∀ (v1 : Int32) (S : XS) (H : Heap) (locs : List Loc) (ls : Array Slot), k17 v1 S = some S' → zI D A s H locs (wX cy ad S) → lv_has ls 3 [(0, .ref (ad 0)), (1, .int v1)] → W p l e { frames := 4, cells := 0, slots := 0, locals := 90 } s m args below meth c H locs 0 0 Q (F0 m 17 ls [])) (k25 : Int32 → Int32 → XS → Option XS) (hk25 : ∀ (v1 : Int32) (v2 : Int32) (S : XS) (H : Heap) (locs : List Loc) (ls : Array Slot), k25 v1 v2 S = some S' → zI D A s H locs (wX cy ad S) → lv_has ls 3 [(0, .ref (ad 0)), (1, .int v1), (2, .int v2)] → W p l e { frames := 4, cells := 0, slots := 0, locals := 90 } s m args below meth c H locs 0 0 Q (F0 m 25 ls [])), ∀ (v1 : Int32) (v2 : Int32) (S : XS) (H : Heap) (locs : List Loc) (ls : Array Slot), fX2_makeGrown_b66 k17 k25 v1 v2 S = some S' → zI D A s H locs (wX cy ad S) → lv_has ls 3 [(0, .ref (ad 0)), (1, .int v1), (2, .int v2)] → W p l e { frames := 4, cells := 0, slots := 0, locals := 90 } s m args below meth c H locs 0 0 Q (F0 m 66 ls []) := by
    intro k17 hk17 k25 hk25 v1 v2 S H locs ls hf hI hl
    unfold fX2_makeGrown_b66 at hf
    refine lv_iinc (v := (v2 + (1 : Int32))) (lv' := [(2, .int (v2 + (1 : Int32))), (0, .ref (ad 0)), (1, .int v1)]) hx hb dX2_makeGrown_66 hl (k := 2) rfl rfl (by decide) rfl (fun ls hl => ?_)
    refine lv_goto (tgt := 25) hx hb dX2_makeGrown_69 (by decide) ?_
    exact hk25 v1 (v2 + (1 : Int32)) S _ _ _ hf hI (lv_sub hl [1, 2, 0] rfl)
  have hb25 : ∀ (k17 : Int32 → XS → Option XS) (hk17 : ∀ (v1 : Int32) (S : XS) (H : Heap) (locs : List Loc) (ls : Array Slot), k17 v1 S = some S' → zI D A s H locs (wX cy ad S) → lv_has ls 3 [(0, .ref (ad 0)), (1, .int v1)] → W p l e { frames := 4, cells := 0, slots := 0, locals := 90 } s m args below meth c H locs 0 0 Q (F0 m 17 ls [])) (n : Nat), ∀ (v1 : Int32) (v2 : Int32) (S : XS) (H : Heap) (locs : List Loc) (ls : Array Slot), fX2_makeGrown_b25L k17 n v1 v2 S = some S' → zI D A s H locs (wX cy ad S) → lv_has ls 3 [(0, .ref (ad 0)), (1, .int v1), (2, .int v2)] → W p l e { frames := 4, cells := 0, slots := 0, locals := 90 } s m args below meth c H locs 0 0 Q (F0 m 25 ls []) := by
    intro k17 hk17 n
    induction n with
    | zero => intro v1 v2 S H locs ls hf; cases (show (none : Option XS) = some S' from hf)
    | succ n ih =>
      intro v1 v2 S H locs ls hf hI hl
      have hf : fX2_makeGrown_b25 k17 (fX2_makeGrown_b25L k17 n) v1 v2 S = some S' := hf
      unfold fX2_makeGrown_b25 at hf
      refine lv_iload_n hx hb dX2_makeGrown_25 rfl (lv_at hl 2 rfl) ?_
      refine lv_aload_n hx hb dX2_makeGrown_26 rfl (lv_at hl 0 rfl) ?_
      refine va_get (D := D) (ci := 2) (v := .int (x_givenLines S)) (C := RX2) (T := TX2) (N := 13) hx hb hts hiX2 hown hK hI.1 0 rfl rfl 4 (by decide) (hts (.fieldLink RX2 27 "NoughtSums" "givenLines" "I") (by decide +kernel)) (fun _ h9 => h9) rfl dX2_makeGrown_27 ?_
      refine lv_icmp_ge (tgt := 72) hx hb dX2_makeGrown_30 (by decide) (fun c_30 => ?_) (fun c_30 => ?_)
      · replace hf := zIt c_30 hf
        exact hb72 k17 hk17 v1 S _ _ _ hf hI (lv_sub hl [0, 1] rfl)
      · replace hf := zIf c_30 hf
        refine lv_iload_n hx hb dX2_makeGrown_33 rfl (lv_at hl 2 rfl) ?_
        refine lv_bipush (v := 8) hx hb dX2_makeGrown_34 (by decide) ?_
        refine lv_icmp_ge (tgt := 72) hx hb dX2_makeGrown_36 (by decide) (fun c_36 => ?_) (fun c_36 => ?_)
        · replace hf := zIt c_36 hf
          exact hb72 k17 hk17 v1 S _ _ _ hf hI (lv_sub hl [0, 1] rfl)
        · replace hf := zIf c_36 hf
          refine lv_aload_n hx hb dX2_makeGrown_39 rfl (lv_at hl 0 rfl) ?_
          refine va_get (D := D) (ci := 2) (v := .ref (ad 7)) (C := RX2) (T := TX2) (N := 13) hx hb hts hiX2 hown hK hI.1 0 rfl rfl 1 (by decide) (hts (.fieldLink RX2 16 "NoughtSums" "lineSums" "[J") (by decide +kernel)) (fun _ h9 => h9) rfl dX2_makeGrown_40 ?_
          refine lv_iload_n hx hb dX2_makeGrown_43 rfl (lv_at hl 2 rfl) ?_
          obtain ⟨g_44, hf⟩ := zGI_s hf
          refine va_lald (f := (x_lineSums S)) hx hb hK hI.1 7 5 rfl rfl g_44 dX2_makeGrown_44 ?_
          obtain ⟨r_45, hf_45, hf⟩ := zB1_s hf
          refine z_callS C 1 (kX2_degreeOf l zq D ((x_lineSums S) v2.toNatClampNeg) r_45 hf_45) gX2_makeGrown_X2_degreeOf rfl (by decide +kernel) ⟨by decide, by decide⟩ hI rfl hl.1 rfl (Nat.le_of_ble_eq_true rfl) dX2_makeGrown_45 ⟨by decide, by decide⟩ (st2 := [.int r_45]) rfl (fun H locs hI => ?_)
          refine lv_iload_n hx hb dX2_makeGrown_48 rfl (lv_at hl 1 rfl) ?_
          refine lv_icmp_ne (tgt := 66) hx hb dX2_makeGrown_49 (by decide) (fun c_49 => ?_) (fun c_49 => ?_)
          · replace hf := zIf c_49 hf
            exact hb66 k17 hk17 (fX2_makeGrown_b25L k17 n) ih v1 v2 S _ _ _ hf hI (lv_sub hl [0, 1, 2] rfl)
          · replace hf := zIt c_49 hf
            refine lv_aload_n hx hb dX2_makeGrown_52 rfl (lv_at hl 0 rfl) ?_
            refine va_get (D := D) (ci := 2) (v := .ref (ad 13)) (C := RX2) (T := TX2) (N := 13) hx hb hts hiX2 hown hK hI.1 0 rfl rfl 11 (by decide) (hts (.fieldLink RX2 56 "NoughtSums" "grown" "LNoughtSums$Span;") (by decide +kernel)) (fun _ h9 => h9) rfl dX2_makeGrown_53 ?_
            refine lv_aload_n hx hb dX2_makeGrown_56 rfl (lv_at hl 0 rfl) ?_
            refine va_get (D := D) (ci := 2) (v := .ref (ad 7)) (C := RX2) (T := TX2) (N := 13) hx hb hts hiX2 hown hK hI.1 0 rfl rfl 1 (by decide) (hts (.fieldLink RX2 16 "NoughtSums" "lineSums" "[J") (by decide +kernel)) (fun _ h9 => h9) rfl dX2_makeGrown_57 ?_
            refine lv_iload_n hx hb dX2_makeGrown_60 rfl (lv_at hl 2 rfl) ?_
            obtain ⟨g_61, hf⟩ := zGI_s hf
            refine va_lald (f := (x_lineSums S)) hx hb hK hI.1 7 5 rfl rfl g_61 dX2_makeGrown_61 ?_
            refine lv_iload_n hx hb dX2_makeGrown_62 rfl (lv_at hl 1 rfl) ?_
            obtain ⟨S_63, hf_63, hf⟩ := zB1_s hf
            obtain ⟨W_63, eW_63, hf⟩ := zL_e hf
            refine z_callX (w2 := (wX cy ad W_63)) C 2 (kX0_add l zq D (fun k => cy (k + 13)) (fun k => ad (k + 13)) ((x_lineSums S) v2.toNatClampNeg) v1 (x_grown S) S_63 hf_63) gX2_makeGrown_X0_add rfl (by decide +kernel) ⟨by decide, by decide⟩ hI 13 rfl rfl [13, 14, 15, 16] [0, 1, 2, 3, 4, 5, 6, 7, 8, 9, 10, 11, 12] [0, 1, 2, 3, 4, 5, 6, 7, 8, 9, 10, 11, 12, 13, 14, 15, 16] [10, 11, 12] rfl rfl rfl rfl (by decide) rfl (by rw [eW_63]; rfl) rfl rfl hl.1 rfl (Nat.le_of_ble_eq_true rfl) dX2_makeGrown_63 ⟨by decide, by decide⟩ (st2 := []) rfl (fun H locs hI => ?_)
            exact hb66 k17 hk17 (fX2_makeGrown_b25L k17 n) ih v1 v2 W_63 _ _ _ hf hI (lv_sub hl [0, 1, 2] rfl)
  have hb17 : ∀ (n : Nat), ∀ (v1 : Int32) (S : XS) (H : Heap) (locs : List Loc) (ls : Array Slot), fX2_makeGrown_b17L n v1 S = some S' → zI D A s H locs (wX cy ad S) → lv_has ls 3 [(0, .ref (ad 0)), (1, .int v1)] → W p l e { frames := 4, cells := 0, slots := 0, locals := 90 } s m args below meth c H locs 0 0 Q (F0 m 17 ls []) := by
    intro n
    induction n with
    | zero => intro v1 S H locs ls hf; cases (show (none : Option XS) = some S' from hf)
    | succ n ih =>
      intro v1 S H locs ls hf hI hl
      have hf : fX2_makeGrown_b17 (fX2_makeGrown_b17L n) v1 S = some S' := hf
      unfold fX2_makeGrown_b17 at hf
      refine lv_iload_n hx hb dX2_makeGrown_17 rfl (lv_at hl 1 rfl) ?_
      refine lv_bipush (v := 6) hx hb dX2_makeGrown_18 (by decide) ?_
      refine lv_icmp_gt (tgt := 83) hx hb dX2_makeGrown_20 (by decide) (fun c_20 => ?_) (fun c_20 => ?_)
      · replace hf := zIt c_20 hf
        refine lv_aload_n hx hb dX2_makeGrown_83 rfl (lv_at hl 0 rfl) ?_
        refine lv_iconst (v := 1) hx hb dX2_makeGrown_84 (by decide) ?_
        obtain ⟨S_85, eS_85, hf⟩ := zL_e hf
        refine z_put (D := D) (ci := 2) (v := .int (1 : Int32)) (ty := .boolean) (C := RX2) (T := TX2) (N := 13) (w2 := (wX cy ad S_85)) hx hb hts hiX2 tyX2 tyX2_ok nmX2 hown hK hI 0 rfl rfl 12 (by decide) (hts (.fieldLink RX2 59 "NoughtSums" "grownStands" "Z") (by decide +kernel)) (fun _ h9 => h9) rfl (by decide +kernel) rfl rfl (Nat.le_of_ble_eq_true rfl) dX2_makeGrown_85 (by rw [eS_85]; rfl) (fun H locs hI => ?_)
        have h2 := zP1 hf
        rw [hQ]
        exact z_vret C (by rw [h2]; exact hI) rfl dX2_makeGrown_88
      · replace hf := zIf c_20 hf
        refine lv_iconst (v := 0) hx hb dX2_makeGrown_23 (by decide) ?_
        refine lv_istore_n (lv' := [(2, .int (0 : Int32)), (0, .ref (ad 0)), (1, .int v1)]) hx hb dX2_makeGrown_24 rfl hl (by decide) rfl (fun ls hl => ?_)
        exact hb25 (fX2_makeGrown_b17L n) ih zF v1 (0 : Int32) S _ _ _ hf hI (lv_sub hl [1, 2, 0] rfl)
  unfold fX2_makeGrown at hf
  refine lv_aload_n hx hb dX2_makeGrown_0 rfl (lv_at hl 0 rfl) ?_
  refine va_get (D := D) (ci := 2) (v := .int (x_grownStands S)) (C := RX2) (T := TX2) (N := 13) hx hb hts hiX2 hown hK hI.1 0 rfl rfl 12 (by decide) (hts (.fieldLink RX2 59 "NoughtSums" "grownStands" "Z") (by decide +kernel)) (fun _ h9 => h9) rfl dX2_makeGrown_1 ?_
  refine lv_if_eq (tgt := 8) hx hb dX2_makeGrown_4 (by decide) (fun c_4 => ?_) (fun c_4 => ?_)
  · replace hf := zIt c_4 hf
    refine lv_aload_n hx hb dX2_makeGrown_8 rfl (lv_at hl 0 rfl) ?_
    refine va_get (D := D) (ci := 2) (v := .ref (ad 13)) (C := RX2) (T := TX2) (N := 13) hx hb hts hiX2 hown hK hI.1 0 rfl rfl 11 (by decide) (hts (.fieldLink RX2 56 "NoughtSums" "grown" "LNoughtSums$Span;") (by decide +kernel)) (fun _ h9 => h9) rfl dX2_makeGrown_9 ?_
    obtain ⟨S_12, hf_12, hf⟩ := zB1_s hf
    obtain ⟨W_12, eW_12, hf⟩ := zL_e hf
    refine z_callX (w2 := (wX cy ad W_12)) C 0 (kX0_empty l zq D (fun k => cy (k + 13)) (fun k => ad (k + 13)) (x_grown S) S_12 hf_12) gX2_makeGrown_X0_empty rfl (by decide +kernel) ⟨by decide, by decide⟩ hI 13 rfl rfl [13, 14, 15, 16] [0, 1, 2, 3, 4, 5, 6, 7, 8, 9, 10, 11, 12] [0, 1, 2, 3, 4, 5, 6, 7, 8, 9, 10, 11, 12, 13, 14, 15, 16] [10, 11, 12] rfl rfl rfl rfl (by decide) rfl (by rw [eW_12]; rfl) rfl rfl hl.1 rfl (Nat.le_of_ble_eq_true rfl) dX2_makeGrown_12 ⟨by decide, by decide⟩ (st2 := []) rfl (fun H locs hI => ?_)
    refine lv_iconst (v := 0) hx hb dX2_makeGrown_15 (by decide) ?_
    refine lv_istore_n (lv' := [(1, .int (0 : Int32)), (0, .ref (ad 0))]) hx hb dX2_makeGrown_16 rfl hl (by decide) rfl (fun ls hl => ?_)
    exact hb17 zF (0 : Int32) W_12 _ _ _ hf hI (lv_sub hl [1, 0] rfl)
  · replace hf := zIf c_4 hf
    have h2 := zP1 hf
    rw [hQ]
    exact z_vret C (by rw [h2]; exact hI) rfl dX2_makeGrown_7

def fX2_deep (a1 : Int32) (a2 : Int32) (S : XS) : Option (Int32 × XS) :=
(zB2 (fX2_isLine a1 S) (fun r_2 S_2 =>
(if r_2 = 0 then some ((-1 : Int32), S_2) else
(if a2 < 0 then some ((-1 : Int32), S_2) else
(if a2 ≤ (1 : Int32) then (if a2 = 0 then (zB1 (fX2_makeFollowing S_2) (fun S_24 =>
(zGI a1 32
((zB2 (fX0_levelOf ((x_lineSums S_24) a1.toNatClampNeg) (x_following S_24)) (fun r_37 S_37 =>
(zL (x_following_u S_24 S_37) (fun W_37 =>
some (r_37, W_37))))))))) else
(zB1 (fX2_makeGrown S_2) (fun S_42 =>
(zGI a1 32
((zB2 (fX0_levelOf ((x_lineSums S_42) a1.toNatClampNeg) (x_grown S_42)) (fun r_55 S_55 =>
(zL (x_grown_u S_42 S_55) (fun W_55 =>
some (r_55, W_55)))))))))) else
some ((-1 : Int32), S_2))))))
set_option maxHeartbeats 4000000 in
set_option maxRecDepth 100000 in
theorem kX2_deep (l : Launch) (zq : Nat → Nat) (D : va_G) (cy : Nat → ClassId) (ad : Nat → Nat) (a1 : Int32) (a2 : Int32) (S S' : XS) (r : Int32) (hf : fX2_deep a1 a2 S = some (r, S')) : zMet l yX2_deep wsX2_deep 5 112 zq D (tX cy) (wX cy ad S) [.ref (ad 0), .int a1, .int a2] (some (.int r)) (wX cy ad S') := by
  refine zMet.of cX2_deep 3 (some .int) (by decide) rfl (Nat.le_of_ble_eq_true rfl) ?_
  intro p e s m args below meth c A ls C hl hI
  have hl : lv_has ls 3 [(0, .ref (ad 0)), (1, .int a1), (2, .int a2)] := hl
  have C : zC p s m args meth c cX2_deep 3 (some .int) RX2 wsX2_deep D (tX cy) zq A := C
  obtain ⟨hx, hb, hml, hown, hts, hret, hlk, hK, hX, hA⟩ := id C
  have hiX2 : ∀ w ∈ wsX20, w ∈ wsX2_deep := by decide +kernel
  obtain ⟨Q, hQ⟩ : ∃ Q, Q = MQ below (zQ D (tX cy) (wX cy ad S') (some (.int r)) A) args s 0 0 A := ⟨_, rfl⟩
  rw [← hQ]
  unfold fX2_deep at hf
  refine lv_aload_n hx hb dX2_deep_0 rfl (lv_at hl 0 rfl) ?_
  refine lv_iload_n hx hb dX2_deep_1 rfl (lv_at hl 1 rfl) ?_
  obtain ⟨r_2, S_2, hf_2, hf⟩ := zB2_s hf
  refine z_callV (w2 := (wX cy ad S_2)) C 1 (kX2_isLine l zq D cy ad a1 S S_2 r_2 hf_2) gX2_deep_X2_isLine rfl (by decide +kernel) ⟨by decide, by decide⟩ hI 0 rfl rfl rfl hl.1 rfl (Nat.le_of_ble_eq_true rfl) dX2_deep_2 ⟨by decide, by decide⟩ (st2 := [.int r_2]) rfl (fun H locs hI => ?_)
  refine lv_if_eq (tgt := 17) hx hb dX2_deep_5 (by decide) (fun c_5 => ?_) (fun c_5 => ?_)
  · replace hf := zIt c_5 hf
    refine lv_iconst (v := -1) hx hb dX2_deep_17 (by decide) ?_
    obtain ⟨h1, h2⟩ := zP2 hf
    rw [hQ]
    exact z_iret C (by rw [h2]; exact hI) (by rw [h1]) dX2_deep_18
  · replace hf := zIf c_5 hf
    refine lv_iload_n hx hb dX2_deep_8 rfl (lv_at hl 2 rfl) ?_
    refine lv_if_lt (tgt := 17) hx hb dX2_deep_9 (by decide) (fun c_9 => ?_) (fun c_9 => ?_)
    · replace hf := zIt c_9 hf
      refine lv_iconst (v := -1) hx hb dX2_deep_17 (by decide) ?_
      obtain ⟨h1, h2⟩ := zP2 hf
      rw [hQ]
      exact z_iret C (by rw [h2]; exact hI) (by rw [h1]) dX2_deep_18
    · replace hf := zIf c_9 hf
      refine lv_iload_n hx hb dX2_deep_12 rfl (lv_at hl 2 rfl) ?_
      refine lv_iconst (v := 1) hx hb dX2_deep_13 (by decide) ?_
      refine lv_icmp_le (tgt := 19) hx hb dX2_deep_14 (by decide) (fun c_14 => ?_) (fun c_14 => ?_)
      · replace hf := zIt c_14 hf
        refine lv_iload_n hx hb dX2_deep_19 rfl (lv_at hl 2 rfl) ?_
        refine lv_if_ne (tgt := 41) hx hb dX2_deep_20 (by decide) (fun c_20 => ?_) (fun c_20 => ?_)
        · replace hf := zIf c_20 hf
          refine lv_aload_n hx hb dX2_deep_41 rfl (lv_at hl 0 rfl) ?_
          obtain ⟨S_42, hf_42, hf⟩ := zB1_s hf
          refine z_callV (w2 := (wX cy ad S_42)) C 0 (kX2_makeGrown l zq D cy ad S_2 S_42 hf_42) gX2_deep_X2_makeGrown rfl (by decide +kernel) ⟨by decide, by decide⟩ hI 0 rfl rfl rfl hl.1 rfl (Nat.le_of_ble_eq_true rfl) dX2_deep_42 ⟨by decide, by decide⟩ (st2 := []) rfl (fun H locs hI => ?_)
          refine lv_aload_n hx hb dX2_deep_45 rfl (lv_at hl 0 rfl) ?_
          refine va_get (D := D) (ci := 2) (v := .ref (ad 13)) (C := RX2) (T := TX2) (N := 13) hx hb hts hiX2 hown hK hI.1 0 rfl rfl 11 (by decide) (hts (.fieldLink RX2 56 "NoughtSums" "grown" "LNoughtSums$Span;") (by decide +kernel)) (fun _ h9 => h9) rfl dX2_deep_46 ?_
          refine lv_aload_n hx hb dX2_deep_49 rfl (lv_at hl 0 rfl) ?_
          refine va_get (D := D) (ci := 2) (v := .ref (ad 7)) (C := RX2) (T := TX2) (N := 13) hx hb hts hiX2 hown hK hI.1 0 rfl rfl 1 (by decide) (hts (.fieldLink RX2 16 "NoughtSums" "lineSums" "[J") (by decide +kernel)) (fun _ h9 => h9) rfl dX2_deep_50 ?_
          refine lv_iload_n hx hb dX2_deep_53 rfl (lv_at hl 1 rfl) ?_
          obtain ⟨g_54, hf⟩ := zGI_s hf
          refine va_lald (f := (x_lineSums S_42)) hx hb hK hI.1 7 5 rfl rfl g_54 dX2_deep_54 ?_
          obtain ⟨r_55, S_55, hf_55, hf⟩ := zB2_s hf
          obtain ⟨W_55, eW_55, hf⟩ := zL_e hf
          refine z_callX (w2 := (wX cy ad W_55)) C 1 (kX0_levelOf l zq D (fun k => cy (k + 13)) (fun k => ad (k + 13)) ((x_lineSums S_42) a1.toNatClampNeg) (x_grown S_42) S_55 r_55 hf_55) gX2_deep_X0_levelOf rfl (by decide +kernel) ⟨by decide, by decide⟩ hI 13 rfl rfl [13, 14, 15, 16] [0, 1, 2, 3, 4, 5, 6, 7, 8, 9, 10, 11, 12] [0, 1, 2, 3, 4, 5, 6, 7, 8, 9, 10, 11, 12, 13, 14, 15, 16] [10, 11, 12] rfl rfl rfl rfl (by decide) rfl (by rw [eW_55]; rfl) rfl rfl hl.1 rfl (Nat.le_of_ble_eq_true rfl) dX2_deep_55 ⟨by decide, by decide⟩ (st2 := [.int r_55]) rfl (fun H locs hI => ?_)
          obtain ⟨h1, h2⟩ := zP2 hf
          rw [hQ]
          exact z_iret C (by rw [h2]; exact hI) (by rw [h1]) dX2_deep_58
        · replace hf := zIt c_20 hf
          refine lv_aload_n hx hb dX2_deep_23 rfl (lv_at hl 0 rfl) ?_
          obtain ⟨S_24, hf_24, hf⟩ := zB1_s hf
          refine z_callV (w2 := (wX cy ad S_24)) C 0 (kX2_makeFollowing l zq D cy ad S_2 S_24 hf_24) gX2_deep_X2_makeFollowing rfl (by decide +kernel) ⟨by decide, by decide⟩ hI 0 rfl rfl rfl hl.1 rfl (Nat.le_of_ble_eq_true rfl) dX2_deep_24 ⟨by decide, by decide⟩ (st2 := []) rfl (fun H locs hI => ?_)
          refine lv_aload_n hx hb dX2_deep_27 rfl (lv_at hl 0 rfl) ?_
          refine va_get (D := D) (ci := 2) (v := .ref (ad 9)) (C := RX2) (T := TX2) (N := 13) hx hb hts hiX2 hown hK hI.1 0 rfl rfl 9 (by decide) (hts (.fieldLink RX2 48 "NoughtSums" "following" "LNoughtSums$Span;") (by decide +kernel)) (fun _ h9 => h9) rfl dX2_deep_28 ?_
          refine lv_aload_n hx hb dX2_deep_31 rfl (lv_at hl 0 rfl) ?_
          refine va_get (D := D) (ci := 2) (v := .ref (ad 7)) (C := RX2) (T := TX2) (N := 13) hx hb hts hiX2 hown hK hI.1 0 rfl rfl 1 (by decide) (hts (.fieldLink RX2 16 "NoughtSums" "lineSums" "[J") (by decide +kernel)) (fun _ h9 => h9) rfl dX2_deep_32 ?_
          refine lv_iload_n hx hb dX2_deep_35 rfl (lv_at hl 1 rfl) ?_
          obtain ⟨g_36, hf⟩ := zGI_s hf
          refine va_lald (f := (x_lineSums S_24)) hx hb hK hI.1 7 5 rfl rfl g_36 dX2_deep_36 ?_
          obtain ⟨r_37, S_37, hf_37, hf⟩ := zB2_s hf
          obtain ⟨W_37, eW_37, hf⟩ := zL_e hf
          refine z_callX (w2 := (wX cy ad W_37)) C 1 (kX0_levelOf l zq D (fun k => cy (k + 9)) (fun k => ad (k + 9)) ((x_lineSums S_24) a1.toNatClampNeg) (x_following S_24) S_37 r_37 hf_37) gX2_deep_X0_levelOf rfl (by decide +kernel) ⟨by decide, by decide⟩ hI 9 rfl rfl [9, 10, 11, 12] [0, 1, 2, 3, 4, 5, 6, 7, 8, 13, 14, 15, 16] [0, 1, 2, 3, 4, 5, 6, 7, 8, 13, 14, 15, 16, 9, 10, 11, 12] [7, 8, 9] rfl rfl rfl rfl (by decide) rfl (by rw [eW_37]; rfl) rfl rfl hl.1 rfl (Nat.le_of_ble_eq_true rfl) dX2_deep_37 ⟨by decide, by decide⟩ (st2 := [.int r_37]) rfl (fun H locs hI => ?_)
          obtain ⟨h1, h2⟩ := zP2 hf
          rw [hQ]
          exact z_iret C (by rw [h2]; exact hI) (by rw [h1]) dX2_deep_40
      · replace hf := zIf c_14 hf
        refine lv_iconst (v := -1) hx hb dX2_deep_17 (by decide) ?_
        obtain ⟨h1, h2⟩ := zP2 hf
        rw [hQ]
        exact z_iret C (by rw [h2]; exact hI) (by rw [h1]) dX2_deep_18

def fX2_worldsOf_b46 (k7 : Int32 → Int64 → Int32 → XS → Option (Int64 × XS)) (v1 : Int32) (v2 : Int64) (v4 : Int32) (S : XS) : Option (Int64 × XS) :=
k7 v1 v2 (v4 + (1 : Int32)) S

def fX2_worldsOf_b7 (k7 : Int32 → Int64 → Int32 → XS → Option (Int64 × XS)) (v1 : Int32) (v2 : Int64) (v4 : Int32) (S : XS) : Option (Int64 × XS) :=
(if (x_givenLines S) ≤ v4 then some (v2, S) else
(if (8 : Int32) ≤ v4 then some (v2, S) else
(if ((zUshr v1 v4) &&& (1 : Int32)) = 0 then fX2_worldsOf_b46 k7 v1 v2 v4 S else
(zGI v4 32
((zL (v2 &&& (((x_lineValues S) v4.toNatClampNeg) ^^^ (-1 : Int64))) (fun n_45 =>
fX2_worldsOf_b46 k7 v1 n_45 v4 S)))))))
def fX2_worldsOf_b7L : Nat → Int32 → Int64 → Int32 → XS → Option (Int64 × XS)
  | 0, _, _, _, _ => none
  | n + 1, v1, v2, v4, S => fX2_worldsOf_b7 (fX2_worldsOf_b7L n) v1 v2 v4 S

def fX2_worldsOf (a1 : Int32) (S : XS) : Option (Int64 × XS) :=
fX2_worldsOf_b7L zF a1 (-1 : Int64) (0 : Int32) S
set_option maxHeartbeats 4000000 in
set_option maxRecDepth 100000 in
theorem kX2_worldsOf (l : Launch) (zq : Nat → Nat) (D : va_G) (cy : Nat → ClassId) (ad : Nat → Nat) (a1 : Int32) (S S' : XS) (r : Int64) (hf : fX2_worldsOf a1 S = some (r, S')) : zMet l yX2_worldsOf wsX2_worldsOf 0 0 zq D (tX cy) (wX cy ad S) [.ref (ad 0), .int a1] (some (.long r)) (wX cy ad S') := by
  refine zMet.of cX2_worldsOf 5 (some .long) (by decide) rfl (Nat.le_of_ble_eq_true rfl) ?_
  intro p e s m args below meth c A ls C hl hI
  have hl : lv_has ls 5 [(0, .ref (ad 0)), (1, .int a1)] := hl
  have C : zC p s m args meth c cX2_worldsOf 5 (some .long) RX2 wsX2_worldsOf D (tX cy) zq A := C
  obtain ⟨hx, hb, hml, hown, hts, hret, hlk, hK, hX, hA⟩ := id C
  have hiX2 : ∀ w ∈ wsX20, w ∈ wsX2_worldsOf := by decide +kernel
  obtain ⟨Q, hQ⟩ : ∃ Q, Q = MQ below (zQ D (tX cy) (wX cy ad S') (some (.long r)) A) args s 0 0 A := ⟨_, rfl⟩
  rw [← hQ]
  have hb46 : ∀ (k7 : Int32 → Int64 → Int32 → XS → Option (Int64 × XS)) (hk7 : ∀ (v1 : Int32) (v2 : Int64) (v4 : Int32) (S : XS) (H : Heap) (locs : List Loc) (ls : Array Slot), k7 v1 v2 v4 S = some (r, S') → zI D A s H locs (wX cy ad S) → lv_has ls 5 [(0, .ref (ad 0)), (1, .int v1), (2, .long v2), (4, .int v4)] → W p l e { frames := 0, cells := 0, slots := 0, locals := 0 } s m args below meth c H locs 0 0 Q (F0 m 7 ls [])), ∀ (v1 : Int32) (v2 : Int64) (v4 : Int32) (S : XS) (H : Heap) (locs : List Loc) (ls : Array Slot), fX2_worldsOf_b46 k7 v1 v2 v4 S = some (r, S') → zI D A s H locs (wX cy ad S) → lv_has ls 5 [(0, .ref (ad 0)), (1, .int v1), (2, .long v2), (4, .int v4)] → W p l e { frames := 0, cells := 0, slots := 0, locals := 0 } s m args below meth c H locs 0 0 Q (F0 m 46 ls []) := by
    intro k7 hk7 v1 v2 v4 S H locs ls hf hI hl
    unfold fX2_worldsOf_b46 at hf
    refine lv_iinc (v := (v4 + (1 : Int32))) (lv' := [(4, .int (v4 + (1 : Int32))), (0, .ref (ad 0)), (1, .int v1), (2, .long v2)]) hx hb dX2_worldsOf_46 hl (k := 3) rfl rfl (by decide) rfl (fun ls hl => ?_)
    refine lv_goto (tgt := 7) hx hb dX2_worldsOf_49 (by decide) ?_
    exact hk7 v1 v2 (v4 + (1 : Int32)) S _ _ _ hf hI (lv_sub hl [1, 2, 3, 0] rfl)
  have hb7 : ∀ (n : Nat), ∀ (v1 : Int32) (v2 : Int64) (v4 : Int32) (S : XS) (H : Heap) (locs : List Loc) (ls : Array Slot), fX2_worldsOf_b7L n v1 v2 v4 S = some (r, S') → zI D A s H locs (wX cy ad S) → lv_has ls 5 [(0, .ref (ad 0)), (1, .int v1), (2, .long v2), (4, .int v4)] → W p l e { frames := 0, cells := 0, slots := 0, locals := 0 } s m args below meth c H locs 0 0 Q (F0 m 7 ls []) := by
    intro n
    induction n with
    | zero => intro v1 v2 v4 S H locs ls hf; cases (show (none : Option (Int64 × XS)) = some (r, S') from hf)
    | succ n ih =>
      intro v1 v2 v4 S H locs ls hf hI hl
      have hf : fX2_worldsOf_b7 (fX2_worldsOf_b7L n) v1 v2 v4 S = some (r, S') := hf
      unfold fX2_worldsOf_b7 at hf
      refine lv_iload hx hb dX2_worldsOf_7 (lv_at hl 3 rfl) ?_
      refine lv_aload_n hx hb dX2_worldsOf_9 rfl (lv_at hl 0 rfl) ?_
      refine va_get (D := D) (ci := 2) (v := .int (x_givenLines S)) (C := RX2) (T := TX2) (N := 13) hx hb hts hiX2 hown hK hI.1 0 rfl rfl 4 (by decide) (hts (.fieldLink RX2 27 "NoughtSums" "givenLines" "I") (by decide +kernel)) (fun _ h9 => h9) rfl dX2_worldsOf_10 ?_
      refine lv_icmp_ge (tgt := 52) hx hb dX2_worldsOf_13 (by decide) (fun c_13 => ?_) (fun c_13 => ?_)
      · replace hf := zIt c_13 hf
        refine lv_lload_n hx hb dX2_worldsOf_52 rfl (lv_at hl 2 rfl) ?_
        obtain ⟨h1, h2⟩ := zP2 hf
        rw [hQ]
        exact z_lret C (by rw [h2]; exact hI) (by rw [h1]) dX2_worldsOf_53
      · replace hf := zIf c_13 hf
        refine lv_iload hx hb dX2_worldsOf_16 (lv_at hl 3 rfl) ?_
        refine lv_bipush (v := 8) hx hb dX2_worldsOf_18 (by decide) ?_
        refine lv_icmp_ge (tgt := 52) hx hb dX2_worldsOf_20 (by decide) (fun c_20 => ?_) (fun c_20 => ?_)
        · replace hf := zIt c_20 hf
          refine lv_lload_n hx hb dX2_worldsOf_52 rfl (lv_at hl 2 rfl) ?_
          obtain ⟨h1, h2⟩ := zP2 hf
          rw [hQ]
          exact z_lret C (by rw [h2]; exact hI) (by rw [h1]) dX2_worldsOf_53
        · replace hf := zIf c_20 hf
          refine lv_iload_n hx hb dX2_worldsOf_23 rfl (lv_at hl 1 rfl) ?_
          refine lv_iload hx hb dX2_worldsOf_24 (lv_at hl 3 rfl) ?_
          refine lv_iushr (v := zUshr v1 v4) hx hb dX2_worldsOf_26 rfl ?_
          refine lv_iconst (v := 1) hx hb dX2_worldsOf_27 (by decide) ?_
          refine lv_iand hx hb dX2_worldsOf_28 ?_
          refine lv_if_eq (tgt := 46) hx hb dX2_worldsOf_29 (by decide) (fun c_29 => ?_) (fun c_29 => ?_)
          · replace hf := zIt c_29 hf
            exact hb46 (fX2_worldsOf_b7L n) ih v1 v2 v4 S _ _ _ hf hI (lv_sub hl [0, 1, 2, 3] rfl)
          · replace hf := zIf c_29 hf
            refine lv_lload_n hx hb dX2_worldsOf_32 rfl (lv_at hl 2 rfl) ?_
            refine lv_aload_n hx hb dX2_worldsOf_33 rfl (lv_at hl 0 rfl) ?_
            refine va_get (D := D) (ci := 2) (v := .ref (ad 8)) (C := RX2) (T := TX2) (N := 13) hx hb hts hiX2 hown hK hI.1 0 rfl rfl 2 (by decide) (hts (.fieldLink RX2 20 "NoughtSums" "lineValues" "[J") (by decide +kernel)) (fun _ h9 => h9) rfl dX2_worldsOf_34 ?_
            refine lv_iload hx hb dX2_worldsOf_37 (lv_at hl 3 rfl) ?_
            obtain ⟨g_39, hf⟩ := zGI_s hf
            refine va_lald (f := (x_lineValues S)) hx hb hK hI.1 8 6 rfl rfl g_39 dX2_worldsOf_39 ?_
            refine lv_ldc2 hx hb hown (hts (.constantLong RX2 36 (-1)) (by decide +kernel)) dX2_worldsOf_40 ?_
            refine lv_lxor hx hb dX2_worldsOf_43 ?_
            refine lv_land hx hb dX2_worldsOf_44 ?_
            refine lv_topl (fun n_45 e_45 => ?_)
            replace hf := zL_s hf e_45
            refine lv_lstore_n (lv' := [(2, .long n_45), (0, .ref (ad 0)), (1, .int v1), (4, .int v4)]) hx hb dX2_worldsOf_45 rfl hl (by decide) rfl (fun ls hl => ?_)
            exact hb46 (fX2_worldsOf_b7L n) ih v1 n_45 v4 S _ _ _ hf hI (lv_sub hl [1, 2, 0, 3] rfl)
  unfold fX2_worldsOf at hf
  refine lv_ldc2 hx hb hown (hts (.constantLong RX2 36 (-1)) (by decide +kernel)) dX2_worldsOf_0 ?_
  refine lv_lstore_n (lv' := [(2, .long (-1 : Int64)), (0, .ref (ad 0)), (1, .int a1)]) hx hb dX2_worldsOf_3 rfl hl (by decide) rfl (fun ls hl => ?_)
  refine lv_iconst (v := 0) hx hb dX2_worldsOf_4 (by decide) ?_
  refine lv_istore (lv' := [(4, .int (0 : Int32)), (2, .long (-1 : Int64)), (0, .ref (ad 0)), (1, .int a1)]) hx hb dX2_worldsOf_5 hl (by decide) rfl (fun ls hl => ?_)
  exact hb7 zF a1 (-1 : Int64) (0 : Int32) S _ _ _ hf hI (lv_sub hl [2, 3, 1, 0] rfl)

def fX2_fewestGiven_b63 (k6 : Int64 → Int32 → Int32 → XS → Option (Int32 × XS)) (v1 : Int64) (v3 : Int32) (v4 : Int32) (S : XS) : Option (Int32 × XS) :=
k6 v1 v3 (v4 + (1 : Int32)) S

def fX2_fewestGiven_b40 (k6 : Int64 → Int32 → Int32 → XS → Option (Int32 × XS)) (v1 : Int64) (v3 : Int32) (v4 : Int32) (u0 : Int32) (S : XS) : Option (Int32 × XS) :=
(if u0 = 0 then fX2_fewestGiven_b63 k6 v1 v3 v4 S else
(zB2 (fX2_worldsOf v4 S) (fun r_51 S_51 =>
(if (lg_cmp (v1 &&& r_51) (0 : Int64)) = 0 then fX2_fewestGiven_b63 k6 v1 v4 v4 S_51 else
fX2_fewestGiven_b63 k6 v1 v3 v4 S_51))))

def fX2_fewestGiven_b35 (k6 : Int64 → Int32 → Int32 → XS → Option (Int32 × XS)) (v1 : Int64) (v3 : Int32) (v4 : Int32) (S : XS) : Option (Int32 × XS) :=
fX2_fewestGiven_b40 k6 v1 v3 v4 (1 : Int32) S

def fX2_fewestGiven_b6 (k6 : Int64 → Int32 → Int32 → XS → Option (Int32 × XS)) (v1 : Int64) (v3 : Int32) (v4 : Int32) (S : XS) : Option (Int32 × XS) :=
(if ((1 : Int32) <<< ((x_givenLines S) &&& 31)) ≤ v4 then some (v3, S) else
(if v3 = (-9 : Int32) then fX2_fewestGiven_b35 k6 v1 v3 v4 S else
(zB1 (fJ6_bitCount_0f7a4 v4) (fun r_25 =>
(zB1 (fJ6_bitCount_0f7a4 v3) (fun r_29 =>
(if r_29 ≤ r_25 then fX2_fewestGiven_b40 k6 v1 v3 v4 (0 : Int32) S else
fX2_fewestGiven_b35 k6 v1 v3 v4 S)))))))
def fX2_fewestGiven_b6L : Nat → Int64 → Int32 → Int32 → XS → Option (Int32 × XS)
  | 0, _, _, _, _ => none
  | n + 1, v1, v3, v4, S => fX2_fewestGiven_b6 (fX2_fewestGiven_b6L n) v1 v3 v4 S

def fX2_fewestGiven (a1 : Int64) (S : XS) : Option (Int32 × XS) :=
fX2_fewestGiven_b6L zF a1 (-9 : Int32) (0 : Int32) S
set_option maxHeartbeats 4000000 in
set_option maxRecDepth 100000 in
theorem kX2_fewestGiven (l : Launch) (zq : Nat → Nat) (D : va_G) (cy : Nat → ClassId) (ad : Nat → Nat) (a1 : Int64) (S S' : XS) (r : Int32) (hf : fX2_fewestGiven a1 S = some (r, S')) : zMet l yX2_fewestGiven wsX2_fewestGiven 1 24 zq D (tX cy) (wX cy ad S) [.ref (ad 0), .long a1] (some (.int r)) (wX cy ad S') := by
  refine zMet.of cX2_fewestGiven 6 (some .int) (by decide) rfl (Nat.le_of_ble_eq_true rfl) ?_
  intro p e s m args below meth c A ls C hl hI
  have hl : lv_has ls 6 [(0, .ref (ad 0)), (1, .long a1)] := hl
  have C : zC p s m args meth c cX2_fewestGiven 6 (some .int) RX2 wsX2_fewestGiven D (tX cy) zq A := C
  obtain ⟨hx, hb, hml, hown, hts, hret, hlk, hK, hX, hA⟩ := id C
  have hiX2 : ∀ w ∈ wsX20, w ∈ wsX2_fewestGiven := by decide +kernel
  obtain ⟨Q, hQ⟩ : ∃ Q, Q = MQ below (zQ D (tX cy) (wX cy ad S') (some (.int r)) A) args s 0 0 A := ⟨_, rfl⟩
  rw [← hQ]
  have hb63 : ∀ (k6 : Int64 → Int32 → Int32 → XS → Option (Int32 × XS)) (hk6 : ∀ (v1 : Int64) (v3 : Int32) (v4 : Int32) (S : XS) (H : Heap) (locs : List Loc) (ls : Array Slot), k6 v1 v3 v4 S = some (r, S') → zI D A s H locs (wX cy ad S) → lv_has ls 6 [(0, .ref (ad 0)), (1, .long v1), (3, .int v3), (4, .int v4)] → W p l e { frames := 1, cells := 0, slots := 0, locals := 24 } s m args below meth c H locs 0 0 Q (F0 m 6 ls [])), ∀ (v1 : Int64) (v3 : Int32) (v4 : Int32) (S : XS) (H : Heap) (locs : List Loc) (ls : Array Slot), fX2_fewestGiven_b63 k6 v1 v3 v4 S = some (r, S') → zI D A s H locs (wX cy ad S) → lv_has ls 6 [(0, .ref (ad 0)), (1, .long v1), (3, .int v3), (4, .int v4)] → W p l e { frames := 1, cells := 0, slots := 0, locals := 24 } s m args below meth c H locs 0 0 Q (F0 m 63 ls []) := by
    intro k6 hk6 v1 v3 v4 S H locs ls hf hI hl
    unfold fX2_fewestGiven_b63 at hf
    refine lv_iinc (v := (v4 + (1 : Int32))) (lv' := [(4, .int (v4 + (1 : Int32))), (0, .ref (ad 0)), (1, .long v1), (3, .int v3)]) hx hb dX2_fewestGiven_63 hl (k := 3) rfl rfl (by decide) rfl (fun ls hl => ?_)
    refine lv_goto (tgt := 6) hx hb dX2_fewestGiven_66 (by decide) ?_
    exact hk6 v1 v3 (v4 + (1 : Int32)) S _ _ _ hf hI (lv_sub hl [1, 2, 3, 0] rfl)
  have hb40 : ∀ (k6 : Int64 → Int32 → Int32 → XS → Option (Int32 × XS)) (hk6 : ∀ (v1 : Int64) (v3 : Int32) (v4 : Int32) (S : XS) (H : Heap) (locs : List Loc) (ls : Array Slot), k6 v1 v3 v4 S = some (r, S') → zI D A s H locs (wX cy ad S) → lv_has ls 6 [(0, .ref (ad 0)), (1, .long v1), (3, .int v3), (4, .int v4)] → W p l e { frames := 1, cells := 0, slots := 0, locals := 24 } s m args below meth c H locs 0 0 Q (F0 m 6 ls [])), ∀ (v1 : Int64) (v3 : Int32) (v4 : Int32) (u0 : Int32) (S : XS) (H : Heap) (locs : List Loc) (ls : Array Slot), fX2_fewestGiven_b40 k6 v1 v3 v4 u0 S = some (r, S') → zI D A s H locs (wX cy ad S) → lv_has ls 6 [(0, .ref (ad 0)), (1, .long v1), (3, .int v3), (4, .int v4)] → W p l e { frames := 1, cells := 0, slots := 0, locals := 24 } s m args below meth c H locs 0 0 Q (F0 m 40 ls [.int u0]) := by
    intro k6 hk6 v1 v3 v4 u0 S H locs ls hf hI hl
    unfold fX2_fewestGiven_b40 at hf
    refine lv_istore (lv' := [(5, .int u0), (0, .ref (ad 0)), (1, .long v1), (3, .int v3), (4, .int v4)]) hx hb dX2_fewestGiven_40 hl (by decide) rfl (fun ls hl => ?_)
    refine lv_iload hx hb dX2_fewestGiven_42 (lv_at hl 0 rfl) ?_
    refine lv_if_eq (tgt := 63) hx hb dX2_fewestGiven_44 (by decide) (fun c_44 => ?_) (fun c_44 => ?_)
    · replace hf := zIt c_44 hf
      exact hb63 k6 hk6 v1 v3 v4 S _ _ _ hf hI (lv_sub hl [1, 2, 3, 4] rfl)
    · replace hf := zIf c_44 hf
      refine lv_lload_n hx hb dX2_fewestGiven_47 rfl (lv_at hl 2 rfl) ?_
      refine lv_aload_n hx hb dX2_fewestGiven_48 rfl (lv_at hl 1 rfl) ?_
      refine lv_iload hx hb dX2_fewestGiven_49 (lv_at hl 4 rfl) ?_
      obtain ⟨r_51, S_51, hf_51, hf⟩ := zB2_s hf
      refine z_callV (w2 := (wX cy ad S_51)) C 1 (kX2_worldsOf l zq D cy ad v4 S S_51 r_51 hf_51) gX2_fewestGiven_X2_worldsOf rfl (by decide +kernel) ⟨by decide, by decide⟩ hI 0 rfl rfl rfl hl.1 rfl (Nat.le_of_ble_eq_true rfl) dX2_fewestGiven_51 ⟨by decide, by decide⟩ (st2 := [.long r_51, .long v1]) rfl (fun H locs hI => ?_)
      refine lv_land hx hb dX2_fewestGiven_54 ?_
      refine lv_lconst (v := 0) hx hb dX2_fewestGiven_55 (by decide) ?_
      refine W.lcmp hx hb dX2_fewestGiven_56 ?_
      refine lv_if_ne (tgt := 63) hx hb dX2_fewestGiven_57 (by decide) (fun c_57 => ?_) (fun c_57 => ?_)
      · replace hf := zIf c_57 hf
        exact hb63 k6 hk6 v1 v3 v4 S_51 _ _ _ hf hI (lv_sub hl [1, 2, 3, 4] rfl)
      · replace hf := zIt c_57 hf
        refine lv_iload hx hb dX2_fewestGiven_60 (lv_at hl 4 rfl) ?_
        refine lv_istore_n (lv' := [(3, .int v4), (5, .int u0), (0, .ref (ad 0)), (1, .long v1), (4, .int v4)]) hx hb dX2_fewestGiven_62 rfl hl (by decide) rfl (fun ls hl => ?_)
        exact hb63 k6 hk6 v1 v4 v4 S_51 _ _ _ hf hI (lv_sub hl [2, 3, 0, 4] rfl)
  have hb35 : ∀ (k6 : Int64 → Int32 → Int32 → XS → Option (Int32 × XS)) (hk6 : ∀ (v1 : Int64) (v3 : Int32) (v4 : Int32) (S : XS) (H : Heap) (locs : List Loc) (ls : Array Slot), k6 v1 v3 v4 S = some (r, S') → zI D A s H locs (wX cy ad S) → lv_has ls 6 [(0, .ref (ad 0)), (1, .long v1), (3, .int v3), (4, .int v4)] → W p l e { frames := 1, cells := 0, slots := 0, locals := 24 } s m args below meth c H locs 0 0 Q (F0 m 6 ls [])), ∀ (v1 : Int64) (v3 : Int32) (v4 : Int32) (S : XS) (H : Heap) (locs : List Loc) (ls : Array Slot), fX2_fewestGiven_b35 k6 v1 v3 v4 S = some (r, S') → zI D A s H locs (wX cy ad S) → lv_has ls 6 [(0, .ref (ad 0)), (1, .long v1), (3, .int v3), (4, .int v4)] → W p l e { frames := 1, cells := 0, slots := 0, locals := 24 } s m args below meth c H locs 0 0 Q (F0 m 35 ls []) := by
    intro k6 hk6 v1 v3 v4 S H locs ls hf hI hl
    unfold fX2_fewestGiven_b35 at hf
    refine lv_iconst (v := 1) hx hb dX2_fewestGiven_35 (by decide) ?_
    refine lv_goto (tgt := 40) hx hb dX2_fewestGiven_36 (by decide) ?_
    exact hb40 k6 hk6 v1 v3 v4 (1 : Int32) S _ _ _ hf hI (lv_sub hl [0, 1, 2, 3] rfl)
  have hb6 : ∀ (n : Nat), ∀ (v1 : Int64) (v3 : Int32) (v4 : Int32) (S : XS) (H : Heap) (locs : List Loc) (ls : Array Slot), fX2_fewestGiven_b6L n v1 v3 v4 S = some (r, S') → zI D A s H locs (wX cy ad S) → lv_has ls 6 [(0, .ref (ad 0)), (1, .long v1), (3, .int v3), (4, .int v4)] → W p l e { frames := 1, cells := 0, slots := 0, locals := 24 } s m args below meth c H locs 0 0 Q (F0 m 6 ls []) := by
    intro n
    induction n with
    | zero => intro v1 v3 v4 S H locs ls hf; cases (show (none : Option (Int32 × XS)) = some (r, S') from hf)
    | succ n ih =>
      intro v1 v3 v4 S H locs ls hf hI hl
      have hf : fX2_fewestGiven_b6 (fX2_fewestGiven_b6L n) v1 v3 v4 S = some (r, S') := hf
      unfold fX2_fewestGiven_b6 at hf
      refine lv_iload hx hb dX2_fewestGiven_6 (lv_at hl 3 rfl) ?_
      refine lv_iconst (v := 1) hx hb dX2_fewestGiven_8 (by decide) ?_
      refine lv_aload_n hx hb dX2_fewestGiven_9 rfl (lv_at hl 0 rfl) ?_
      refine va_get (D := D) (ci := 2) (v := .int (x_givenLines S)) (C := RX2) (T := TX2) (N := 13) hx hb hts hiX2 hown hK hI.1 0 rfl rfl 4 (by decide) (hts (.fieldLink RX2 27 "NoughtSums" "givenLines" "I") (by decide +kernel)) (fun _ h9 => h9) rfl dX2_fewestGiven_10 ?_
      refine lv_ishl hx hb dX2_fewestGiven_13 ?_
      refine lv_icmp_ge (tgt := 69) hx hb dX2_fewestGiven_14 (by decide) (fun c_14 => ?_) (fun c_14 => ?_)
      · replace hf := zIt c_14 hf
        refine lv_iload_n hx hb dX2_fewestGiven_69 rfl (lv_at hl 2 rfl) ?_
        obtain ⟨h1, h2⟩ := zP2 hf
        rw [hQ]
        exact z_iret C (by rw [h2]; exact hI) (by rw [h1]) dX2_fewestGiven_70
      · replace hf := zIf c_14 hf
        refine lv_iload_n hx hb dX2_fewestGiven_17 rfl (lv_at hl 2 rfl) ?_
        refine lv_bipush (v := -9) hx hb dX2_fewestGiven_18 (by decide) ?_
        refine lv_icmp_eq (tgt := 35) hx hb dX2_fewestGiven_20 (by decide) (fun c_20 => ?_) (fun c_20 => ?_)
        · replace hf := zIt c_20 hf
          exact hb35 (fX2_fewestGiven_b6L n) ih v1 v3 v4 S _ _ _ hf hI (lv_sub hl [0, 1, 2, 3] rfl)
        · replace hf := zIf c_20 hf
          refine lv_iload hx hb dX2_fewestGiven_23 (lv_at hl 3 rfl) ?_
          obtain ⟨r_25, hf_25, hf⟩ := zB1_s hf
          refine z_callS C 1 (kJ6_bitCount_0f7a4 l zq D v4 r_25 hf_25) gX2_fewestGiven_J6_bitCount_0f7a4 rfl (by decide +kernel) ⟨by decide, by decide⟩ hI rfl hl.1 rfl (Nat.le_of_ble_eq_true rfl) dX2_fewestGiven_25 ⟨by decide, by decide⟩ (st2 := [.int r_25]) rfl (fun H locs hI => ?_)
          refine lv_iload_n hx hb dX2_fewestGiven_28 rfl (lv_at hl 2 rfl) ?_
          obtain ⟨r_29, hf_29, hf⟩ := zB1_s hf
          refine z_callS C 1 (kJ6_bitCount_0f7a4 l zq D v3 r_29 hf_29) gX2_fewestGiven_J6_bitCount_0f7a4 rfl (by decide +kernel) ⟨by decide, by decide⟩ hI rfl hl.1 rfl (Nat.le_of_ble_eq_true rfl) dX2_fewestGiven_29 ⟨by decide, by decide⟩ (st2 := [.int r_29, .int r_25]) rfl (fun H locs hI => ?_)
          refine lv_icmp_ge (tgt := 39) hx hb dX2_fewestGiven_32 (by decide) (fun c_32 => ?_) (fun c_32 => ?_)
          · replace hf := zIt c_32 hf
            refine lv_iconst (v := 0) hx hb dX2_fewestGiven_39 (by decide) ?_
            exact hb40 (fX2_fewestGiven_b6L n) ih v1 v3 v4 (0 : Int32) S _ _ _ hf hI (lv_sub hl [0, 1, 2, 3] rfl)
          · replace hf := zIf c_32 hf
            exact hb35 (fX2_fewestGiven_b6L n) ih v1 v3 v4 S _ _ _ hf hI (lv_sub hl [0, 1, 2, 3] rfl)
  unfold fX2_fewestGiven at hf
  refine lv_bipush (v := -9) hx hb dX2_fewestGiven_0 (by decide) ?_
  refine lv_istore_n (lv' := [(3, .int (-9 : Int32)), (0, .ref (ad 0)), (1, .long a1)]) hx hb dX2_fewestGiven_2 rfl hl (by decide) rfl (fun ls hl => ?_)
  refine lv_iconst (v := 0) hx hb dX2_fewestGiven_3 (by decide) ?_
  refine lv_istore (lv' := [(4, .int (0 : Int32)), (3, .int (-9 : Int32)), (0, .ref (ad 0)), (1, .long a1)]) hx hb dX2_fewestGiven_4 hl (by decide) rfl (fun ls hl => ?_)
  exact hb6 zF a1 (-9 : Int32) (0 : Int32) S _ _ _ hf hI (lv_sub hl [2, 3, 1, 0] rfl)

def fX2_needed (a1 : Int32) (a2 : Int32) (S : XS) : Option (Int32 × XS) :=
(zB2 (fX2_isLine a1 S) (fun r_2 S_2 =>
(if r_2 = 0 then some ((-1 : Int32), S_2) else
(if a2 < 0 then some ((-1 : Int32), S_2) else
(if a2 ≤ (1 : Int32) then (zGI a1 32
((zB2 (fX2_fewestGiven ((x_lineValues S_2) a1.toNatClampNeg) S_2) (fun r_26 S_26 =>
(if r_26 = (-9 : Int32) then some ((-9 : Int32), S_26) else
(if a2 = 0 then (zB1 (fJ6_bitCount_0f7a4 r_26) (fun r_44 =>
some (r_44, S_26))) else
some (r_26, S_26))))))) else
some ((-1 : Int32), S_2))))))
set_option maxHeartbeats 4000000 in
set_option maxRecDepth 100000 in
theorem kX2_needed (l : Launch) (zq : Nat → Nat) (D : va_G) (cy : Nat → ClassId) (ad : Nat → Nat) (a1 : Int32) (a2 : Int32) (S S' : XS) (r : Int32) (hf : fX2_needed a1 a2 S = some (r, S')) : zMet l yX2_needed wsX2_needed 2 49 zq D (tX cy) (wX cy ad S) [.ref (ad 0), .int a1, .int a2] (some (.int r)) (wX cy ad S') := by
  refine zMet.of cX2_needed 4 (some .int) (by decide) rfl (Nat.le_of_ble_eq_true rfl) ?_
  intro p e s m args below meth c A ls C hl hI
  have hl : lv_has ls 4 [(0, .ref (ad 0)), (1, .int a1), (2, .int a2)] := hl
  have C : zC p s m args meth c cX2_needed 4 (some .int) RX2 wsX2_needed D (tX cy) zq A := C
  obtain ⟨hx, hb, hml, hown, hts, hret, hlk, hK, hX, hA⟩ := id C
  have hiX2 : ∀ w ∈ wsX20, w ∈ wsX2_needed := by decide +kernel
  obtain ⟨Q, hQ⟩ : ∃ Q, Q = MQ below (zQ D (tX cy) (wX cy ad S') (some (.int r)) A) args s 0 0 A := ⟨_, rfl⟩
  rw [← hQ]
  unfold fX2_needed at hf
  refine lv_aload_n hx hb dX2_needed_0 rfl (lv_at hl 0 rfl) ?_
  refine lv_iload_n hx hb dX2_needed_1 rfl (lv_at hl 1 rfl) ?_
  obtain ⟨r_2, S_2, hf_2, hf⟩ := zB2_s hf
  refine z_callV (w2 := (wX cy ad S_2)) C 1 (kX2_isLine l zq D cy ad a1 S S_2 r_2 hf_2) gX2_needed_X2_isLine rfl (by decide +kernel) ⟨by decide, by decide⟩ hI 0 rfl rfl rfl hl.1 rfl (Nat.le_of_ble_eq_true rfl) dX2_needed_2 ⟨by decide, by decide⟩ (st2 := [.int r_2]) rfl (fun H locs hI => ?_)
  refine lv_if_eq (tgt := 17) hx hb dX2_needed_5 (by decide) (fun c_5 => ?_) (fun c_5 => ?_)
  · replace hf := zIt c_5 hf
    refine lv_iconst (v := -1) hx hb dX2_needed_17 (by decide) ?_
    obtain ⟨h1, h2⟩ := zP2 hf
    rw [hQ]
    exact z_iret C (by rw [h2]; exact hI) (by rw [h1]) dX2_needed_18
  · replace hf := zIf c_5 hf
    refine lv_iload_n hx hb dX2_needed_8 rfl (lv_at hl 2 rfl) ?_
    refine lv_if_lt (tgt := 17) hx hb dX2_needed_9 (by decide) (fun c_9 => ?_) (fun c_9 => ?_)
    · replace hf := zIt c_9 hf
      refine lv_iconst (v := -1) hx hb dX2_needed_17 (by decide) ?_
      obtain ⟨h1, h2⟩ := zP2 hf
      rw [hQ]
      exact z_iret C (by rw [h2]; exact hI) (by rw [h1]) dX2_needed_18
    · replace hf := zIf c_9 hf
      refine lv_iload_n hx hb dX2_needed_12 rfl (lv_at hl 2 rfl) ?_
      refine lv_iconst (v := 1) hx hb dX2_needed_13 (by decide) ?_
      refine lv_icmp_le (tgt := 19) hx hb dX2_needed_14 (by decide) (fun c_14 => ?_) (fun c_14 => ?_)
      · replace hf := zIt c_14 hf
        refine lv_aload_n hx hb dX2_needed_19 rfl (lv_at hl 0 rfl) ?_
        refine lv_aload_n hx hb dX2_needed_20 rfl (lv_at hl 0 rfl) ?_
        refine va_get (D := D) (ci := 2) (v := .ref (ad 8)) (C := RX2) (T := TX2) (N := 13) hx hb hts hiX2 hown hK hI.1 0 rfl rfl 2 (by decide) (hts (.fieldLink RX2 20 "NoughtSums" "lineValues" "[J") (by decide +kernel)) (fun _ h9 => h9) rfl dX2_needed_21 ?_
        refine lv_iload_n hx hb dX2_needed_24 rfl (lv_at hl 1 rfl) ?_
        obtain ⟨g_25, hf⟩ := zGI_s hf
        refine va_lald (f := (x_lineValues S_2)) hx hb hK hI.1 8 6 rfl rfl g_25 dX2_needed_25 ?_
        obtain ⟨r_26, S_26, hf_26, hf⟩ := zB2_s hf
        refine z_callV (w2 := (wX cy ad S_26)) C 1 (kX2_fewestGiven l zq D cy ad ((x_lineValues S_2) a1.toNatClampNeg) S_2 S_26 r_26 hf_26) gX2_needed_X2_fewestGiven rfl (by decide +kernel) ⟨by decide, by decide⟩ hI 0 rfl rfl rfl hl.1 rfl (Nat.le_of_ble_eq_true rfl) dX2_needed_26 ⟨by decide, by decide⟩ (st2 := [.int r_26]) rfl (fun H locs hI => ?_)
        refine lv_istore_n (lv' := [(3, .int r_26), (0, .ref (ad 0)), (1, .int a1), (2, .int a2)]) hx hb dX2_needed_29 rfl hl (by decide) rfl (fun ls hl => ?_)
        refine lv_iload_n hx hb dX2_needed_30 rfl (lv_at hl 0 rfl) ?_
        refine lv_bipush (v := -9) hx hb dX2_needed_31 (by decide) ?_
        refine lv_icmp_ne (tgt := 39) hx hb dX2_needed_33 (by decide) (fun c_33 => ?_) (fun c_33 => ?_)
        · replace hf := zIf c_33 hf
          refine lv_iload_n hx hb dX2_needed_39 rfl (lv_at hl 3 rfl) ?_
          refine lv_if_ne (tgt := 50) hx hb dX2_needed_40 (by decide) (fun c_40 => ?_) (fun c_40 => ?_)
          · replace hf := zIf c_40 hf
            refine lv_iload_n hx hb dX2_needed_50 rfl (lv_at hl 0 rfl) ?_
            obtain ⟨h1, h2⟩ := zP2 hf
            rw [hQ]
            exact z_iret C (by rw [h2]; exact hI) (by rw [h1]) dX2_needed_51
          · replace hf := zIt c_40 hf
            refine lv_iload_n hx hb dX2_needed_43 rfl (lv_at hl 0 rfl) ?_
            obtain ⟨r_44, hf_44, hf⟩ := zB1_s hf
            refine z_callS C 1 (kJ6_bitCount_0f7a4 l zq D r_26 r_44 hf_44) gX2_needed_J6_bitCount_0f7a4 rfl (by decide +kernel) ⟨by decide, by decide⟩ hI rfl hl.1 rfl (Nat.le_of_ble_eq_true rfl) dX2_needed_44 ⟨by decide, by decide⟩ (st2 := [.int r_44]) rfl (fun H locs hI => ?_)
            refine lv_goto (tgt := 51) hx hb dX2_needed_47 (by decide) ?_
            obtain ⟨h1, h2⟩ := zP2 hf
            rw [hQ]
            exact z_iret C (by rw [h2]; exact hI) (by rw [h1]) dX2_needed_51
        · replace hf := zIt c_33 hf
          refine lv_bipush (v := -9) hx hb dX2_needed_36 (by decide) ?_
          obtain ⟨h1, h2⟩ := zP2 hf
          rw [hQ]
          exact z_iret C (by rw [h2]; exact hI) (by rw [h1]) dX2_needed_38
      · replace hf := zIf c_14 hf
        refine lv_iconst (v := -1) hx hb dX2_needed_17 (by decide) ?_
        obtain ⟨h1, h2⟩ := zP2 hf
        rw [hQ]
        exact z_iret C (by rw [h2]; exact hI) (by rw [h1]) dX2_needed_18

def fX2_sumWeight (a1 : Int32) (S : XS) : Option (Int32 × XS) :=
(zL (x_traced_u S ((x_traced S) + (1 : Int64))) (fun S_7 =>
(zB2 (fX2_sumOf a1 S_7) (fun r_12 S_12 =>
(zB1 (fJ13_bitCount_95d88 r_12) (fun r_15 =>
some (r_15, S_12)))))))
set_option maxHeartbeats 4000000 in
set_option maxRecDepth 100000 in
theorem kX2_sumWeight (l : Launch) (zq : Nat → Nat) (D : va_G) (cy : Nat → ClassId) (ad : Nat → Nat) (a1 : Int32) (S S' : XS) (r : Int32) (hf : fX2_sumWeight a1 S = some (r, S')) : zMet l yX2_sumWeight wsX2_sumWeight 2 42 zq D (tX cy) (wX cy ad S) [.ref (ad 0), .int a1] (some (.int r)) (wX cy ad S') := by
  refine zMet.of cX2_sumWeight 2 (some .int) (by decide) rfl (Nat.le_of_ble_eq_true rfl) ?_
  intro p e s m args below meth c A ls C hl hI
  have hl : lv_has ls 2 [(0, .ref (ad 0)), (1, .int a1)] := hl
  have C : zC p s m args meth c cX2_sumWeight 2 (some .int) RX2 wsX2_sumWeight D (tX cy) zq A := C
  obtain ⟨hx, hb, hml, hown, hts, hret, hlk, hK, hX, hA⟩ := id C
  have hiX2 : ∀ w ∈ wsX20, w ∈ wsX2_sumWeight := by decide +kernel
  obtain ⟨Q, hQ⟩ : ∃ Q, Q = MQ below (zQ D (tX cy) (wX cy ad S') (some (.int r)) A) args s 0 0 A := ⟨_, rfl⟩
  rw [← hQ]
  unfold fX2_sumWeight at hf
  refine lv_aload_n hx hb dX2_sumWeight_0 rfl (lv_at hl 0 rfl) ?_
  refine lv_dup hx hb dX2_sumWeight_1 rfl ?_
  refine va_get (D := D) (ci := 2) (v := .long (x_traced S)) (C := RX2) (T := TX2) (N := 13) hx hb hts hiX2 hown hK hI.1 0 rfl rfl 8 (by decide) (hts (.fieldLink RX2 42 "NoughtSums" "traced" "J") (by decide +kernel)) (fun _ h9 => h9) rfl dX2_sumWeight_2 ?_
  refine lv_lconst (v := 1) hx hb dX2_sumWeight_5 (by decide) ?_
  refine lv_ladd hx hb dX2_sumWeight_6 ?_
  obtain ⟨S_7, eS_7, hf⟩ := zL_e hf
  refine z_put (D := D) (ci := 2) (v := .long ((x_traced S) + (1 : Int64))) (ty := .long) (C := RX2) (T := TX2) (N := 13) (w2 := (wX cy ad S_7)) hx hb hts hiX2 tyX2 tyX2_ok nmX2 hown hK hI 0 rfl rfl 8 (by decide) (hts (.fieldLink RX2 42 "NoughtSums" "traced" "J") (by decide +kernel)) (fun _ h9 => h9) rfl (by decide +kernel) rfl rfl (Nat.le_of_ble_eq_true rfl) dX2_sumWeight_7 (by rw [eS_7]; rfl) (fun H locs hI => ?_)
  refine lv_aload_n hx hb dX2_sumWeight_10 rfl (lv_at hl 0 rfl) ?_
  refine lv_iload_n hx hb dX2_sumWeight_11 rfl (lv_at hl 1 rfl) ?_
  obtain ⟨r_12, S_12, hf_12, hf⟩ := zB2_s hf
  refine z_callV (w2 := (wX cy ad S_12)) C 1 (kX2_sumOf l zq D cy ad a1 S_7 S_12 r_12 hf_12) gX2_sumWeight_X2_sumOf rfl (by decide +kernel) ⟨by decide, by decide⟩ hI 0 rfl rfl rfl hl.1 rfl (Nat.le_of_ble_eq_true rfl) dX2_sumWeight_12 ⟨by decide, by decide⟩ (st2 := [.long r_12]) rfl (fun H locs hI => ?_)
  obtain ⟨r_15, hf_15, hf⟩ := zB1_s hf
  refine z_callS C 1 (kJ13_bitCount_95d88 l zq D r_12 r_15 hf_15) gX2_sumWeight_J13_bitCount_95d88 rfl (by decide +kernel) ⟨by decide, by decide⟩ hI rfl hl.1 rfl (Nat.le_of_ble_eq_true rfl) dX2_sumWeight_15 ⟨by decide, by decide⟩ (st2 := [.int r_15]) rfl (fun H locs hI => ?_)
  obtain ⟨h1, h2⟩ := zP2 hf
  rw [hQ]
  exact z_iret C (by rw [h2]; exact hI) (by rw [h1]) dX2_sumWeight_18

def fX2_addedWeight (a1 : Int32) (S : XS) : Option (Int32 × XS) :=
(zL (x_traced_u S ((x_traced S) + (10 : Int64))) (fun S_9 =>
(zB2 (fX2_sumWeight a1 S_9) (fun r_14 S_14 =>
(zB2 (fX2_sumOf a1 S_14) (fun r_19 S_19 =>
(zB1 (fX2_valuesOf r_19) (fun r_22 =>
(zB1 (fJ13_bitCount_95d88 r_22) (fun r_25 =>
some ((r_14 + r_25), S_19)))))))))))
set_option maxHeartbeats 4000000 in
set_option maxRecDepth 100000 in
theorem kX2_addedWeight (l : Launch) (zq : Nat → Nat) (D : va_G) (cy : Nat → ClassId) (ad : Nat → Nat) (a1 : Int32) (S S' : XS) (r : Int32) (hf : fX2_addedWeight a1 S = some (r, S')) : zMet l yX2_addedWeight wsX2_addedWeight 3 63 zq D (tX cy) (wX cy ad S) [.ref (ad 0), .int a1] (some (.int r)) (wX cy ad S') := by
  refine zMet.of cX2_addedWeight 2 (some .int) (by decide) rfl (Nat.le_of_ble_eq_true rfl) ?_
  intro p e s m args below meth c A ls C hl hI
  have hl : lv_has ls 2 [(0, .ref (ad 0)), (1, .int a1)] := hl
  have C : zC p s m args meth c cX2_addedWeight 2 (some .int) RX2 wsX2_addedWeight D (tX cy) zq A := C
  obtain ⟨hx, hb, hml, hown, hts, hret, hlk, hK, hX, hA⟩ := id C
  have hiX2 : ∀ w ∈ wsX20, w ∈ wsX2_addedWeight := by decide +kernel
  obtain ⟨Q, hQ⟩ : ∃ Q, Q = MQ below (zQ D (tX cy) (wX cy ad S') (some (.int r)) A) args s 0 0 A := ⟨_, rfl⟩
  rw [← hQ]
  unfold fX2_addedWeight at hf
  refine lv_aload_n hx hb dX2_addedWeight_0 rfl (lv_at hl 0 rfl) ?_
  refine lv_dup hx hb dX2_addedWeight_1 rfl ?_
  refine va_get (D := D) (ci := 2) (v := .long (x_traced S)) (C := RX2) (T := TX2) (N := 13) hx hb hts hiX2 hown hK hI.1 0 rfl rfl 8 (by decide) (hts (.fieldLink RX2 42 "NoughtSums" "traced" "J") (by decide +kernel)) (fun _ h9 => h9) rfl dX2_addedWeight_2 ?_
  refine lv_ldc2 hx hb hown (hts (.constantLong RX2 224 (10)) (by decide +kernel)) dX2_addedWeight_5 ?_
  refine lv_ladd hx hb dX2_addedWeight_8 ?_
  obtain ⟨S_9, eS_9, hf⟩ := zL_e hf
  refine z_put (D := D) (ci := 2) (v := .long ((x_traced S) + (10 : Int64))) (ty := .long) (C := RX2) (T := TX2) (N := 13) (w2 := (wX cy ad S_9)) hx hb hts hiX2 tyX2 tyX2_ok nmX2 hown hK hI 0 rfl rfl 8 (by decide) (hts (.fieldLink RX2 42 "NoughtSums" "traced" "J") (by decide +kernel)) (fun _ h9 => h9) rfl (by decide +kernel) rfl rfl (Nat.le_of_ble_eq_true rfl) dX2_addedWeight_9 (by rw [eS_9]; rfl) (fun H locs hI => ?_)
  refine lv_aload_n hx hb dX2_addedWeight_12 rfl (lv_at hl 0 rfl) ?_
  refine lv_iload_n hx hb dX2_addedWeight_13 rfl (lv_at hl 1 rfl) ?_
  obtain ⟨r_14, S_14, hf_14, hf⟩ := zB2_s hf
  refine z_callV (w2 := (wX cy ad S_14)) C 1 (kX2_sumWeight l zq D cy ad a1 S_9 S_14 r_14 hf_14) gX2_addedWeight_X2_sumWeight rfl (by decide +kernel) ⟨by decide, by decide⟩ hI 0 rfl rfl rfl hl.1 rfl (Nat.le_of_ble_eq_true rfl) dX2_addedWeight_14 ⟨by decide, by decide⟩ (st2 := [.int r_14]) rfl (fun H locs hI => ?_)
  refine lv_aload_n hx hb dX2_addedWeight_17 rfl (lv_at hl 0 rfl) ?_
  refine lv_iload_n hx hb dX2_addedWeight_18 rfl (lv_at hl 1 rfl) ?_
  obtain ⟨r_19, S_19, hf_19, hf⟩ := zB2_s hf
  refine z_callV (w2 := (wX cy ad S_19)) C 1 (kX2_sumOf l zq D cy ad a1 S_14 S_19 r_19 hf_19) gX2_addedWeight_X2_sumOf rfl (by decide +kernel) ⟨by decide, by decide⟩ hI 0 rfl rfl rfl hl.1 rfl (Nat.le_of_ble_eq_true rfl) dX2_addedWeight_19 ⟨by decide, by decide⟩ (st2 := [.long r_19, .int r_14]) rfl (fun H locs hI => ?_)
  obtain ⟨r_22, hf_22, hf⟩ := zB1_s hf
  refine z_callS C 1 (kX2_valuesOf l zq D r_19 r_22 hf_22) gX2_addedWeight_X2_valuesOf rfl (by decide +kernel) ⟨by decide, by decide⟩ hI rfl hl.1 rfl (Nat.le_of_ble_eq_true rfl) dX2_addedWeight_22 ⟨by decide, by decide⟩ (st2 := [.long r_22, .int r_14]) rfl (fun H locs hI => ?_)
  obtain ⟨r_25, hf_25, hf⟩ := zB1_s hf
  refine z_callS C 1 (kJ13_bitCount_95d88 l zq D r_22 r_25 hf_25) gX2_addedWeight_J13_bitCount_95d88 rfl (by decide +kernel) ⟨by decide, by decide⟩ hI rfl hl.1 rfl (Nat.le_of_ble_eq_true rfl) dX2_addedWeight_25 ⟨by decide, by decide⟩ (st2 := [.int r_25, .int r_14]) rfl (fun H locs hI => ?_)
  refine lv_iadd hx hb dX2_addedWeight_28 ?_
  obtain ⟨h1, h2⟩ := zP2 hf
  rw [hQ]
  exact z_iret C (by rw [h2]; exact hI) (by rw [h1]) dX2_addedWeight_29

def fX2_raisedWeight (a1 : Int32) (S : XS) : Option (Int32 × XS) :=
(zL (x_traced_u S ((x_traced S) + (100 : Int64))) (fun S_9 =>
(zB2 (fX2_sumWeight a1 S_9) (fun r_14 S_14 =>
(zB2 (fX2_sumOf a1 S_14) (fun r_21 S_21 =>
(zB1 (fX2_degreeOf r_21) (fun r_24 =>
some ((r_14 + ((2 : Int32) * (if (0 : Int32) < r_24 then r_24 else (0 : Int32)))), S_21)))))))))
set_option maxHeartbeats 4000000 in
set_option maxRecDepth 100000 in
theorem kX2_raisedWeight (l : Launch) (zq : Nat → Nat) (D : va_G) (cy : Nat → ClassId) (ad : Nat → Nat) (a1 : Int32) (S S' : XS) (r : Int32) (hf : fX2_raisedWeight a1 S = some (r, S')) : zMet l yX2_raisedWeight wsX2_raisedWeight 3 66 zq D (tX cy) (wX cy ad S) [.ref (ad 0), .int a1] (some (.int r)) (wX cy ad S') := by
  refine zMet.of cX2_raisedWeight 2 (some .int) (by decide) rfl (Nat.le_of_ble_eq_true rfl) ?_
  intro p e s m args below meth c A ls C hl hI
  have hl : lv_has ls 2 [(0, .ref (ad 0)), (1, .int a1)] := hl
  have C : zC p s m args meth c cX2_raisedWeight 2 (some .int) RX2 wsX2_raisedWeight D (tX cy) zq A := C
  obtain ⟨hx, hb, hml, hown, hts, hret, hlk, hK, hX, hA⟩ := id C
  have hiX2 : ∀ w ∈ wsX20, w ∈ wsX2_raisedWeight := by decide +kernel
  obtain ⟨Q, hQ⟩ : ∃ Q, Q = MQ below (zQ D (tX cy) (wX cy ad S') (some (.int r)) A) args s 0 0 A := ⟨_, rfl⟩
  rw [← hQ]
  unfold fX2_raisedWeight at hf
  refine lv_aload_n hx hb dX2_raisedWeight_0 rfl (lv_at hl 0 rfl) ?_
  refine lv_dup hx hb dX2_raisedWeight_1 rfl ?_
  refine va_get (D := D) (ci := 2) (v := .long (x_traced S)) (C := RX2) (T := TX2) (N := 13) hx hb hts hiX2 hown hK hI.1 0 rfl rfl 8 (by decide) (hts (.fieldLink RX2 42 "NoughtSums" "traced" "J") (by decide +kernel)) (fun _ h9 => h9) rfl dX2_raisedWeight_2 ?_
  refine lv_ldc2 hx hb hown (hts (.constantLong RX2 226 (100)) (by decide +kernel)) dX2_raisedWeight_5 ?_
  refine lv_ladd hx hb dX2_raisedWeight_8 ?_
  obtain ⟨S_9, eS_9, hf⟩ := zL_e hf
  refine z_put (D := D) (ci := 2) (v := .long ((x_traced S) + (100 : Int64))) (ty := .long) (C := RX2) (T := TX2) (N := 13) (w2 := (wX cy ad S_9)) hx hb hts hiX2 tyX2 tyX2_ok nmX2 hown hK hI 0 rfl rfl 8 (by decide) (hts (.fieldLink RX2 42 "NoughtSums" "traced" "J") (by decide +kernel)) (fun _ h9 => h9) rfl (by decide +kernel) rfl rfl (Nat.le_of_ble_eq_true rfl) dX2_raisedWeight_9 (by rw [eS_9]; rfl) (fun H locs hI => ?_)
  refine lv_aload_n hx hb dX2_raisedWeight_12 rfl (lv_at hl 0 rfl) ?_
  refine lv_iload_n hx hb dX2_raisedWeight_13 rfl (lv_at hl 1 rfl) ?_
  obtain ⟨r_14, S_14, hf_14, hf⟩ := zB2_s hf
  refine z_callV (w2 := (wX cy ad S_14)) C 1 (kX2_sumWeight l zq D cy ad a1 S_9 S_14 r_14 hf_14) gX2_raisedWeight_X2_sumWeight rfl (by decide +kernel) ⟨by decide, by decide⟩ hI 0 rfl rfl rfl hl.1 rfl (Nat.le_of_ble_eq_true rfl) dX2_raisedWeight_14 ⟨by decide, by decide⟩ (st2 := [.int r_14]) rfl (fun H locs hI => ?_)
  refine lv_iconst (v := 2) hx hb dX2_raisedWeight_17 (by decide) ?_
  refine lv_iconst (v := 0) hx hb dX2_raisedWeight_18 (by decide) ?_
  refine lv_aload_n hx hb dX2_raisedWeight_19 rfl (lv_at hl 0 rfl) ?_
  refine lv_iload_n hx hb dX2_raisedWeight_20 rfl (lv_at hl 1 rfl) ?_
  obtain ⟨r_21, S_21, hf_21, hf⟩ := zB2_s hf
  refine z_callV (w2 := (wX cy ad S_21)) C 1 (kX2_sumOf l zq D cy ad a1 S_14 S_21 r_21 hf_21) gX2_raisedWeight_X2_sumOf rfl (by decide +kernel) ⟨by decide, by decide⟩ hI 0 rfl rfl rfl hl.1 rfl (Nat.le_of_ble_eq_true rfl) dX2_raisedWeight_21 ⟨by decide, by decide⟩ (st2 := [.long r_21, .int (0 : Int32), .int (2 : Int32), .int r_14]) rfl (fun H locs hI => ?_)
  obtain ⟨r_24, hf_24, hf⟩ := zB1_s hf
  refine z_callS C 1 (kX2_degreeOf l zq D r_21 r_24 hf_24) gX2_raisedWeight_X2_degreeOf rfl (by decide +kernel) ⟨by decide, by decide⟩ hI rfl hl.1 rfl (Nat.le_of_ble_eq_true rfl) dX2_raisedWeight_24 ⟨by decide, by decide⟩ (st2 := [.int r_24, .int (0 : Int32), .int (2 : Int32), .int r_14]) rfl (fun H locs hI => ?_)
  refine va_mmax hx hb (hml.trans hl.1.symm) hown (hts (.methodLink RX2 215 Lib.Math.max.name) (by decide +kernel)) (hts (.static Lib.Math.max.name) (by decide +kernel)) (hts (.initialized "java/lang/Math") (by decide +kernel)) (hts (.code Lib.Math.max.name Lib.Math.max.code 2 (some .int)) (by decide +kernel)) (by decide) (Nat.le_of_ble_eq_true rfl) (by decide) (by decide) dX2_raisedWeight_27 ?_
  refine lv_imul hx hb dX2_raisedWeight_30 ?_
  refine lv_iadd hx hb dX2_raisedWeight_31 ?_
  obtain ⟨h1, h2⟩ := zP2 hf
  rw [hQ]
  exact z_iret C (by rw [h2]; exact hI) (by rw [h1]) dX2_raisedWeight_32

def fX2_provedWeight (a1 : Int32) (S : XS) : Option (Int32 × XS) :=
(zL (x_traced_u S ((x_traced S) + (1000 : Int64))) (fun S_9 =>
(zB2 (fX2_addedWeight a1 S_9) (fun r_15 S_15 =>
(zB2 (fX2_sumOf a1 S_15) (fun r_22 S_22 =>
(zB2 (fX2_leftOf r_22 S_22) (fun r_25 S_25 =>
(zB1 (fJ13_bitCount_95d88 r_25) (fun r_28 =>
some ((((2 : Int32) * r_15) - r_28), S_25)))))))))))
set_option maxHeartbeats 4000000 in
set_option maxRecDepth 100000 in
theorem kX2_provedWeight (l : Launch) (zq : Nat → Nat) (D : va_G) (cy : Nat → ClassId) (ad : Nat → Nat) (a1 : Int32) (S S' : XS) (r : Int32) (hf : fX2_provedWeight a1 S = some (r, S')) : zMet l yX2_provedWeight wsX2_provedWeight 5 121 zq D (tX cy) (wX cy ad S) [.ref (ad 0), .int a1] (some (.int r)) (wX cy ad S') := by
  refine zMet.of cX2_provedWeight 2 (some .int) (by decide) rfl (Nat.le_of_ble_eq_true rfl) ?_
  intro p e s m args below meth c A ls C hl hI
  have hl : lv_has ls 2 [(0, .ref (ad 0)), (1, .int a1)] := hl
  have C : zC p s m args meth c cX2_provedWeight 2 (some .int) RX2 wsX2_provedWeight D (tX cy) zq A := C
  obtain ⟨hx, hb, hml, hown, hts, hret, hlk, hK, hX, hA⟩ := id C
  have hiX2 : ∀ w ∈ wsX20, w ∈ wsX2_provedWeight := by decide +kernel
  obtain ⟨Q, hQ⟩ : ∃ Q, Q = MQ below (zQ D (tX cy) (wX cy ad S') (some (.int r)) A) args s 0 0 A := ⟨_, rfl⟩
  rw [← hQ]
  unfold fX2_provedWeight at hf
  refine lv_aload_n hx hb dX2_provedWeight_0 rfl (lv_at hl 0 rfl) ?_
  refine lv_dup hx hb dX2_provedWeight_1 rfl ?_
  refine va_get (D := D) (ci := 2) (v := .long (x_traced S)) (C := RX2) (T := TX2) (N := 13) hx hb hts hiX2 hown hK hI.1 0 rfl rfl 8 (by decide) (hts (.fieldLink RX2 42 "NoughtSums" "traced" "J") (by decide +kernel)) (fun _ h9 => h9) rfl dX2_provedWeight_2 ?_
  refine lv_ldc2 hx hb hown (hts (.constantLong RX2 228 (1000)) (by decide +kernel)) dX2_provedWeight_5 ?_
  refine lv_ladd hx hb dX2_provedWeight_8 ?_
  obtain ⟨S_9, eS_9, hf⟩ := zL_e hf
  refine z_put (D := D) (ci := 2) (v := .long ((x_traced S) + (1000 : Int64))) (ty := .long) (C := RX2) (T := TX2) (N := 13) (w2 := (wX cy ad S_9)) hx hb hts hiX2 tyX2 tyX2_ok nmX2 hown hK hI 0 rfl rfl 8 (by decide) (hts (.fieldLink RX2 42 "NoughtSums" "traced" "J") (by decide +kernel)) (fun _ h9 => h9) rfl (by decide +kernel) rfl rfl (Nat.le_of_ble_eq_true rfl) dX2_provedWeight_9 (by rw [eS_9]; rfl) (fun H locs hI => ?_)
  refine lv_iconst (v := 2) hx hb dX2_provedWeight_12 (by decide) ?_
  refine lv_aload_n hx hb dX2_provedWeight_13 rfl (lv_at hl 0 rfl) ?_
  refine lv_iload_n hx hb dX2_provedWeight_14 rfl (lv_at hl 1 rfl) ?_
  obtain ⟨r_15, S_15, hf_15, hf⟩ := zB2_s hf
  refine z_callV (w2 := (wX cy ad S_15)) C 1 (kX2_addedWeight l zq D cy ad a1 S_9 S_15 r_15 hf_15) gX2_provedWeight_X2_addedWeight rfl (by decide +kernel) ⟨by decide, by decide⟩ hI 0 rfl rfl rfl hl.1 rfl (Nat.le_of_ble_eq_true rfl) dX2_provedWeight_15 ⟨by decide, by decide⟩ (st2 := [.int r_15, .int (2 : Int32)]) rfl (fun H locs hI => ?_)
  refine lv_imul hx hb dX2_provedWeight_18 ?_
  refine lv_aload_n hx hb dX2_provedWeight_19 rfl (lv_at hl 0 rfl) ?_
  refine lv_aload_n hx hb dX2_provedWeight_20 rfl (lv_at hl 0 rfl) ?_
  refine lv_iload_n hx hb dX2_provedWeight_21 rfl (lv_at hl 1 rfl) ?_
  obtain ⟨r_22, S_22, hf_22, hf⟩ := zB2_s hf
  refine z_callV (w2 := (wX cy ad S_22)) C 1 (kX2_sumOf l zq D cy ad a1 S_15 S_22 r_22 hf_22) gX2_provedWeight_X2_sumOf rfl (by decide +kernel) ⟨by decide, by decide⟩ hI 0 rfl rfl rfl hl.1 rfl (Nat.le_of_ble_eq_true rfl) dX2_provedWeight_22 ⟨by decide, by decide⟩ (st2 := [.long r_22, .ref (ad 0), .int ((2 : Int32) * r_15)]) rfl (fun H locs hI => ?_)
  obtain ⟨r_25, S_25, hf_25, hf⟩ := zB2_s hf
  refine z_callV (w2 := (wX cy ad S_25)) C 1 (kX2_leftOf l zq D cy ad r_22 S_22 S_25 r_25 hf_25) gX2_provedWeight_X2_leftOf rfl (by decide +kernel) ⟨by decide, by decide⟩ hI 0 rfl rfl rfl hl.1 rfl (Nat.le_of_ble_eq_true rfl) dX2_provedWeight_25 ⟨by decide, by decide⟩ (st2 := [.long r_25, .int ((2 : Int32) * r_15)]) rfl (fun H locs hI => ?_)
  obtain ⟨r_28, hf_28, hf⟩ := zB1_s hf
  refine z_callS C 1 (kJ13_bitCount_95d88 l zq D r_25 r_28 hf_28) gX2_provedWeight_J13_bitCount_95d88 rfl (by decide +kernel) ⟨by decide, by decide⟩ hI rfl hl.1 rfl (Nat.le_of_ble_eq_true rfl) dX2_provedWeight_28 ⟨by decide, by decide⟩ (st2 := [.int r_28, .int ((2 : Int32) * r_15)]) rfl (fun H locs hI => ?_)
  refine lv_isub hx hb dX2_provedWeight_31 ?_
  obtain ⟨h1, h2⟩ := zP2 hf
  rw [hQ]
  exact z_iret C (by rw [h2]; exact hI) (by rw [h1]) dX2_provedWeight_32

def fX2_weight (a1 : Int32) (a2 : Int32) (S : XS) : Option (Int32 × XS) :=
(zB2 (fX2_isLine a2 S) (fun r_2 S_2 =>
(if r_2 = 0 then some ((-100 : Int32), S_2) else
(if a1 = 0 then (zB2 (fX2_sumWeight a2 S_2) (fun r_46 S_46 =>
some (r_46, S_46))) else
(if a1 = 1 then (zB2 (fX2_addedWeight a2 S_2) (fun r_52 S_52 =>
some (r_52, S_52))) else
(if a1 = 2 then (zB2 (fX2_raisedWeight a2 S_2) (fun r_58 S_58 =>
some (r_58, S_58))) else
(if a1 = 3 then (zB2 (fX2_provedWeight a2 S_2) (fun r_64 S_64 =>
some (r_64, S_64))) else
some ((-100 : Int32), S_2))))))))
set_option maxHeartbeats 4000000 in
set_option maxRecDepth 100000 in
theorem kX2_weight (l : Launch) (zq : Nat → Nat) (D : va_G) (cy : Nat → ClassId) (ad : Nat → Nat) (a1 : Int32) (a2 : Int32) (S S' : XS) (r : Int32) (hf : fX2_weight a1 a2 S = some (r, S')) : zMet l yX2_weight wsX2_weight 6 142 zq D (tX cy) (wX cy ad S) [.ref (ad 0), .int a1, .int a2] (some (.int r)) (wX cy ad S') := by
  refine zMet.of cX2_weight 3 (some .int) (by decide) rfl (Nat.le_of_ble_eq_true rfl) ?_
  intro p e s m args below meth c A ls C hl hI
  have hl : lv_has ls 3 [(0, .ref (ad 0)), (1, .int a1), (2, .int a2)] := hl
  have C : zC p s m args meth c cX2_weight 3 (some .int) RX2 wsX2_weight D (tX cy) zq A := C
  obtain ⟨hx, hb, hml, hown, hts, hret, hlk, hK, hX, hA⟩ := id C
  obtain ⟨Q, hQ⟩ : ∃ Q, Q = MQ below (zQ D (tX cy) (wX cy ad S') (some (.int r)) A) args s 0 0 A := ⟨_, rfl⟩
  rw [← hQ]
  unfold fX2_weight at hf
  refine lv_aload_n hx hb dX2_weight_0 rfl (lv_at hl 0 rfl) ?_
  refine lv_iload_n hx hb dX2_weight_1 rfl (lv_at hl 2 rfl) ?_
  obtain ⟨r_2, S_2, hf_2, hf⟩ := zB2_s hf
  refine z_callV (w2 := (wX cy ad S_2)) C 1 (kX2_isLine l zq D cy ad a2 S S_2 r_2 hf_2) gX2_weight_X2_isLine rfl (by decide +kernel) ⟨by decide, by decide⟩ hI 0 rfl rfl rfl hl.1 rfl (Nat.le_of_ble_eq_true rfl) dX2_weight_2 ⟨by decide, by decide⟩ (st2 := [.int r_2]) rfl (fun H locs hI => ?_)
  refine lv_if_ne (tgt := 11) hx hb dX2_weight_5 (by decide) (fun c_5 => ?_) (fun c_5 => ?_)
  · replace hf := zIf c_5 hf
    refine lv_iload_n hx hb dX2_weight_11 rfl (lv_at hl 1 rfl) ?_
    by_cases c_12_0 : a1 = 0
    · replace hf := zIt c_12_0 hf
      refine lv_tableIn (tgt := 44) (off := 32) hx hb dX2_weight_12 (by rw [c_12_0]; decide) (by rw [c_12_0]; decide) (by rw [c_12_0]; rfl) (by decide) ?_
      refine lv_aload_n hx hb dX2_weight_44 rfl (lv_at hl 0 rfl) ?_
      refine lv_iload_n hx hb dX2_weight_45 rfl (lv_at hl 2 rfl) ?_
      obtain ⟨r_46, S_46, hf_46, hf⟩ := zB2_s hf
      refine z_callV (w2 := (wX cy ad S_46)) C 1 (kX2_sumWeight l zq D cy ad a2 S_2 S_46 r_46 hf_46) gX2_weight_X2_sumWeight rfl (by decide +kernel) ⟨by decide, by decide⟩ hI 0 rfl rfl rfl hl.1 rfl (Nat.le_of_ble_eq_true rfl) dX2_weight_46 ⟨by decide, by decide⟩ (st2 := [.int r_46]) rfl (fun H locs hI => ?_)
      obtain ⟨h1, h2⟩ := zP2 hf
      rw [hQ]
      exact z_iret C (by rw [h2]; exact hI) (by rw [h1]) dX2_weight_49
    replace hf := zIf c_12_0 hf
    by_cases c_12_1 : a1 = 1
    · replace hf := zIt c_12_1 hf
      refine lv_tableIn (tgt := 50) (off := 38) hx hb dX2_weight_12 (by rw [c_12_1]; decide) (by rw [c_12_1]; decide) (by rw [c_12_1]; rfl) (by decide) ?_
      refine lv_aload_n hx hb dX2_weight_50 rfl (lv_at hl 0 rfl) ?_
      refine lv_iload_n hx hb dX2_weight_51 rfl (lv_at hl 2 rfl) ?_
      obtain ⟨r_52, S_52, hf_52, hf⟩ := zB2_s hf
      refine z_callV (w2 := (wX cy ad S_52)) C 1 (kX2_addedWeight l zq D cy ad a2 S_2 S_52 r_52 hf_52) gX2_weight_X2_addedWeight rfl (by decide +kernel) ⟨by decide, by decide⟩ hI 0 rfl rfl rfl hl.1 rfl (Nat.le_of_ble_eq_true rfl) dX2_weight_52 ⟨by decide, by decide⟩ (st2 := [.int r_52]) rfl (fun H locs hI => ?_)
      obtain ⟨h1, h2⟩ := zP2 hf
      rw [hQ]
      exact z_iret C (by rw [h2]; exact hI) (by rw [h1]) dX2_weight_55
    replace hf := zIf c_12_1 hf
    by_cases c_12_2 : a1 = 2
    · replace hf := zIt c_12_2 hf
      refine lv_tableIn (tgt := 56) (off := 44) hx hb dX2_weight_12 (by rw [c_12_2]; decide) (by rw [c_12_2]; decide) (by rw [c_12_2]; rfl) (by decide) ?_
      refine lv_aload_n hx hb dX2_weight_56 rfl (lv_at hl 0 rfl) ?_
      refine lv_iload_n hx hb dX2_weight_57 rfl (lv_at hl 2 rfl) ?_
      obtain ⟨r_58, S_58, hf_58, hf⟩ := zB2_s hf
      refine z_callV (w2 := (wX cy ad S_58)) C 1 (kX2_raisedWeight l zq D cy ad a2 S_2 S_58 r_58 hf_58) gX2_weight_X2_raisedWeight rfl (by decide +kernel) ⟨by decide, by decide⟩ hI 0 rfl rfl rfl hl.1 rfl (Nat.le_of_ble_eq_true rfl) dX2_weight_58 ⟨by decide, by decide⟩ (st2 := [.int r_58]) rfl (fun H locs hI => ?_)
      obtain ⟨h1, h2⟩ := zP2 hf
      rw [hQ]
      exact z_iret C (by rw [h2]; exact hI) (by rw [h1]) dX2_weight_61
    replace hf := zIf c_12_2 hf
    by_cases c_12_3 : a1 = 3
    · replace hf := zIt c_12_3 hf
      refine lv_tableIn (tgt := 62) (off := 50) hx hb dX2_weight_12 (by rw [c_12_3]; decide) (by rw [c_12_3]; decide) (by rw [c_12_3]; rfl) (by decide) ?_
      refine lv_aload_n hx hb dX2_weight_62 rfl (lv_at hl 0 rfl) ?_
      refine lv_iload_n hx hb dX2_weight_63 rfl (lv_at hl 2 rfl) ?_
      obtain ⟨r_64, S_64, hf_64, hf⟩ := zB2_s hf
      refine z_callV (w2 := (wX cy ad S_64)) C 1 (kX2_provedWeight l zq D cy ad a2 S_2 S_64 r_64 hf_64) gX2_weight_X2_provedWeight rfl (by decide +kernel) ⟨by decide, by decide⟩ hI 0 rfl rfl rfl hl.1 rfl (Nat.le_of_ble_eq_true rfl) dX2_weight_64 ⟨by decide, by decide⟩ (st2 := [.int r_64]) rfl (fun H locs hI => ?_)
      obtain ⟨h1, h2⟩ := zP2 hf
      rw [hQ]
      exact z_iret C (by rw [h2]; exact hI) (by rw [h1]) dX2_weight_67
    replace hf := zIf c_12_3 hf
    refine lv_tableOut (tgt := 68) hx hb dX2_weight_12 (zTab a1 0 3 (fun k h1 h2 => ?_)) (by decide) ?_
    · rcases (show k = 0 ∨ k = 1 ∨ k = 2 ∨ k = 3 by omega) with rfl | rfl | rfl | rfl
      · exact c_12_0
      · exact c_12_1
      · exact c_12_2
      · exact c_12_3
    refine lv_bipush (v := -100) hx hb dX2_weight_68 (by decide) ?_
    obtain ⟨h1, h2⟩ := zP2 hf
    rw [hQ]
    exact z_iret C (by rw [h2]; exact hI) (by rw [h1]) dX2_weight_70
  · replace hf := zIt c_5 hf
    refine lv_bipush (v := -100) hx hb dX2_weight_8 (by decide) ?_
    obtain ⟨h1, h2⟩ := zP2 hf
    rw [hQ]
    exact z_iret C (by rw [h2]; exact hI) (by rw [h1]) dX2_weight_10

def fX2_baseSize_b29 (k10 : Int64 → Int32 → Int32 → XS → Option (Int32 × XS)) (v1 : Int64) (v3 : Int32) (v4 : Int32) (S : XS) : Option (Int32 × XS) :=
k10 v1 v3 (v4 + (1 : Int32)) S

def fX2_baseSize_b10 (k10 : Int64 → Int32 → Int32 → XS → Option (Int32 × XS)) (v1 : Int64) (v3 : Int32) (v4 : Int32) (S : XS) : Option (Int32 × XS) :=
(if (64 : Int32) ≤ v4 then some (v3, S) else
(zB1 (fX2_beginsBase v4 v1) (fun r_20 =>
(if r_20 = 0 then fX2_baseSize_b29 k10 v1 v3 v4 S else
fX2_baseSize_b29 k10 v1 (v3 + (1 : Int32)) v4 S))))
def fX2_baseSize_b10L : Nat → Int64 → Int32 → Int32 → XS → Option (Int32 × XS)
  | 0, _, _, _, _ => none
  | n + 1, v1, v3, v4, S => fX2_baseSize_b10 (fX2_baseSize_b10L n) v1 v3 v4 S

def fX2_baseSize  (S : XS) : Option (Int32 × XS) :=
(zB2 (fX2_standingProducts S) (fun r_1 S_1 =>
fX2_baseSize_b10L zF r_1 (0 : Int32) (0 : Int32) S_1))
set_option maxHeartbeats 4000000 in
set_option maxRecDepth 100000 in
theorem kX2_baseSize (l : Launch) (zq : Nat → Nat) (D : va_G) (cy : Nat → ClassId) (ad : Nat → Nat)  (S S' : XS) (r : Int32) (hf : fX2_baseSize S = some (r, S')) : zMet l yX2_baseSize wsX2_baseSize 5 119 zq D (tX cy) (wX cy ad S) [.ref (ad 0)] (some (.int r)) (wX cy ad S') := by
  refine zMet.of cX2_baseSize 5 (some .int) (by decide) rfl (Nat.le_of_ble_eq_true rfl) ?_
  intro p e s m args below meth c A ls C hl hI
  have hl : lv_has ls 5 [(0, .ref (ad 0))] := hl
  have C : zC p s m args meth c cX2_baseSize 5 (some .int) RX2 wsX2_baseSize D (tX cy) zq A := C
  obtain ⟨hx, hb, hml, hown, hts, hret, hlk, hK, hX, hA⟩ := id C
  obtain ⟨Q, hQ⟩ : ∃ Q, Q = MQ below (zQ D (tX cy) (wX cy ad S') (some (.int r)) A) args s 0 0 A := ⟨_, rfl⟩
  rw [← hQ]
  have hb29 : ∀ (k10 : Int64 → Int32 → Int32 → XS → Option (Int32 × XS)) (hk10 : ∀ (v1 : Int64) (v3 : Int32) (v4 : Int32) (S : XS) (H : Heap) (locs : List Loc) (ls : Array Slot), k10 v1 v3 v4 S = some (r, S') → zI D A s H locs (wX cy ad S) → lv_has ls 5 [(1, .long v1), (3, .int v3), (4, .int v4)] → W p l e { frames := 5, cells := 0, slots := 0, locals := 119 } s m args below meth c H locs 0 0 Q (F0 m 10 ls [])), ∀ (v1 : Int64) (v3 : Int32) (v4 : Int32) (S : XS) (H : Heap) (locs : List Loc) (ls : Array Slot), fX2_baseSize_b29 k10 v1 v3 v4 S = some (r, S') → zI D A s H locs (wX cy ad S) → lv_has ls 5 [(1, .long v1), (3, .int v3), (4, .int v4)] → W p l e { frames := 5, cells := 0, slots := 0, locals := 119 } s m args below meth c H locs 0 0 Q (F0 m 29 ls []) := by
    intro k10 hk10 v1 v3 v4 S H locs ls hf hI hl
    unfold fX2_baseSize_b29 at hf
    refine lv_iinc (v := (v4 + (1 : Int32))) (lv' := [(4, .int (v4 + (1 : Int32))), (1, .long v1), (3, .int v3)]) hx hb dX2_baseSize_29 hl (k := 2) rfl rfl (by decide) rfl (fun ls hl => ?_)
    refine lv_goto (tgt := 10) hx hb dX2_baseSize_32 (by decide) ?_
    exact hk10 v1 v3 (v4 + (1 : Int32)) S _ _ _ hf hI (lv_sub hl [1, 2, 0] rfl)
  have hb10 : ∀ (n : Nat), ∀ (v1 : Int64) (v3 : Int32) (v4 : Int32) (S : XS) (H : Heap) (locs : List Loc) (ls : Array Slot), fX2_baseSize_b10L n v1 v3 v4 S = some (r, S') → zI D A s H locs (wX cy ad S) → lv_has ls 5 [(1, .long v1), (3, .int v3), (4, .int v4)] → W p l e { frames := 5, cells := 0, slots := 0, locals := 119 } s m args below meth c H locs 0 0 Q (F0 m 10 ls []) := by
    intro n
    induction n with
    | zero => intro v1 v3 v4 S H locs ls hf; cases (show (none : Option (Int32 × XS)) = some (r, S') from hf)
    | succ n ih =>
      intro v1 v3 v4 S H locs ls hf hI hl
      have hf : fX2_baseSize_b10 (fX2_baseSize_b10L n) v1 v3 v4 S = some (r, S') := hf
      unfold fX2_baseSize_b10 at hf
      refine lv_iload hx hb dX2_baseSize_10 (lv_at hl 2 rfl) ?_
      refine lv_bipush (v := 64) hx hb dX2_baseSize_12 (by decide) ?_
      refine lv_icmp_ge (tgt := 35) hx hb dX2_baseSize_14 (by decide) (fun c_14 => ?_) (fun c_14 => ?_)
      · replace hf := zIt c_14 hf
        refine lv_iload_n hx hb dX2_baseSize_35 rfl (lv_at hl 1 rfl) ?_
        obtain ⟨h1, h2⟩ := zP2 hf
        rw [hQ]
        exact z_iret C (by rw [h2]; exact hI) (by rw [h1]) dX2_baseSize_36
      · replace hf := zIf c_14 hf
        refine lv_iload hx hb dX2_baseSize_17 (lv_at hl 2 rfl) ?_
        refine lv_lload_n hx hb dX2_baseSize_19 rfl (lv_at hl 0 rfl) ?_
        obtain ⟨r_20, hf_20, hf⟩ := zB1_s hf
        refine z_callS C 2 (kX2_beginsBase l zq D v4 v1 r_20 hf_20) gX2_baseSize_X2_beginsBase rfl (by decide +kernel) ⟨by decide, by decide⟩ hI rfl hl.1 rfl (Nat.le_of_ble_eq_true rfl) dX2_baseSize_20 ⟨by decide, by decide⟩ (st2 := [.int r_20]) rfl (fun H locs hI => ?_)
        refine lv_if_eq (tgt := 29) hx hb dX2_baseSize_23 (by decide) (fun c_23 => ?_) (fun c_23 => ?_)
        · replace hf := zIt c_23 hf
          exact hb29 (fX2_baseSize_b10L n) ih v1 v3 v4 S _ _ _ hf hI (lv_sub hl [0, 1, 2] rfl)
        · replace hf := zIf c_23 hf
          refine lv_iinc (v := (v3 + (1 : Int32))) (lv' := [(3, .int (v3 + (1 : Int32))), (1, .long v1), (4, .int v4)]) hx hb dX2_baseSize_26 hl (k := 1) rfl rfl (by decide) rfl (fun ls hl => ?_)
          exact hb29 (fX2_baseSize_b10L n) ih v1 (v3 + (1 : Int32)) v4 S _ _ _ hf hI (lv_sub hl [1, 0, 2] rfl)
  unfold fX2_baseSize at hf
  refine lv_aload_n hx hb dX2_baseSize_0 rfl (lv_at hl 0 rfl) ?_
  obtain ⟨r_1, S_1, hf_1, hf⟩ := zB2_s hf
  refine z_callV (w2 := (wX cy ad S_1)) C 0 (kX2_standingProducts l zq D cy ad S S_1 r_1 hf_1) gX2_baseSize_X2_standingProducts rfl (by decide +kernel) ⟨by decide, by decide⟩ hI 0 rfl rfl rfl hl.1 rfl (Nat.le_of_ble_eq_true rfl) dX2_baseSize_1 ⟨by decide, by decide⟩ (st2 := [.long r_1]) rfl (fun H locs hI => ?_)
  refine lv_lstore_n (lv' := [(1, .long r_1), (0, .ref (ad 0))]) hx hb dX2_baseSize_4 rfl hl (by decide) rfl (fun ls hl => ?_)
  refine lv_iconst (v := 0) hx hb dX2_baseSize_5 (by decide) ?_
  refine lv_istore_n (lv' := [(3, .int (0 : Int32)), (1, .long r_1), (0, .ref (ad 0))]) hx hb dX2_baseSize_6 rfl hl (by decide) rfl (fun ls hl => ?_)
  refine lv_iconst (v := 0) hx hb dX2_baseSize_7 (by decide) ?_
  refine lv_istore (lv' := [(4, .int (0 : Int32)), (3, .int (0 : Int32)), (1, .long r_1), (0, .ref (ad 0))]) hx hb dX2_baseSize_8 hl (by decide) rfl (fun ls hl => ?_)
  exact hb10 zF r_1 (0 : Int32) (0 : Int32) S_1 _ _ _ hf hI (lv_sub hl [2, 1, 0] rfl)

def fX2_count (a1 : Int32) (S : XS) : Option (Int32 × XS) :=
(if a1 = 0 then some ((x_givenLines S), S) else
(if a1 = 1 then some (((x_lines S) - (x_givenLines S)), S) else
(if a1 = 2 then some ((x_steps S), S) else
(if a1 = 3 then (zB2 (fX2_baseSize S) (fun r_65 S_65 =>
some (r_65, S_65))) else
(if a1 = 4 then (zB2 (fX2_standingProducts S) (fun r_72 S_72 =>
(zB1 (fJ13_bitCount_95d88 r_72) (fun r_75 =>
some (((64 : Int32) - r_75), S_72))))) else
(if a1 = 5 then (zB1 (fJ13_bitCount_95d88 (x_commonWorlds S)) (fun r_84 =>
some (r_84, S))) else
(if a1 = 6 then some ((t_length (x_text S)), S) else
some ((-1 : Int32), S))))))))
set_option maxHeartbeats 4000000 in
set_option maxRecDepth 100000 in
theorem kX2_count (l : Launch) (zq : Nat → Nat) (D : va_G) (cy : Nat → ClassId) (ad : Nat → Nat) (a1 : Int32) (S S' : XS) (r : Int32) (hf : fX2_count a1 S = some (r, S')) : zMet l yX2_count wsX2_count 6 143 zq D (tX cy) (wX cy ad S) [.ref (ad 0), .int a1] (some (.int r)) (wX cy ad S') := by
  refine zMet.of cX2_count 2 (some .int) (by decide) rfl (Nat.le_of_ble_eq_true rfl) ?_
  intro p e s m args below meth c A ls C hl hI
  have hl : lv_has ls 2 [(0, .ref (ad 0)), (1, .int a1)] := hl
  have C : zC p s m args meth c cX2_count 2 (some .int) RX2 wsX2_count D (tX cy) zq A := C
  obtain ⟨hx, hb, hml, hown, hts, hret, hlk, hK, hX, hA⟩ := id C
  have hiX1 : ∀ w ∈ wsX10, w ∈ wsX2_count := by decide +kernel
  have hiX2 : ∀ w ∈ wsX20, w ∈ wsX2_count := by decide +kernel
  obtain ⟨Q, hQ⟩ : ∃ Q, Q = MQ below (zQ D (tX cy) (wX cy ad S') (some (.int r)) A) args s 0 0 A := ⟨_, rfl⟩
  rw [← hQ]
  unfold fX2_count at hf
  refine lv_iload_n hx hb dX2_count_0 rfl (lv_at hl 1 rfl) ?_
  by_cases c_1_0 : a1 = 0
  · replace hf := zIt c_1_0 hf
    refine lv_tableIn (tgt := 44) (off := 43) hx hb dX2_count_1 (by rw [c_1_0]; decide) (by rw [c_1_0]; decide) (by rw [c_1_0]; rfl) (by decide) ?_
    refine lv_aload_n hx hb dX2_count_44 rfl (lv_at hl 0 rfl) ?_
    refine va_get (D := D) (ci := 2) (v := .int (x_givenLines S)) (C := RX2) (T := TX2) (N := 13) hx hb hts hiX2 hown hK hI.1 0 rfl rfl 4 (by decide) (hts (.fieldLink RX2 27 "NoughtSums" "givenLines" "I") (by decide +kernel)) (fun _ h9 => h9) rfl dX2_count_45 ?_
    obtain ⟨h1, h2⟩ := zP2 hf
    rw [hQ]
    exact z_iret C (by rw [h2]; exact hI) (by rw [h1]) dX2_count_48
  replace hf := zIf c_1_0 hf
  by_cases c_1_1 : a1 = 1
  · replace hf := zIt c_1_1 hf
    refine lv_tableIn (tgt := 49) (off := 48) hx hb dX2_count_1 (by rw [c_1_1]; decide) (by rw [c_1_1]; decide) (by rw [c_1_1]; rfl) (by decide) ?_
    refine lv_aload_n hx hb dX2_count_49 rfl (lv_at hl 0 rfl) ?_
    refine va_get (D := D) (ci := 2) (v := .int (x_lines S)) (C := RX2) (T := TX2) (N := 13) hx hb hts hiX2 hown hK hI.1 0 rfl rfl 3 (by decide) (hts (.fieldLink RX2 23 "NoughtSums" "lines" "I") (by decide +kernel)) (fun _ h9 => h9) rfl dX2_count_50 ?_
    refine lv_aload_n hx hb dX2_count_53 rfl (lv_at hl 0 rfl) ?_
    refine va_get (D := D) (ci := 2) (v := .int (x_givenLines S)) (C := RX2) (T := TX2) (N := 13) hx hb hts hiX2 hown hK hI.1 0 rfl rfl 4 (by decide) (hts (.fieldLink RX2 27 "NoughtSums" "givenLines" "I") (by decide +kernel)) (fun _ h9 => h9) rfl dX2_count_54 ?_
    refine lv_isub hx hb dX2_count_57 ?_
    obtain ⟨h1, h2⟩ := zP2 hf
    rw [hQ]
    exact z_iret C (by rw [h2]; exact hI) (by rw [h1]) dX2_count_58
  replace hf := zIf c_1_1 hf
  by_cases c_1_2 : a1 = 2
  · replace hf := zIt c_1_2 hf
    refine lv_tableIn (tgt := 59) (off := 58) hx hb dX2_count_1 (by rw [c_1_2]; decide) (by rw [c_1_2]; decide) (by rw [c_1_2]; rfl) (by decide) ?_
    refine lv_aload_n hx hb dX2_count_59 rfl (lv_at hl 0 rfl) ?_
    refine va_get (D := D) (ci := 2) (v := .int (x_steps S)) (C := RX2) (T := TX2) (N := 13) hx hb hts hiX2 hown hK hI.1 0 rfl rfl 5 (by decide) (hts (.fieldLink RX2 30 "NoughtSums" "steps" "I") (by decide +kernel)) (fun _ h9 => h9) rfl dX2_count_60 ?_
    obtain ⟨h1, h2⟩ := zP2 hf
    rw [hQ]
    exact z_iret C (by rw [h2]; exact hI) (by rw [h1]) dX2_count_63
  replace hf := zIf c_1_2 hf
  by_cases c_1_3 : a1 = 3
  · replace hf := zIt c_1_3 hf
    refine lv_tableIn (tgt := 64) (off := 63) hx hb dX2_count_1 (by rw [c_1_3]; decide) (by rw [c_1_3]; decide) (by rw [c_1_3]; rfl) (by decide) ?_
    refine lv_aload_n hx hb dX2_count_64 rfl (lv_at hl 0 rfl) ?_
    obtain ⟨r_65, S_65, hf_65, hf⟩ := zB2_s hf
    refine z_callV (w2 := (wX cy ad S_65)) C 0 (kX2_baseSize l zq D cy ad S S_65 r_65 hf_65) gX2_count_X2_baseSize rfl (by decide +kernel) ⟨by decide, by decide⟩ hI 0 rfl rfl rfl hl.1 rfl (Nat.le_of_ble_eq_true rfl) dX2_count_65 ⟨by decide, by decide⟩ (st2 := [.int r_65]) rfl (fun H locs hI => ?_)
    obtain ⟨h1, h2⟩ := zP2 hf
    rw [hQ]
    exact z_iret C (by rw [h2]; exact hI) (by rw [h1]) dX2_count_68
  replace hf := zIf c_1_3 hf
  by_cases c_1_4 : a1 = 4
  · replace hf := zIt c_1_4 hf
    refine lv_tableIn (tgt := 69) (off := 68) hx hb dX2_count_1 (by rw [c_1_4]; decide) (by rw [c_1_4]; decide) (by rw [c_1_4]; rfl) (by decide) ?_
    refine lv_bipush (v := 64) hx hb dX2_count_69 (by decide) ?_
    refine lv_aload_n hx hb dX2_count_71 rfl (lv_at hl 0 rfl) ?_
    obtain ⟨r_72, S_72, hf_72, hf⟩ := zB2_s hf
    refine z_callV (w2 := (wX cy ad S_72)) C 0 (kX2_standingProducts l zq D cy ad S S_72 r_72 hf_72) gX2_count_X2_standingProducts rfl (by decide +kernel) ⟨by decide, by decide⟩ hI 0 rfl rfl rfl hl.1 rfl (Nat.le_of_ble_eq_true rfl) dX2_count_72 ⟨by decide, by decide⟩ (st2 := [.long r_72, .int (64 : Int32)]) rfl (fun H locs hI => ?_)
    obtain ⟨r_75, hf_75, hf⟩ := zB1_s hf
    refine z_callS C 1 (kJ13_bitCount_95d88 l zq D r_72 r_75 hf_75) gX2_count_J13_bitCount_95d88 rfl (by decide +kernel) ⟨by decide, by decide⟩ hI rfl hl.1 rfl (Nat.le_of_ble_eq_true rfl) dX2_count_75 ⟨by decide, by decide⟩ (st2 := [.int r_75, .int (64 : Int32)]) rfl (fun H locs hI => ?_)
    refine lv_isub hx hb dX2_count_78 ?_
    obtain ⟨h1, h2⟩ := zP2 hf
    rw [hQ]
    exact z_iret C (by rw [h2]; exact hI) (by rw [h1]) dX2_count_79
  replace hf := zIf c_1_4 hf
  by_cases c_1_5 : a1 = 5
  · replace hf := zIt c_1_5 hf
    refine lv_tableIn (tgt := 80) (off := 79) hx hb dX2_count_1 (by rw [c_1_5]; decide) (by rw [c_1_5]; decide) (by rw [c_1_5]; rfl) (by decide) ?_
    refine lv_aload_n hx hb dX2_count_80 rfl (lv_at hl 0 rfl) ?_
    refine va_get (D := D) (ci := 2) (v := .long (x_commonWorlds S)) (C := RX2) (T := TX2) (N := 13) hx hb hts hiX2 hown hK hI.1 0 rfl rfl 7 (by decide) (hts (.fieldLink RX2 38 "NoughtSums" "commonWorlds" "J") (by decide +kernel)) (fun _ h9 => h9) rfl dX2_count_81 ?_
    obtain ⟨r_84, hf_84, hf⟩ := zB1_s hf
    refine z_callS C 1 (kJ13_bitCount_95d88 l zq D (x_commonWorlds S) r_84 hf_84) gX2_count_J13_bitCount_95d88 rfl (by decide +kernel) ⟨by decide, by decide⟩ hI rfl hl.1 rfl (Nat.le_of_ble_eq_true rfl) dX2_count_84 ⟨by decide, by decide⟩ (st2 := [.int r_84]) rfl (fun H locs hI => ?_)
    obtain ⟨h1, h2⟩ := zP2 hf
    rw [hQ]
    exact z_iret C (by rw [h2]; exact hI) (by rw [h1]) dX2_count_87
  replace hf := zIf c_1_5 hf
  by_cases c_1_6 : a1 = 6
  · replace hf := zIt c_1_6 hf
    refine lv_tableIn (tgt := 88) (off := 87) hx hb dX2_count_1 (by rw [c_1_6]; decide) (by rw [c_1_6]; decide) (by rw [c_1_6]; rfl) (by decide) ?_
    refine lv_aload_n hx hb dX2_count_88 rfl (lv_at hl 0 rfl) ?_
    refine va_get (D := D) (ci := 2) (v := .ref (ad 1)) (C := RX2) (T := TX2) (N := 13) hx hb hts hiX2 hown hK hI.1 0 rfl rfl 0 (by decide) (hts (.fieldLink RX2 12 "NoughtSums" "text" "LNoughtSums$Text;") (by decide +kernel)) (fun _ h9 => h9) rfl dX2_count_89 ?_
    refine va_get (D := D) (ci := 1) (v := .int (t_length (x_text S))) (C := RX1) (T := TX1) (N := 11) hx hb hts hiX1 hown hK hI.1 1 rfl rfl 1 (by decide) (hts (.fieldLink RX2 62 "NoughtSums$Text" "length" "I") (by decide +kernel)) (fun _ h9 => h9) rfl dX2_count_92 ?_
    obtain ⟨h1, h2⟩ := zP2 hf
    rw [hQ]
    exact z_iret C (by rw [h2]; exact hI) (by rw [h1]) dX2_count_95
  replace hf := zIf c_1_6 hf
  refine lv_tableOut (tgt := 96) hx hb dX2_count_1 (zTab a1 0 6 (fun k h1 h2 => ?_)) (by decide) ?_
  · rcases (show k = 0 ∨ k = 1 ∨ k = 2 ∨ k = 3 ∨ k = 4 ∨ k = 5 ∨ k = 6 by omega) with rfl | rfl | rfl | rfl | rfl | rfl | rfl
    · exact c_1_0
    · exact c_1_1
    · exact c_1_2
    · exact c_1_3
    · exact c_1_4
    · exact c_1_5
    · exact c_1_6
  refine lv_iconst (v := -1) hx hb dX2_count_96 (by decide) ?_
  obtain ⟨h1, h2⟩ := zP2 hf
  rw [hQ]
  exact z_iret C (by rw [h2]; exact hI) (by rw [h1]) dX2_count_97

def fX2_trace  (S : XS) : Option (Int64 × XS) :=
some ((x_traced S), S)
set_option maxHeartbeats 4000000 in
set_option maxRecDepth 100000 in
theorem kX2_trace (l : Launch) (zq : Nat → Nat) (D : va_G) (cy : Nat → ClassId) (ad : Nat → Nat)  (S S' : XS) (r : Int64) (hf : fX2_trace S = some (r, S')) : zMet l yX2_trace wsX2_trace 0 0 zq D (tX cy) (wX cy ad S) [.ref (ad 0)] (some (.long r)) (wX cy ad S') := by
  refine zMet.of cX2_trace 1 (some .long) (by decide) rfl (Nat.le_of_ble_eq_true rfl) ?_
  intro p e s m args below meth c A ls C hl hI
  have hl : lv_has ls 1 [(0, .ref (ad 0))] := hl
  have C : zC p s m args meth c cX2_trace 1 (some .long) RX2 wsX2_trace D (tX cy) zq A := C
  obtain ⟨hx, hb, hml, hown, hts, hret, hlk, hK, hX, hA⟩ := id C
  have hiX2 : ∀ w ∈ wsX20, w ∈ wsX2_trace := by decide +kernel
  obtain ⟨Q, hQ⟩ : ∃ Q, Q = MQ below (zQ D (tX cy) (wX cy ad S') (some (.long r)) A) args s 0 0 A := ⟨_, rfl⟩
  rw [← hQ]
  unfold fX2_trace at hf
  refine lv_aload_n hx hb dX2_trace_0 rfl (lv_at hl 0 rfl) ?_
  refine va_get (D := D) (ci := 2) (v := .long (x_traced S)) (C := RX2) (T := TX2) (N := 13) hx hb hts hiX2 hown hK hI.1 0 rfl rfl 8 (by decide) (hts (.fieldLink RX2 42 "NoughtSums" "traced" "J") (by decide +kernel)) (fun _ h9 => h9) rfl dX2_trace_1 ?_
  obtain ⟨h1, h2⟩ := zP2 hf
  rw [hQ]
  exact z_lret C (by rw [h2]; exact hI) (by rw [h1]) dX2_trace_4

