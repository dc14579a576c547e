def fX2_valuesOf_b5 (k5 : Int64 → Int32 → Option Int64) (v2 : Int64) (v4 : Int32) : Option Int64 :=
(if (6 : Int32) ≤ v4 then some v2 else
(zGI v4 6
((zL (v2 ^^^ ((v2 &&& ((zHas v4.toNatClampNeg) ^^^ (-1 : Int64))) <<< (((1 : Int32) <<< (v4 &&& 31)).toInt64 &&& 63))) (fun n_31 =>
k5 n_31 (v4 + (1 : Int32)))))))
def fX2_valuesOf_b5L : Nat → Int64 → Int32 → Option Int64
  | 0, _, _ => none
  | n + 1, v2, v4 => fX2_valuesOf_b5 (fX2_valuesOf_b5L n) v2 v4

def fX2_valuesOf (a0 : Int64) : Option Int64 :=
fX2_valuesOf_b5L zF a0 (0 : Int32)
set_option maxHeartbeats 4000000 in
set_option maxRecDepth 100000 in
theorem kX2_valuesOf (l : Launch) (zq : Nat → Nat) (D : va_G) (a0 : Int64) (r : Int64) (hf : fX2_valuesOf a0 = some r) : zMet l yX2_valuesOf wsX2_valuesOf 0 0 zq D [] [] [.long a0] (some (.long r)) [] := by
  refine zMet.of cX2_valuesOf 5 (some .long) (by decide) rfl (Nat.le_of_ble_eq_true rfl) ?_
  intro p e s m args below meth c A ls C hl hI
  have hl : lv_has ls 5 [(0, .long a0)] := hl
  have C : zC p s m args meth c cX2_valuesOf 5 (some .long) RX2 wsX2_valuesOf D [] zq A := C
  obtain ⟨hx, hb, hml, hown, hts, hret, hlk, hK, hX, hA⟩ := id C
  obtain ⟨Q, hQ⟩ : ∃ Q, Q = MQ below (zQ D [] [] (some (.long r)) A) args s 0 0 A := ⟨_, rfl⟩
  rw [← hQ]
  have hb5 : ∀ (n : Nat), ∀ (v2 : Int64) (v4 : Int32) (H : Heap) (locs : List Loc) (ls : Array Slot), fX2_valuesOf_b5L n v2 v4 = some r → zI D A s H locs [] → lv_has ls 5 [(2, .long v2), (4, .int v4)] → W p l e { frames := 0, cells := 0, slots := 0, locals := 0 } s m args below meth c H locs 0 0 Q (F0 m 5 ls []) := by
    intro n
    induction n with
    | zero => intro v2 v4 H locs ls hf; cases (show (none : Option Int64) = some r from hf)
    | succ n ih =>
      intro v2 v4 H locs ls hf hI hl
      have hf : fX2_valuesOf_b5 (fX2_valuesOf_b5L n) v2 v4 = some r := hf
      unfold fX2_valuesOf_b5 at hf
      refine lv_iload hx hb dX2_valuesOf_5 (lv_at hl 1 rfl) ?_
      refine lv_bipush (v := 6) hx hb dX2_valuesOf_7 (by decide) ?_
      refine lv_icmp_ge (tgt := 38) hx hb dX2_valuesOf_9 (by decide) (fun c_9 => ?_) (fun c_9 => ?_)
      · replace hf := zIt c_9 hf
        refine lv_lload_n hx hb dX2_valuesOf_38 rfl (lv_at hl 0 rfl) ?_
        have h1 := zP1 hf
        rw [hQ]
        exact z_lret C hI (by rw [h1]) dX2_valuesOf_39
      · replace hf := zIf c_9 hf
        refine lv_lload_n hx hb dX2_valuesOf_12 rfl (lv_at hl 0 rfl) ?_
        refine lv_lload_n hx hb dX2_valuesOf_13 rfl (lv_at hl 0 rfl) ?_
        refine va_gets (C := RX2) (n := "HAS_LETTER") (d := "[J") hx hb hX.2.2.2.1 hI.2.2 hown (hts (.fieldLink RX2 120 "NoughtSums" "HAS_LETTER" "[J") (by decide +kernel)) (fun _ h9 => h9) dX2_valuesOf_14 ?_
        refine lv_iload hx hb dX2_valuesOf_17 (lv_at hl 1 rfl) ?_
        obtain ⟨g_19, hf⟩ := zGI_s hf
        refine va_tl hx hb hX.2.2.2.2.1 hI.2.2 g_19 (v := .long (zHas v4.toNatClampNeg)) rfl dX2_valuesOf_19 ?_
        refine lv_ldc2 hx hb hown (hts (.constantLong RX2 36 (-1)) (by decide +kernel)) dX2_valuesOf_20 ?_
        refine lv_lxor hx hb dX2_valuesOf_23 ?_
        refine lv_land hx hb dX2_valuesOf_24 ?_
        refine lv_iconst (v := 1) hx hb dX2_valuesOf_25 (by decide) ?_
        refine lv_iload hx hb dX2_valuesOf_26 (lv_at hl 1 rfl) ?_
        refine lv_ishl hx hb dX2_valuesOf_28 ?_
        refine lv_lshl hx hb dX2_valuesOf_29 rfl ?_
        refine lv_lxor hx hb dX2_valuesOf_30 ?_
        refine lv_topl (fun n_31 e_31 => ?_)
        replace hf := zL_s hf e_31
        refine lv_lstore_n (lv' := [(2, .long n_31), (4, .int v4)]) hx hb dX2_valuesOf_31 rfl hl (by decide) rfl (fun ls hl => ?_)
        refine lv_iinc (v := (v4 + (1 : Int32))) (lv' := [(4, .int (v4 + (1 : Int32))), (2, .long n_31)]) hx hb dX2_valuesOf_32 hl (k := 1) rfl rfl (by decide) rfl (fun ls hl => ?_)
        refine lv_goto (tgt := 5) hx hb dX2_valuesOf_35 (by decide) ?_
        exact ih n_31 (v4 + (1 : Int32)) _ _ _ hf hI (lv_sub hl [1, 0] rfl)
  unfold fX2_valuesOf at hf
  refine lv_lload_n hx hb dX2_valuesOf_0 rfl (lv_at hl 0 rfl) ?_
  refine lv_lstore_n (lv' := [(2, .long a0), (0, .long a0)]) hx hb dX2_valuesOf_1 rfl hl (by decide) rfl (fun ls hl => ?_)
  refine lv_iconst (v := 0) hx hb dX2_valuesOf_2 (by decide) ?_
  refine lv_istore (lv' := [(4, .int (0 : Int32)), (2, .long a0), (0, .long a0)]) hx hb dX2_valuesOf_3 hl (by decide) rfl (fun ls hl => ?_)
  exact hb5 zF a0 (0 : Int32) _ _ _ hf hI (lv_sub hl [1, 0] rfl)

def fX2_multiplied (a0 : Int64) (a2 : Int64) : Option Int64 :=
(zB1 (fX2_valuesOf a0) (fun r_1 =>
(zB1 (fX2_valuesOf a2) (fun r_5 =>
(zB1 (fX2_valuesOf (r_1 &&& r_5)) (fun r_9 =>
some r_9))))))
set_option maxHeartbeats 4000000 in
set_option maxRecDepth 100000 in
theorem kX2_multiplied (l : Launch) (zq : Nat → Nat) (D : va_G) (a0 : Int64) (a2 : Int64) (r : Int64) (hf : fX2_multiplied a0 a2 = some r) : zMet l yX2_multiplied wsX2_multiplied 1 24 zq D [] [] [.long a0, .long a2] (some (.long r)) [] := by
  refine zMet.of cX2_multiplied 4 (some .long) (by decide) rfl (Nat.le_of_ble_eq_true rfl) ?_
  intro p e s m args below meth c A ls C hl hI
  have hl : lv_has ls 4 [(0, .long a0), (2, .long a2)] := hl
  have C : zC p s m args meth c cX2_multiplied 4 (some .long) RX2 wsX2_multiplied D [] zq A := C
  obtain ⟨hx, hb, hml, hown, hts, hret, hlk, hK, hX, hA⟩ := id C
  obtain ⟨Q, hQ⟩ : ∃ Q, Q = MQ below (zQ D [] [] (some (.long r)) A) args s 0 0 A := ⟨_, rfl⟩
  rw [← hQ]
  unfold fX2_multiplied at hf
  refine lv_lload_n hx hb dX2_multiplied_0 rfl (lv_at hl 0 rfl) ?_
  obtain ⟨r_1, hf_1, hf⟩ := zB1_s hf
  refine z_callS C 1 (kX2_valuesOf l zq D a0 r_1 hf_1) gX2_multiplied_X2_valuesOf rfl (by decide +kernel) ⟨by decide, by decide⟩ hI rfl hl.1 rfl (Nat.le_of_ble_eq_true rfl) dX2_multiplied_1 ⟨by decide, by decide⟩ (st2 := [.long r_1]) rfl (fun H locs hI => ?_)
  refine lv_lload_n hx hb dX2_multiplied_4 rfl (lv_at hl 1 rfl) ?_
  obtain ⟨r_5, hf_5, hf⟩ := zB1_s hf
  refine z_callS C 1 (kX2_valuesOf l zq D a2 r_5 hf_5) gX2_multiplied_X2_valuesOf rfl (by decide +kernel) ⟨by decide, by decide⟩ hI rfl hl.1 rfl (Nat.le_of_ble_eq_true rfl) dX2_multiplied_5 ⟨by decide, by decide⟩ (st2 := [.long r_5, .long r_1]) rfl (fun H locs hI => ?_)
  refine lv_land hx hb dX2_multiplied_8 ?_
  obtain ⟨r_9, hf_9, hf⟩ := zB1_s hf
  refine z_callS C 1 (kX2_valuesOf l zq D (r_1 &&& r_5) r_9 hf_9) gX2_multiplied_X2_valuesOf rfl (by decide +kernel) ⟨by decide, by decide⟩ hI rfl hl.1 rfl (Nat.le_of_ble_eq_true rfl) dX2_multiplied_9 ⟨by decide, by decide⟩ (st2 := [.long r_9]) rfl (fun H locs hI => ?_)
  have h1 := zP1 hf
  rw [hQ]
  exact z_lret C hI (by rw [h1]) dX2_multiplied_12

def fX2_hasBit (a0 : Int64) (a2 : Int32) : Option Int32 :=
(if (lg_cmp ((zLushr a0 a2) &&& (1 : Int64)) (0 : Int64)) = 0 then some (0 : Int32) else
some (1 : Int32))
set_option maxHeartbeats 4000000 in
set_option maxRecDepth 100000 in
theorem kX2_hasBit (l : Launch) (zq : Nat → Nat) (D : va_G) (a0 : Int64) (a2 : Int32) (r : Int32) (hf : fX2_hasBit a0 a2 = some r) : zMet l yX2_hasBit wsX2_hasBit 0 0 zq D [] [] [.long a0, .int a2] (some (.int r)) [] := by
  refine zMet.of cX2_hasBit 3 (some .boolean) (by decide) rfl (Nat.le_of_ble_eq_true rfl) ?_
  intro p e s m args below meth c A ls C hl hI
  have hl : lv_has ls 3 [(0, .long a0), (2, .int a2)] := hl
  have C : zC p s m args meth c cX2_hasBit 3 (some .boolean) RX2 wsX2_hasBit D [] zq A := C
  obtain ⟨hx, hb, hml, hown, hts, hret, hlk, hK, hX, hA⟩ := id C
  obtain ⟨Q, hQ⟩ : ∃ Q, Q = MQ below (zQ D [] [] (some (.int r)) A) args s 0 0 A := ⟨_, rfl⟩
  rw [← hQ]
  unfold fX2_hasBit at hf
  refine lv_lload_n hx hb dX2_hasBit_0 rfl (lv_at hl 0 rfl) ?_
  refine lv_iload_n hx hb dX2_hasBit_1 rfl (lv_at hl 1 rfl) ?_
  refine lv_lushr (v := zLushr a0 a2) hx hb dX2_hasBit_2 rfl ?_
  refine lv_lconst (v := 1) hx hb dX2_hasBit_3 (by decide) ?_
  refine lv_land hx hb dX2_hasBit_4 ?_
  refine lv_lconst (v := 0) hx hb dX2_hasBit_5 (by decide) ?_
  refine W.lcmp hx hb dX2_hasBit_6 ?_
  refine lv_if_eq (tgt := 14) hx hb dX2_hasBit_7 (by decide) (fun c_7 => ?_) (fun c_7 => ?_)
  · replace hf := zIt c_7 hf
    refine lv_iconst (v := 0) hx hb dX2_hasBit_14 (by decide) ?_
    have h1 := zP1 hf
    rw [hQ]
    exact z_zret C hI (by rw [h1]) rfl dX2_hasBit_15
  · replace hf := zIf c_7 hf
    refine lv_iconst (v := 1) hx hb dX2_hasBit_10 (by decide) ?_
    refine lv_goto (tgt := 15) hx hb dX2_hasBit_11 (by decide) ?_
    have h1 := zP1 hf
    rw [hQ]
    exact z_zret C hI (by rw [h1]) rfl dX2_hasBit_15

def fX2_leadOf_b3 (k3 : Int64 → Int32 → Option Int32) (v0 : Int64) (v2 : Int32) : Option Int32 :=
(if v2 < 0 then some (-9 : Int32) else
(zGI v2 64
((zB1 (fX2_hasBit v0 (zOrd v2.toNatClampNeg)) (fun r_13 =>
(if r_13 = 0 then k3 v0 (v2 + (-1 : Int32)) else
(zGI v2 64
(some (zOrd v2.toNatClampNeg)))))))))
def fX2_leadOf_b3L : Nat → Int64 → Int32 → Option Int32
  | 0, _, _ => none
  | n + 1, v0, v2 => fX2_leadOf_b3 (fX2_leadOf_b3L n) v0 v2

def fX2_leadOf (a0 : Int64) : Option Int32 :=
fX2_leadOf_b3L zF a0 (63 : Int32)
set_option maxHeartbeats 4000000 in
set_option maxRecDepth 100000 in
theorem kX2_leadOf (l : Launch) (zq : Nat → Nat) (D : va_G) (a0 : Int64) (r : Int32) (hf : fX2_leadOf a0 = some r) : zMet l yX2_leadOf wsX2_leadOf 1 22 zq D [] [] [.long a0] (some (.int r)) [] := by
  refine zMet.of cX2_leadOf 3 (some .int) (by decide) rfl (Nat.le_of_ble_eq_true rfl) ?_
  intro p e s m args below meth c A ls C hl hI
  have hl : lv_has ls 3 [(0, .long a0)] := hl
  have C : zC p s m args meth c cX2_leadOf 3 (some .int) RX2 wsX2_leadOf D [] zq A := C
  obtain ⟨hx, hb, hml, hown, hts, hret, hlk, hK, hX, hA⟩ := id C
  obtain ⟨Q, hQ⟩ : ∃ Q, Q = MQ below (zQ D [] [] (some (.int r)) A) args s 0 0 A := ⟨_, rfl⟩
  rw [← hQ]
  have hb3 : ∀ (n : Nat), ∀ (v0 : Int64) (v2 : Int32) (H : Heap) (locs : List Loc) (ls : Array Slot), fX2_leadOf_b3L n v0 v2 = some r → zI D A s H locs [] → lv_has ls 3 [(0, .long v0), (2, .int v2)] → W p l e { frames := 1, cells := 0, slots := 0, locals := 22 } s m args below meth c H locs 0 0 Q (F0 m 3 ls []) := by
    intro n
    induction n with
    | zero => intro v0 v2 H locs ls hf; cases (show (none : Option Int32) = some r from hf)
    | succ n ih =>
      intro v0 v2 H locs ls hf hI hl
      have hf : fX2_leadOf_b3 (fX2_leadOf_b3L n) v0 v2 = some r := hf
      unfold fX2_leadOf_b3 at hf
      refine lv_iload_n hx hb dX2_leadOf_3 rfl (lv_at hl 1 rfl) ?_
      refine lv_if_lt (tgt := 31) hx hb dX2_leadOf_4 (by decide) (fun c_4 => ?_) (fun c_4 => ?_)
      · replace hf := zIt c_4 hf
        refine lv_bipush (v := -9) hx hb dX2_leadOf_31 (by decide) ?_
        have h1 := zP1 hf
        rw [hQ]
        exact z_iret C hI (by rw [h1]) dX2_leadOf_33
      · replace hf := zIf c_4 hf
        refine lv_lload_n hx hb dX2_leadOf_7 rfl (lv_at hl 0 rfl) ?_
        refine va_gets (C := RX2) (n := "ORDER") (d := "[I") hx hb hX.2.1 hI.2.2 hown (hts (.fieldLink RX2 130 "NoughtSums" "ORDER" "[I") (by decide +kernel)) (fun _ h9 => h9) dX2_leadOf_8 ?_
        refine lv_iload_n hx hb dX2_leadOf_11 rfl (lv_at hl 1 rfl) ?_
        obtain ⟨g_12, hf⟩ := zGI_s hf
        refine va_ti hx hb hX.2.2.1 hI.2.2 g_12 (v := .int (zOrd v2.toNatClampNeg)) rfl dX2_leadOf_12 ?_
        obtain ⟨r_13, hf_13, hf⟩ := zB1_s hf
        refine z_callS C 2 (kX2_hasBit l zq D v0 (zOrd v2.toNatClampNeg) r_13 hf_13) gX2_leadOf_X2_hasBit rfl (by decide +kernel) ⟨by decide, by decide⟩ hI rfl hl.1 rfl (Nat.le_of_ble_eq_true rfl) dX2_leadOf_13 ⟨by decide, by decide⟩ (st2 := [.int r_13]) rfl (fun H locs hI => ?_)
        refine lv_if_eq (tgt := 25) hx hb dX2_leadOf_16 (by decide) (fun c_16 => ?_) (fun c_16 => ?_)
        · replace hf := zIt c_16 hf
          refine lv_iinc (v := (v2 + (-1 : Int32))) (lv' := [(2, .int (v2 + (-1 : Int32))), (0, .long v0)]) hx hb dX2_leadOf_25 hl (k := 1) rfl rfl (by decide) rfl (fun ls hl => ?_)
          refine lv_goto (tgt := 3) hx hb dX2_leadOf_28 (by decide) ?_
          exact ih v0 (v2 + (-1 : Int32)) _ _ _ hf hI (lv_sub hl [1, 0] rfl)
        · replace hf := zIf c_16 hf
          refine va_gets (C := RX2) (n := "ORDER") (d := "[I") hx hb hX.2.1 hI.2.2 hown (hts (.fieldLink RX2 130 "NoughtSums" "ORDER" "[I") (by decide +kernel)) (fun _ h9 => h9) dX2_leadOf_19 ?_
          refine lv_iload_n hx hb dX2_leadOf_22 rfl (lv_at hl 1 rfl) ?_
          obtain ⟨g_23, hf⟩ := zGI_s hf
          refine va_ti hx hb hX.2.2.1 hI.2.2 g_23 (v := .int (zOrd v2.toNatClampNeg)) rfl dX2_leadOf_23 ?_
          have h1 := zP1 hf
          rw [hQ]
          exact z_iret C hI (by rw [h1]) dX2_leadOf_24
  unfold fX2_leadOf at hf
  refine lv_bipush (v := 63) hx hb dX2_leadOf_0 (by decide) ?_
  refine lv_istore_n (lv' := [(2, .int (63 : Int32)), (0, .long a0)]) hx hb dX2_leadOf_2 rfl hl (by decide) rfl (fun ls hl => ?_)
  exact hb3 zF a0 (63 : Int32) _ _ _ hf hI (lv_sub hl [1, 0] rfl)

def fX2_degreeOf (a0 : Int64) : Option Int32 :=
(zB1 (fX2_leadOf a0) (fun r_1 =>
(if r_1 = (-9 : Int32) then some (-9 : Int32) else
(zB1 (fJ6_bitCount_0f7a4 r_1) (fun r_17 =>
some r_17)))))
set_option maxHeartbeats 4000000 in
set_option maxRecDepth 100000 in
theorem kX2_degreeOf (l : Launch) (zq : Nat → Nat) (D : va_G) (a0 : Int64) (r : Int32) (hf : fX2_degreeOf a0 = some r) : zMet l yX2_degreeOf wsX2_degreeOf 2 44 zq D [] [] [.long a0] (some (.int r)) [] := by
  refine zMet.of cX2_degreeOf 3 (some .int) (by decide) rfl (Nat.le_of_ble_eq_true rfl) ?_
  intro p e s m args below meth c A ls C hl hI
  have hl : lv_has ls 3 [(0, .long a0)] := hl
  have C : zC p s m args meth c cX2_degreeOf 3 (some .int) RX2 wsX2_degreeOf D [] zq A := C
  obtain ⟨hx, hb, hml, hown, hts, hret, hlk, hK, hX, hA⟩ := id C
  obtain ⟨Q, hQ⟩ : ∃ Q, Q = MQ below (zQ D [] [] (some (.int r)) A) args s 0 0 A := ⟨_, rfl⟩
  rw [← hQ]
  unfold fX2_degreeOf at hf
  refine lv_lload_n hx hb dX2_degreeOf_0 rfl (lv_at hl 0 rfl) ?_
  obtain ⟨r_1, hf_1, hf⟩ := zB1_s hf
  refine z_callS C 1 (kX2_leadOf l zq D a0 r_1 hf_1) gX2_degreeOf_X2_leadOf rfl (by decide +kernel) ⟨by decide, by decide⟩ hI rfl hl.1 rfl (Nat.le_of_ble_eq_true rfl) dX2_degreeOf_1 ⟨by decide, by decide⟩ (st2 := [.int r_1]) rfl (fun H locs hI => ?_)
  refine lv_istore_n (lv' := [(2, .int r_1), (0, .long a0)]) hx hb dX2_degreeOf_4 rfl hl (by decide) rfl (fun ls hl => ?_)
  refine lv_iload_n hx hb dX2_degreeOf_5 rfl (lv_at hl 0 rfl) ?_
  refine lv_bipush (v := -9) hx hb dX2_degreeOf_6 (by decide) ?_
  refine lv_icmp_ne (tgt := 16) hx hb dX2_degreeOf_8 (by decide) (fun c_8 => ?_) (fun c_8 => ?_)
  · replace hf := zIf c_8 hf
    refine lv_iload_n hx hb dX2_degreeOf_16 rfl (lv_at hl 0 rfl) ?_
    obtain ⟨r_17, hf_17, hf⟩ := zB1_s hf
    refine z_callS C 1 (kJ6_bitCount_0f7a4 l zq D r_1 r_17 hf_17) gX2_degreeOf_J6_bitCount_0f7a4 rfl (by decide +kernel) ⟨by decide, by decide⟩ hI rfl hl.1 rfl (Nat.le_of_ble_eq_true rfl) dX2_degreeOf_17 ⟨by decide, by decide⟩ (st2 := [.int r_17]) rfl (fun H locs hI => ?_)
    have h1 := zP1 hf
    rw [hQ]
    exact z_iret C hI (by rw [h1]) dX2_degreeOf_20
  · replace hf := zIt c_8 hf
    refine lv_bipush (v := -9) hx hb dX2_degreeOf_11 (by decide) ?_
    refine lv_goto (tgt := 20) hx hb dX2_degreeOf_13 (by decide) ?_
    have h1 := zP1 hf
    rw [hQ]
    exact z_iret C hI (by rw [h1]) dX2_degreeOf_20

def fX2_beginsBase_b44 (k12 : Int32 → Int64 → Int32 → Option Int32) (v0 : Int32) (v1 : Int64) (v3 : Int32) : Option Int32 :=
k12 v0 v1 (v3 + (1 : Int32))

def fX2_beginsBase_b12 (k12 : Int32 → Int64 → Int32 → Option Int32) (v0 : Int32) (v1 : Int64) (v3 : Int32) : Option Int32 :=
(if (6 : Int32) ≤ v3 then some (1 : Int32) else
(zL (v0 &&& (((1 : Int32) <<< (v3 &&& 31)) ^^^ (-1 : Int32))) (fun n_25 =>
(if n_25 = v0 then fX2_beginsBase_b44 k12 v0 v1 v3 else
(zB1 (fX2_hasBit v1 n_25) (fun r_36 =>
(if r_36 = 0 then some (0 : Int32) else
fX2_beginsBase_b44 k12 v0 v1 v3)))))))
def fX2_beginsBase_b12L : Nat → Int32 → Int64 → Int32 → Option Int32
  | 0, _, _, _ => none
  | n + 1, v0, v1, v3 => fX2_beginsBase_b12 (fX2_beginsBase_b12L n) v0 v1 v3

def fX2_beginsBase (a0 : Int32) (a1 : Int64) : Option Int32 :=
(zB1 (fX2_hasBit a1 a0) (fun r_2 =>
(if r_2 = 0 then fX2_beginsBase_b12L zF a0 a1 (0 : Int32) else
some (0 : Int32))))
set_option maxHeartbeats 4000000 in
set_option maxRecDepth 100000 in
theorem kX2_beginsBase (l : Launch) (zq : Nat → Nat) (D : va_G) (a0 : Int32) (a1 : Int64) (r : Int32) (hf : fX2_beginsBase a0 a1 = some r) : zMet l yX2_beginsBase wsX2_beginsBase 1 22 zq D [] [] [.int a0, .long a1] (some (.int r)) [] := by
  refine zMet.of cX2_beginsBase 5 (some .boolean) (by decide) rfl (Nat.le_of_ble_eq_true rfl) ?_
  intro p e s m args below meth c A ls C hl hI
  have hl : lv_has ls 5 [(0, .int a0), (1, .long a1)] := hl
  have C : zC p s m args meth c cX2_beginsBase 5 (some .boolean) RX2 wsX2_beginsBase D [] zq A := C
  obtain ⟨hx, hb, hml, hown, hts, hret, hlk, hK, hX, hA⟩ := id C
  obtain ⟨Q, hQ⟩ : ∃ Q, Q = MQ below (zQ D [] [] (some (.int r)) A) args s 0 0 A := ⟨_, rfl⟩
  rw [← hQ]
  have hb44 : ∀ (k12 : Int32 → Int64 → Int32 → Option Int32) (hk12 : ∀ (v0 : Int32) (v1 : Int64) (v3 : Int32) (H : Heap) (locs : List Loc) (ls : Array Slot), k12 v0 v1 v3 = some r → zI D A s H locs [] → lv_has ls 5 [(0, .int v0), (1, .long v1), (3, .int v3)] → W p l e { frames := 1, cells := 0, slots := 0, locals := 22 } s m args below meth c H locs 0 0 Q (F0 m 12 ls [])), ∀ (v0 : Int32) (v1 : Int64) (v3 : Int32) (H : Heap) (locs : List Loc) (ls : Array Slot), fX2_beginsBase_b44 k12 v0 v1 v3 = some r → zI D A s H locs [] → lv_has ls 5 [(0, .int v0), (1, .long v1), (3, .int v3)] → W p l e { frames := 1, cells := 0, slots := 0, locals := 22 } s m args below meth c H locs 0 0 Q (F0 m 44 ls []) := by
    intro k12 hk12 v0 v1 v3 H locs ls hf hI hl
    unfold fX2_beginsBase_b44 at hf
    refine lv_iinc (v := (v3 + (1 : Int32))) (lv' := [(3, .int (v3 + (1 : Int32))), (0, .int v0), (1, .long v1)]) hx hb dX2_beginsBase_44 hl (k := 2) rfl rfl (by decide) rfl (fun ls hl => ?_)
    refine lv_goto (tgt := 12) hx hb dX2_beginsBase_47 (by decide) ?_
    exact hk12 v0 v1 (v3 + (1 : Int32)) _ _ _ hf hI (lv_sub hl [1, 2, 0] rfl)
  have hb12 : ∀ (n : Nat), ∀ (v0 : Int32) (v1 : Int64) (v3 : Int32) (H : Heap) (locs : List Loc) (ls : Array Slot), fX2_beginsBase_b12L n v0 v1 v3 = some r → zI D A s H locs [] → lv_has ls 5 [(0, .int v0), (1, .long v1), (3, .int v3)] → W p l e { frames := 1, cells := 0, slots := 0, locals := 22 } s m args below meth c H locs 0 0 Q (F0 m 12 ls []) := by
    intro n
    induction n with
    | zero => intro v0 v1 v3 H locs ls hf; cases (show (none : Option Int32) = some r from hf)
    | succ n ih =>
      intro v0 v1 v3 H locs ls hf hI hl
      have hf : fX2_beginsBase_b12 (fX2_beginsBase_b12L n) v0 v1 v3 = some r := hf
      unfold fX2_beginsBase_b12 at hf
      refine lv_iload_n hx hb dX2_beginsBase_12 rfl (lv_at hl 2 rfl) ?_
      refine lv_bipush (v := 6) hx hb dX2_beginsBase_13 (by decide) ?_
      refine lv_icmp_ge (tgt := 50) hx hb dX2_beginsBase_15 (by decide) (fun c_15 => ?_) (fun c_15 => ?_)
      · replace hf := zIt c_15 hf
        refine lv_iconst (v := 1) hx hb dX2_beginsBase_50 (by decide) ?_
        have h1 := zP1 hf
        rw [hQ]
        exact z_zret C hI (by rw [h1]) rfl dX2_beginsBase_51
      · replace hf := zIf c_15 hf
        refine lv_iload_n hx hb dX2_beginsBase_18 rfl (lv_at hl 0 rfl) ?_
        refine lv_iconst (v := 1) hx hb dX2_beginsBase_19 (by decide) ?_
        refine lv_iload_n hx hb dX2_beginsBase_20 rfl (lv_at hl 2 rfl) ?_
        refine lv_ishl hx hb dX2_beginsBase_21 ?_
        refine lv_iconst (v := -1) hx hb dX2_beginsBase_22 (by decide) ?_
        refine lv_ixor hx hb dX2_beginsBase_23 ?_
        refine lv_iand hx hb dX2_beginsBase_24 ?_
        refine lv_topi (fun n_25 e_25 => ?_)
        replace hf := zL_s hf e_25
        refine lv_istore (lv' := [(4, .int n_25), (0, .int v0), (1, .long v1), (3, .int v3)]) hx hb dX2_beginsBase_25 hl (by decide) rfl (fun ls hl => ?_)
        refine lv_iload hx hb dX2_beginsBase_27 (lv_at hl 0 rfl) ?_
        refine lv_iload_n hx hb dX2_beginsBase_29 rfl (lv_at hl 1 rfl) ?_
        refine lv_icmp_eq (tgt := 44) hx hb dX2_beginsBase_30 (by decide) (fun c_30 => ?_) (fun c_30 => ?_)
        · replace hf := zIt c_30 hf
          exact hb44 (fX2_beginsBase_b12L n) ih v0 v1 v3 _ _ _ hf hI (lv_sub hl [1, 2, 3] rfl)
        · replace hf := zIf c_30 hf
          refine lv_lload_n hx hb dX2_beginsBase_33 rfl (lv_at hl 2 rfl) ?_
          refine lv_iload hx hb dX2_beginsBase_34 (lv_at hl 0 rfl) ?_
          obtain ⟨r_36, hf_36, hf⟩ := zB1_s hf
          refine z_callS C 2 (kX2_hasBit l zq D v1 n_25 r_36 hf_36) gX2_beginsBase_X2_hasBit rfl (by decide +kernel) ⟨by decide, by decide⟩ hI rfl hl.1 rfl (Nat.le_of_ble_eq_true rfl) dX2_beginsBase_36 ⟨by decide, by decide⟩ (st2 := [.int r_36]) rfl (fun H locs hI => ?_)
          refine lv_if_ne (tgt := 44) hx hb dX2_beginsBase_39 (by decide) (fun c_39 => ?_) (fun c_39 => ?_)
          · replace hf := zIf c_39 hf
            exact hb44 (fX2_beginsBase_b12L n) ih v0 v1 v3 _ _ _ hf hI (lv_sub hl [1, 2, 3] rfl)
          · replace hf := zIt c_39 hf
            refine lv_iconst (v := 0) hx hb dX2_beginsBase_42 (by decide) ?_
            have h1 := zP1 hf
            rw [hQ]
            exact z_zret C hI (by rw [h1]) rfl dX2_beginsBase_43
  unfold fX2_beginsBase at hf
  refine lv_lload_n hx hb dX2_beginsBase_0 rfl (lv_at hl 1 rfl) ?_
  refine lv_iload_n hx hb dX2_beginsBase_1 rfl (lv_at hl 0 rfl) ?_
  obtain ⟨r_2, hf_2, hf⟩ := zB1_s hf
  refine z_callS C 2 (kX2_hasBit l zq D a1 a0 r_2 hf_2) gX2_beginsBase_X2_hasBit rfl (by decide +kernel) ⟨by decide, by decide⟩ hI rfl hl.1 rfl (Nat.le_of_ble_eq_true rfl) dX2_beginsBase_2 ⟨by decide, by decide⟩ (st2 := [.int r_2]) rfl (fun H locs hI => ?_)
  refine lv_if_eq (tgt := 10) hx hb dX2_beginsBase_5 (by decide) (fun c_5 => ?_) (fun c_5 => ?_)
  · replace hf := zIt c_5 hf
    refine lv_iconst (v := 0) hx hb dX2_beginsBase_10 (by decide) ?_
    refine lv_istore_n (lv' := [(3, .int (0 : Int32)), (0, .int a0), (1, .long a1)]) hx hb dX2_beginsBase_11 rfl hl (by decide) rfl (fun ls hl => ?_)
    exact hb12 zF a0 a1 (0 : Int32) _ _ _ hf hI (lv_sub hl [1, 2, 0] rfl)
  · replace hf := zIf c_5 hf
    refine lv_iconst (v := 0) hx hb dX2_beginsBase_8 (by decide) ?_
    have h1 := zP1 hf
    rw [hQ]
    exact z_zret C hI (by rw [h1]) rfl dX2_beginsBase_9

