def fX3_in (a0 : Int32) (a1 : Int32) (a2 : Int32) : Option Int32 :=
(if a0 < a1 then some (0 : Int32) else
(if a2 < a0 then some (0 : Int32) else
some (1 : Int32)))
set_option maxHeartbeats 4000000 in
set_option maxRecDepth 100000 in
theorem kX3_in (l : Launch) (zq : Nat → Nat) (D : va_G) (a0 : Int32) (a1 : Int32) (a2 : Int32) (r : Int32) (hf : fX3_in a0 a1 a2 = some r) : zMet l yX3_in wsX3_in 0 0 zq D [] [] [.int a0, .int a1, .int a2] (some (.int r)) [] := by
  refine zMet.of cX3_in 3 (some .boolean) (by decide) rfl (Nat.le_of_ble_eq_true rfl) ?_
  intro p e s m args below meth c A ls C hl hI
  have hl : lv_has ls 3 [(0, .int a0), (1, .int a1), (2, .int a2)] := hl
  have C : zC p s m args meth c cX3_in 3 (some .boolean) RX3 wsX3_in D [] zq A := C
  obtain ⟨hx, hb, hml, hown, hts, hret, hlk, hK, hX, hA⟩ := id C
  obtain ⟨Q, hQ⟩ : ∃ Q, Q = MQ below (zQ D [] [] (some (.int r)) A) args s 0 0 A := ⟨_, rfl⟩
  rw [← hQ]
  unfold fX3_in at hf
  refine lv_iload_n hx hb dX3_in_0 rfl (lv_at hl 0 rfl) ?_
  refine lv_iload_n hx hb dX3_in_1 rfl (lv_at hl 1 rfl) ?_
  refine lv_icmp_lt (tgt := 14) hx hb dX3_in_2 (by decide) (fun c_2 => ?_) (fun c_2 => ?_)
  · replace hf := zIt c_2 hf
    refine lv_iconst (v := 0) hx hb dX3_in_14 (by decide) ?_
    have h1 := zP1 hf
    rw [hQ]
    exact z_zret C hI (by rw [h1]) rfl dX3_in_15
  · replace hf := zIf c_2 hf
    refine lv_iload_n hx hb dX3_in_5 rfl (lv_at hl 0 rfl) ?_
    refine lv_iload_n hx hb dX3_in_6 rfl (lv_at hl 2 rfl) ?_
    refine lv_icmp_gt (tgt := 14) hx hb dX3_in_7 (by decide) (fun c_7 => ?_) (fun c_7 => ?_)
    · replace hf := zIt c_7 hf
      refine lv_iconst (v := 0) hx hb dX3_in_14 (by decide) ?_
      have h1 := zP1 hf
      rw [hQ]
      exact z_zret C hI (by rw [h1]) rfl dX3_in_15
    · replace hf := zIf c_7 hf
      refine lv_iconst (v := 1) hx hb dX3_in_10 (by decide) ?_
      refine lv_goto (tgt := 15) hx hb dX3_in_11 (by decide) ?_
      have h1 := zP1 hf
      rw [hQ]
      exact z_zret C hI (by rw [h1]) rfl dX3_in_15

def fX3_letters_b4 (k4 : Int32 → Int32 → Int32 → Option Int32) (v0 : Int32) (v1 : Int32) (v2 : Int32) : Option Int32 :=
(if (6 : Int32) ≤ v2 then some v1 else
(zL (v1 + ((v0 >>> (v2 &&& 31)) &&& (1 : Int32))) (fun n_17 =>
k4 v0 n_17 (v2 + (1 : Int32)))))
def fX3_letters_b4L : Nat → Int32 → Int32 → Int32 → Option Int32
  | 0, _, _, _ => none
  | n + 1, v0, v1, v2 => fX3_letters_b4 (fX3_letters_b4L n) v0 v1 v2

def fX3_letters (a0 : Int32) : Option Int32 :=
fX3_letters_b4L zF a0 (0 : Int32) (0 : Int32)
set_option maxHeartbeats 4000000 in
set_option maxRecDepth 100000 in
theorem kX3_letters (l : Launch) (zq : Nat → Nat) (D : va_G) (a0 : Int32) (r : Int32) (hf : fX3_letters a0 = some r) : zMet l yX3_letters wsX3_letters 0 0 zq D [] [] [.int a0] (some (.int r)) [] := by
  refine zMet.of cX3_letters 3 (some .int) (by decide) rfl (Nat.le_of_ble_eq_true rfl) ?_
  intro p e s m args below meth c A ls C hl hI
  have hl : lv_has ls 3 [(0, .int a0)] := hl
  have C : zC p s m args meth c cX3_letters 3 (some .int) RX3 wsX3_letters D [] zq A := C
  obtain ⟨hx, hb, hml, hown, hts, hret, hlk, hK, hX, hA⟩ := id C
  obtain ⟨Q, hQ⟩ : ∃ Q, Q = MQ below (zQ D [] [] (some (.int r)) A) args s 0 0 A := ⟨_, rfl⟩
  rw [← hQ]
  have hb4 : ∀ (n : Nat), ∀ (v0 : Int32) (v1 : Int32) (v2 : Int32) (H : Heap) (locs : List Loc) (ls : Array Slot), fX3_letters_b4L n v0 v1 v2 = some r → zI D A s H locs [] → lv_has ls 3 [(0, .int v0), (1, .int v1), (2, .int v2)] → W p l e { frames := 0, cells := 0, slots := 0, locals := 0 } s m args below meth c H locs 0 0 Q (F0 m 4 ls []) := by
    intro n
    induction n with
    | zero => intro v0 v1 v2 H locs ls hf; cases (show (none : Option Int32) = some r from hf)
    | succ n ih =>
      intro v0 v1 v2 H locs ls hf hI hl
      have hf : fX3_letters_b4 (fX3_letters_b4L n) v0 v1 v2 = some r := hf
      unfold fX3_letters_b4 at hf
      refine lv_iload_n hx hb dX3_letters_4 rfl (lv_at hl 2 rfl) ?_
      refine lv_bipush (v := 6) hx hb dX3_letters_5 (by decide) ?_
      refine lv_icmp_ge (tgt := 24) hx hb dX3_letters_7 (by decide) (fun c_7 => ?_) (fun c_7 => ?_)
      · replace hf := zIt c_7 hf
        refine lv_iload_n hx hb dX3_letters_24 rfl (lv_at hl 1 rfl) ?_
        have h1 := zP1 hf
        rw [hQ]
        exact z_iret C hI (by rw [h1]) dX3_letters_25
      · replace hf := zIf c_7 hf
        refine lv_iload_n hx hb dX3_letters_10 rfl (lv_at hl 1 rfl) ?_
        refine lv_iload_n hx hb dX3_letters_11 rfl (lv_at hl 0 rfl) ?_
        refine lv_iload_n hx hb dX3_letters_12 rfl (lv_at hl 2 rfl) ?_
        refine lv_ishr hx hb dX3_letters_13 ?_
        refine lv_iconst (v := 1) hx hb dX3_letters_14 (by decide) ?_
        refine lv_iand hx hb dX3_letters_15 ?_
        refine lv_iadd hx hb dX3_letters_16 ?_
        refine lv_topi (fun n_17 e_17 => ?_)
        replace hf := zL_s hf e_17
        refine lv_istore_n (lv' := [(1, .int n_17), (0, .int v0), (2, .int v2)]) hx hb dX3_letters_17 rfl hl (by decide) rfl (fun ls hl => ?_)
        refine lv_iinc (v := (v2 + (1 : Int32))) (lv' := [(2, .int (v2 + (1 : Int32))), (1, .int n_17), (0, .int v0)]) hx hb dX3_letters_18 hl (k := 2) rfl rfl (by decide) rfl (fun ls hl => ?_)
        refine lv_goto (tgt := 4) hx hb dX3_letters_21 (by decide) ?_
        exact ih v0 n_17 (v2 + (1 : Int32)) _ _ _ hf hI (lv_sub hl [2, 1, 0] rfl)
  unfold fX3_letters at hf
  refine lv_iconst (v := 0) hx hb dX3_letters_0 (by decide) ?_
  refine lv_istore_n (lv' := [(1, .int (0 : Int32)), (0, .int a0)]) hx hb dX3_letters_1 rfl hl (by decide) rfl (fun ls hl => ?_)
  refine lv_iconst (v := 0) hx hb dX3_letters_2 (by decide) ?_
  refine lv_istore_n (lv' := [(2, .int (0 : Int32)), (1, .int (0 : Int32)), (0, .int a0)]) hx hb dX3_letters_3 rfl hl (by decide) rfl (fun ls hl => ?_)
  exact hb4 zF a0 (0 : Int32) (0 : Int32) _ _ _ hf hI (lv_sub hl [2, 1, 0] rfl)

def fX3_has (a0 : Int64) (a2 : Int32) : Option Int32 :=
(if (lg_cmp ((a0 >>> (a2.toInt64 &&& 63)) &&& (1 : Int64)) (1 : Int64)) = 0 then some (1 : Int32) else
some (0 : Int32))
set_option maxHeartbeats 4000000 in
set_option maxRecDepth 100000 in
theorem kX3_has (l : Launch) (zq : Nat → Nat) (D : va_G) (a0 : Int64) (a2 : Int32) (r : Int32) (hf : fX3_has a0 a2 = some r) : zMet l yX3_has wsX3_has 0 0 zq D [] [] [.long a0, .int a2] (some (.int r)) [] := by
  refine zMet.of cX3_has 3 (some .boolean) (by decide) rfl (Nat.le_of_ble_eq_true rfl) ?_
  intro p e s m args below meth c A ls C hl hI
  have hl : lv_has ls 3 [(0, .long a0), (2, .int a2)] := hl
  have C : zC p s m args meth c cX3_has 3 (some .boolean) RX3 wsX3_has D [] zq A := C
  obtain ⟨hx, hb, hml, hown, hts, hret, hlk, hK, hX, hA⟩ := id C
  obtain ⟨Q, hQ⟩ : ∃ Q, Q = MQ below (zQ D [] [] (some (.int r)) A) args s 0 0 A := ⟨_, rfl⟩
  rw [← hQ]
  unfold fX3_has at hf
  refine lv_lload_n hx hb dX3_has_0 rfl (lv_at hl 0 rfl) ?_
  refine lv_iload_n hx hb dX3_has_1 rfl (lv_at hl 1 rfl) ?_
  refine lv_lshr hx hb dX3_has_2 rfl ?_
  refine lv_lconst (v := 1) hx hb dX3_has_3 (by decide) ?_
  refine lv_land hx hb dX3_has_4 ?_
  refine lv_lconst (v := 1) hx hb dX3_has_5 (by decide) ?_
  refine W.lcmp hx hb dX3_has_6 ?_
  refine lv_if_ne (tgt := 14) hx hb dX3_has_7 (by decide) (fun c_7 => ?_) (fun c_7 => ?_)
  · replace hf := zIf c_7 hf
    refine lv_iconst (v := 0) hx hb dX3_has_14 (by decide) ?_
    have h1 := zP1 hf
    rw [hQ]
    exact z_zret C hI (by rw [h1]) rfl dX3_has_15
  · replace hf := zIt c_7 hf
    refine lv_iconst (v := 1) hx hb dX3_has_10 (by decide) ?_
    refine lv_goto (tgt := 15) hx hb dX3_has_11 (by decide) ?_
    have h1 := zP1 hf
    rw [hQ]
    exact z_zret C hI (by rw [h1]) rfl dX3_has_15

def fX3_many_b24 (k4 : Int64 → Int32 → Int32 → Option Int32) (v0 : Int64) (v3 : Int32) (u0 : Int32) (u1 : Int32) : Option Int32 :=
k4 v0 (u1 + u0) (v3 + (1 : Int32))

def fX3_many_b4 (k4 : Int64 → Int32 → Int32 → Option Int32) (v0 : Int64) (v2 : Int32) (v3 : Int32) : Option Int32 :=
(if (64 : Int32) ≤ v3 then some v2 else
(zB1 (fX3_has v0 v3) (fun r_13 =>
(if r_13 = 0 then fX3_many_b24 k4 v0 v3 (0 : Int32) v2 else
fX3_many_b24 k4 v0 v3 (1 : Int32) v2))))
def fX3_many_b4L : Nat → Int64 → Int32 → Int32 → Option Int32
  | 0, _, _, _ => none
  | n + 1, v0, v2, v3 => fX3_many_b4 (fX3_many_b4L n) v0 v2 v3

def fX3_many (a0 : Int64) : Option Int32 :=
fX3_many_b4L zF a0 (0 : Int32) (0 : Int32)
set_option maxHeartbeats 4000000 in
set_option maxRecDepth 100000 in
theorem kX3_many (l : Launch) (zq : Nat → Nat) (D : va_G) (a0 : Int64) (r : Int32) (hf : fX3_many a0 = some r) : zMet l yX3_many wsX3_many 1 22 zq D [] [] [.long a0] (some (.int r)) [] := by
  refine zMet.of cX3_many 4 (some .int) (by decide) rfl (Nat.le_of_ble_eq_true rfl) ?_
  intro p e s m args below meth c A ls C hl hI
  have hl : lv_has ls 4 [(0, .long a0)] := hl
  have C : zC p s m args meth c cX3_many 4 (some .int) RX3 wsX3_many D [] zq A := C
  obtain ⟨hx, hb, hml, hown, hts, hret, hlk, hK, hX, hA⟩ := id C
  obtain ⟨Q, hQ⟩ : ∃ Q, Q = MQ below (zQ D [] [] (some (.int r)) A) args s 0 0 A := ⟨_, rfl⟩
  rw [← hQ]
  have hb24 : ∀ (k4 : Int64 → Int32 → Int32 → Option Int32) (hk4 : ∀ (v0 : Int64) (v2 : Int32) (v3 : Int32) (H : Heap) (locs : List Loc) (ls : Array Slot), k4 v0 v2 v3 = some r → zI D A s H locs [] → lv_has ls 4 [(0, .long v0), (2, .int v2), (3, .int v3)] → W p l e { frames := 1, cells := 0, slots := 0, locals := 22 } s m args below meth c H locs 0 0 Q (F0 m 4 ls [])), ∀ (v0 : Int64) (v3 : Int32) (u0 : Int32) (u1 : Int32) (H : Heap) (locs : List Loc) (ls : Array Slot), fX3_many_b24 k4 v0 v3 u0 u1 = some r → zI D A s H locs [] → lv_has ls 4 [(0, .long v0), (3, .int v3)] → W p l e { frames := 1, cells := 0, slots := 0, locals := 22 } s m args below meth c H locs 0 0 Q (F0 m 24 ls [.int u0, .int u1]) := by
    intro k4 hk4 v0 v3 u0 u1 H locs ls hf hI hl
    unfold fX3_many_b24 at hf
    refine lv_iadd hx hb dX3_many_24 ?_
    refine lv_istore_n (lv' := [(2, .int (u1 + u0)), (0, .long v0), (3, .int v3)]) hx hb dX3_many_25 rfl hl (by decide) rfl (fun ls hl => ?_)
    refine lv_iinc (v := (v3 + (1 : Int32))) (lv' := [(3, .int (v3 + (1 : Int32))), (2, .int (u1 + u0)), (0, .long v0)]) hx hb dX3_many_26 hl (k := 2) rfl rfl (by decide) rfl (fun ls hl => ?_)
    refine lv_goto (tgt := 4) hx hb dX3_many_29 (by decide) ?_
    exact hk4 v0 (u1 + u0) (v3 + (1 : Int32)) _ _ _ hf hI (lv_sub hl [2, 1, 0] rfl)
  have hb4 : ∀ (n : Nat), ∀ (v0 : Int64) (v2 : Int32) (v3 : Int32) (H : Heap) (locs : List Loc) (ls : Array Slot), fX3_many_b4L n v0 v2 v3 = some r → zI D A s H locs [] → lv_has ls 4 [(0, .long v0), (2, .int v2), (3, .int v3)] → W p l e { frames := 1, cells := 0, slots := 0, locals := 22 } s m args below meth c H locs 0 0 Q (F0 m 4 ls []) := by
    intro n
    induction n with
    | zero => intro v0 v2 v3 H locs ls hf; cases (show (none : Option Int32) = some r from hf)
    | succ n ih =>
      intro v0 v2 v3 H locs ls hf hI hl
      have hf : fX3_many_b4 (fX3_many_b4L n) v0 v2 v3 = some r := hf
      unfold fX3_many_b4 at hf
      refine lv_iload_n hx hb dX3_many_4 rfl (lv_at hl 2 rfl) ?_
      refine lv_bipush (v := 64) hx hb dX3_many_5 (by decide) ?_
      refine lv_icmp_ge (tgt := 32) hx hb dX3_many_7 (by decide) (fun c_7 => ?_) (fun c_7 => ?_)
      · replace hf := zIt c_7 hf
        refine lv_iload_n hx hb dX3_many_32 rfl (lv_at hl 1 rfl) ?_
        have h1 := zP1 hf
        rw [hQ]
        exact z_iret C hI (by rw [h1]) dX3_many_33
      · replace hf := zIf c_7 hf
        refine lv_iload_n hx hb dX3_many_10 rfl (lv_at hl 1 rfl) ?_
        refine lv_lload_n hx hb dX3_many_11 rfl (lv_at hl 0 rfl) ?_
        refine lv_iload_n hx hb dX3_many_12 rfl (lv_at hl 2 rfl) ?_
        obtain ⟨r_13, hf_13, hf⟩ := zB1_s hf
        refine z_callS C 2 (kX3_has l zq D v0 v3 r_13 hf_13) gX3_many_X3_has rfl (by decide +kernel) ⟨by decide, by decide⟩ hI rfl hl.1 rfl (Nat.le_of_ble_eq_true rfl) dX3_many_13 ⟨by decide, by decide⟩ (st2 := [.int r_13, .int v2]) rfl (fun H locs hI => ?_)
        refine lv_if_eq (tgt := 23) hx hb dX3_many_16 (by decide) (fun c_16 => ?_) (fun c_16 => ?_)
        · replace hf := zIt c_16 hf
          refine lv_iconst (v := 0) hx hb dX3_many_23 (by decide) ?_
          exact hb24 (fX3_many_b4L n) ih v0 v3 (0 : Int32) v2 _ _ _ hf hI (lv_sub hl [0, 2] rfl)
        · replace hf := zIf c_16 hf
          refine lv_iconst (v := 1) hx hb dX3_many_19 (by decide) ?_
          refine lv_goto (tgt := 24) hx hb dX3_many_20 (by decide) ?_
          exact hb24 (fX3_many_b4L n) ih v0 v3 (1 : Int32) v2 _ _ _ hf hI (lv_sub hl [0, 2] rfl)
  unfold fX3_many at hf
  refine lv_iconst (v := 0) hx hb dX3_many_0 (by decide) ?_
  refine lv_istore_n (lv' := [(2, .int (0 : Int32)), (0, .long a0)]) hx hb dX3_many_1 rfl hl (by decide) rfl (fun ls hl => ?_)
  refine lv_iconst (v := 0) hx hb dX3_many_2 (by decide) ?_
  refine lv_istore_n (lv' := [(3, .int (0 : Int32)), (2, .int (0 : Int32)), (0, .long a0)]) hx hb dX3_many_3 rfl hl (by decide) rfl (fun ls hl => ?_)
  exact hb4 zF a0 (0 : Int32) (0 : Int32) _ _ _ hf hI (lv_sub hl [2, 1, 0] rfl)

def fX3_values_b51 (k5 : Int64 → Int64 → Int32 → Option Int64) (k18 : Int64 → Int64 → Int32 → Int64 → Int32 → Option Int64) (v0 : Int64) (v2 : Int64) (v4 : Int32) (v7 : Int32) (u0 : Int64) (u1 : Int64) : Option Int64 :=
k18 v0 v2 v4 (u1 + u0) (v7 + (1 : Int32))

def fX3_values_b50 (k5 : Int64 → Int64 → Int32 → Option Int64) (k18 : Int64 → Int64 → Int32 → Int64 → Int32 → Option Int64) (v0 : Int64) (v2 : Int64) (v4 : Int32) (v7 : Int32) (u0 : Int64) : Option Int64 :=
fX3_values_b51 k5 k18 v0 v2 v4 v7 (0 : Int64) u0

def fX3_values_b18 (k5 : Int64 → Int64 → Int32 → Option Int64) (k18 : Int64 → Int64 → Int32 → Int64 → Int32 → Option Int64) (v0 : Int64) (v2 : Int64) (v4 : Int32) (v5 : Int64) (v7 : Int32) : Option Int64 :=
(if (64 : Int32) ≤ v7 then (zL (v2 ||| ((v5 &&& (1 : Int64)) <<< (v4.toInt64 &&& 63))) (fun n_69 =>
k5 v0 n_69 (v4 + (1 : Int32)))) else
(if (v7 &&& (v4 ^^^ (-1 : Int32))) = 0 then (zB1 (fX3_has v0 v7) (fun r_40 =>
(if r_40 = 0 then fX3_values_b50 k5 k18 v0 v2 v4 v7 v5 else
fX3_values_b51 k5 k18 v0 v2 v4 v7 (1 : Int64) v5))) else
fX3_values_b50 k5 k18 v0 v2 v4 v7 v5))
def fX3_values_b18L (k5 : Int64 → Int64 → Int32 → Option Int64) : Nat → Int64 → Int64 → Int32 → Int64 → Int32 → Option Int64
  | 0, _, _, _, _, _ => none
  | n + 1, v0, v2, v4, v5, v7 => fX3_values_b18 k5 (fX3_values_b18L k5 n) v0 v2 v4 v5 v7

def fX3_values_b5 (k5 : Int64 → Int64 → Int32 → Option Int64) (v0 : Int64) (v2 : Int64) (v4 : Int32) : Option Int64 :=
(if (64 : Int32) ≤ v4 then some v2 else
fX3_values_b18L k5 zF v0 v2 v4 (0 : Int64) (0 : Int32))
def fX3_values_b5L : Nat → Int64 → Int64 → Int32 → Option Int64
  | 0, _, _, _ => none
  | n + 1, v0, v2, v4 => fX3_values_b5 (fX3_values_b5L n) v0 v2 v4

def fX3_values (a0 : Int64) : Option Int64 :=
fX3_values_b5L zF a0 (0 : Int64) (0 : Int32)
set_option maxHeartbeats 4000000 in
set_option maxRecDepth 100000 in
theorem kX3_values (l : Launch) (zq : Nat → Nat) (D : va_G) (a0 : Int64) (r : Int64) (hf : fX3_values a0 = some r) : zMet l yX3_values wsX3_values 1 22 zq D [] [] [.long a0] (some (.long r)) [] := by
  refine zMet.of cX3_values 8 (some .long) (by decide) rfl (Nat.le_of_ble_eq_true rfl) ?_
  intro p e s m args below meth c A ls C hl hI
  have hl : lv_has ls 8 [(0, .long a0)] := hl
  have C : zC p s m args meth c cX3_values 8 (some .long) RX3 wsX3_values D [] zq A := C
  obtain ⟨hx, hb, hml, hown, hts, hret, hlk, hK, hX, hA⟩ := id C
  obtain ⟨Q, hQ⟩ : ∃ Q, Q = MQ below (zQ D [] [] (some (.long r)) A) args s 0 0 A := ⟨_, rfl⟩
  rw [← hQ]
  have hb51 : ∀ (k5 : Int64 → Int64 → Int32 → Option Int64) (hk5 : ∀ (v0 : Int64) (v2 : Int64) (v4 : Int32) (H : Heap) (locs : List Loc) (ls : Array Slot), k5 v0 v2 v4 = some r → zI D A s H locs [] → lv_has ls 8 [(0, .long v0), (2, .long v2), (4, .int v4)] → W p l e { frames := 1, cells := 0, slots := 0, locals := 22 } s m args below meth c H locs 0 0 Q (F0 m 5 ls [])) (k18 : Int64 → Int64 → Int32 → Int64 → Int32 → Option Int64) (hk18 : ∀ (v0 : Int64) (v2 : Int64) (v4 : Int32) (v5 : Int64) (v7 : Int32) (H : Heap) (locs : List Loc) (ls : Array Slot), k18 v0 v2 v4 v5 v7 = some r → zI D A s H locs [] → lv_has ls 8 [(0, .long v0), (2, .long v2), (4, .int v4), (5, .long v5), (7, .int v7)] → W p l e { frames := 1, cells := 0, slots := 0, locals := 22 } s m args below meth c H locs 0 0 Q (F0 m 18 ls [])), ∀ (v0 : Int64) (v2 : Int64) (v4 : Int32) (v7 : Int32) (u0 : Int64) (u1 : Int64) (H : Heap) (locs : List Loc) (ls : Array Slot), fX3_values_b51 k5 k18 v0 v2 v4 v7 u0 u1 = some r → zI D A s H locs [] → lv_has ls 8 [(0, .long v0), (2, .long v2), (4, .int v4), (7, .int v7)] → W p l e { frames := 1, cells := 0, slots := 0, locals := 22 } s m args below meth c H locs 0 0 Q (F0 m 51 ls [.long u0, .long u1]) := by
    intro k5 hk5 k18 hk18 v0 v2 v4 v7 u0 u1 H locs ls hf hI hl
    unfold fX3_values_b51 at hf
    refine lv_ladd hx hb dX3_values_51 ?_
    refine lv_lstore (lv' := [(5, .long (u1 + u0)), (0, .long v0), (2, .long v2), (4, .int v4), (7, .int v7)]) hx hb dX3_values_52 hl (by decide) rfl (fun ls hl => ?_)
    refine lv_iinc (v := (v7 + (1 : Int32))) (lv' := [(7, .int (v7 + (1 : Int32))), (5, .long (u1 + u0)), (0, .long v0), (2, .long v2), (4, .int v4)]) hx hb dX3_values_54 hl (k := 4) rfl rfl (by decide) rfl (fun ls hl => ?_)
    refine lv_goto (tgt := 18) hx hb dX3_values_57 (by decide) ?_
    exact hk18 v0 v2 v4 (u1 + u0) (v7 + (1 : Int32)) _ _ _ hf hI (lv_sub hl [2, 3, 4, 1, 0] rfl)
  have hb50 : ∀ (k5 : Int64 → Int64 → Int32 → Option Int64) (hk5 : ∀ (v0 : Int64) (v2 : Int64) (v4 : Int32) (H : Heap) (locs : List Loc) (ls : Array Slot), k5 v0 v2 v4 = some r → zI D A s H locs [] → lv_has ls 8 [(0, .long v0), (2, .long v2), (4, .int v4)] → W p l e { frames := 1, cells := 0, slots := 0, locals := 22 } s m args below meth c H locs 0 0 Q (F0 m 5 ls [])) (k18 : Int64 → Int64 → Int32 → Int64 → Int32 → Option Int64) (hk18 : ∀ (v0 : Int64) (v2 : Int64) (v4 : Int32) (v5 : Int64) (v7 : Int32) (H : Heap) (locs : List Loc) (ls : Array Slot), k18 v0 v2 v4 v5 v7 = some r → zI D A s H locs [] → lv_has ls 8 [(0, .long v0), (2, .long v2), (4, .int v4), (5, .long v5), (7, .int v7)] → W p l e { frames := 1, cells := 0, slots := 0, locals := 22 } s m args below meth c H locs 0 0 Q (F0 m 18 ls [])), ∀ (v0 : Int64) (v2 : Int64) (v4 : Int32) (v7 : Int32) (u0 : Int64) (H : Heap) (locs : List Loc) (ls : Array Slot), fX3_values_b50 k5 k18 v0 v2 v4 v7 u0 = some r → zI D A s H locs [] → lv_has ls 8 [(0, .long v0), (2, .long v2), (4, .int v4), (7, .int v7)] → W p l e { frames := 1, cells := 0, slots := 0, locals := 22 } s m args below meth c H locs 0 0 Q (F0 m 50 ls [.long u0]) := by
    intro k5 hk5 k18 hk18 v0 v2 v4 v7 u0 H locs ls hf hI hl
    unfold fX3_values_b50 at hf
    refine lv_lconst (v := 0) hx hb dX3_values_50 (by decide) ?_
    exact hb51 k5 hk5 k18 hk18 v0 v2 v4 v7 (0 : Int64) u0 _ _ _ hf hI (lv_sub hl [0, 1, 2, 3] rfl)
  have hb18 : ∀ (k5 : Int64 → Int64 → Int32 → Option Int64) (hk5 : ∀ (v0 : Int64) (v2 : Int64) (v4 : Int32) (H : Heap) (locs : List Loc) (ls : Array Slot), k5 v0 v2 v4 = some r → zI D A s H locs [] → lv_has ls 8 [(0, .long v0), (2, .long v2), (4, .int v4)] → W p l e { frames := 1, cells := 0, slots := 0, locals := 22 } s m args below meth c H locs 0 0 Q (F0 m 5 ls [])) (n : Nat), ∀ (v0 : Int64) (v2 : Int64) (v4 : Int32) (v5 : Int64) (v7 : Int32) (H : Heap) (locs : List Loc) (ls : Array Slot), fX3_values_b18L k5 n v0 v2 v4 v5 v7 = some r → zI D A s H locs [] → lv_has ls 8 [(0, .long v0), (2, .long v2), (4, .int v4), (5, .long v5), (7, .int v7)] → W p l e { frames := 1, cells := 0, slots := 0, locals := 22 } s m args below meth c H locs 0 0 Q (F0 m 18 ls []) := by
    intro k5 hk5 n
    induction n with
    | zero => intro v0 v2 v4 v5 v7 H locs ls hf; cases (show (none : Option Int64) = some r from hf)
    | succ n ih =>
      intro v0 v2 v4 v5 v7 H locs ls hf hI hl
      have hf : fX3_values_b18 k5 (fX3_values_b18L k5 n) v0 v2 v4 v5 v7 = some r := hf
      unfold fX3_values_b18 at hf
      refine lv_iload hx hb dX3_values_18 (lv_at hl 4 rfl) ?_
      refine lv_bipush (v := 64) hx hb dX3_values_20 (by decide) ?_
      refine lv_icmp_ge (tgt := 60) hx hb dX3_values_22 (by decide) (fun c_22 => ?_) (fun c_22 => ?_)
      · replace hf := zIt c_22 hf
        refine lv_lload_n hx hb dX3_values_60 rfl (lv_at hl 1 rfl) ?_
        refine lv_lload hx hb dX3_values_61 (lv_at hl 3 rfl) ?_
        refine lv_lconst (v := 1) hx hb dX3_values_63 (by decide) ?_
        refine lv_land hx hb dX3_values_64 ?_
        refine lv_iload hx hb dX3_values_65 (lv_at hl 2 rfl) ?_
        refine lv_lshl hx hb dX3_values_67 rfl ?_
        refine lv_lor hx hb dX3_values_68 ?_
        refine lv_topl (fun n_69 e_69 => ?_)
        replace hf := zL_s hf e_69
        refine lv_lstore_n (lv' := [(2, .long n_69), (0, .long v0), (4, .int v4), (5, .long v5), (7, .int v7)]) hx hb dX3_values_69 rfl hl (by decide) rfl (fun ls hl => ?_)
        refine lv_iinc (v := (v4 + (1 : Int32))) (lv' := [(4, .int (v4 + (1 : Int32))), (2, .long n_69), (0, .long v0), (5, .long v5), (7, .int v7)]) hx hb dX3_values_70 hl (k := 2) rfl rfl (by decide) rfl (fun ls hl => ?_)
        refine lv_goto (tgt := 5) hx hb dX3_values_73 (by decide) ?_
        exact hk5 v0 n_69 (v4 + (1 : Int32)) _ _ _ hf hI (lv_sub hl [2, 1, 0] rfl)
      · replace hf := zIf c_22 hf
        refine lv_lload hx hb dX3_values_25 (lv_at hl 3 rfl) ?_
        refine lv_iload hx hb dX3_values_27 (lv_at hl 4 rfl) ?_
        refine lv_iload hx hb dX3_values_29 (lv_at hl 2 rfl) ?_
        refine lv_iconst (v := -1) hx hb dX3_values_31 (by decide) ?_
        refine lv_ixor hx hb dX3_values_32 ?_
        refine lv_iand hx hb dX3_values_33 ?_
        refine lv_if_ne (tgt := 50) hx hb dX3_values_34 (by decide) (fun c_34 => ?_) (fun c_34 => ?_)
        · replace hf := zIf c_34 hf
          exact hb50 k5 hk5 (fX3_values_b18L k5 n) ih v0 v2 v4 v7 v5 _ _ _ hf hI (lv_sub hl [0, 1, 2, 4] rfl)
        · replace hf := zIt c_34 hf
          refine lv_lload_n hx hb dX3_values_37 rfl (lv_at hl 0 rfl) ?_
          refine lv_iload hx hb dX3_values_38 (lv_at hl 4 rfl) ?_
          obtain ⟨r_40, hf_40, hf⟩ := zB1_s hf
          refine z_callS C 2 (kX3_has l zq D v0 v7 r_40 hf_40) gX3_values_X3_has rfl (by decide +kernel) ⟨by decide, by decide⟩ hI rfl hl.1 rfl (Nat.le_of_ble_eq_true rfl) dX3_values_40 ⟨by decide, by decide⟩ (st2 := [.int r_40, .long v5]) rfl (fun H locs hI => ?_)
          refine lv_if_eq (tgt := 50) hx hb dX3_values_43 (by decide) (fun c_43 => ?_) (fun c_43 => ?_)
          · replace hf := zIt c_43 hf
            exact hb50 k5 hk5 (fX3_values_b18L k5 n) ih v0 v2 v4 v7 v5 _ _ _ hf hI (lv_sub hl [0, 1, 2, 4] rfl)
          · replace hf := zIf c_43 hf
            refine lv_lconst (v := 1) hx hb dX3_values_46 (by decide) ?_
            refine lv_goto (tgt := 51) hx hb dX3_values_47 (by decide) ?_
            exact hb51 k5 hk5 (fX3_values_b18L k5 n) ih v0 v2 v4 v7 (1 : Int64) v5 _ _ _ hf hI (lv_sub hl [0, 1, 2, 4] rfl)
  have hb5 : ∀ (n : Nat), ∀ (v0 : Int64) (v2 : Int64) (v4 : Int32) (H : Heap) (locs : List Loc) (ls : Array Slot), fX3_values_b5L n v0 v2 v4 = some r → zI D A s H locs [] → lv_has ls 8 [(0, .long v0), (2, .long v2), (4, .int v4)] → W p l e { frames := 1, cells := 0, slots := 0, locals := 22 } s m args below meth c H locs 0 0 Q (F0 m 5 ls []) := by
    intro n
    induction n with
    | zero => intro v0 v2 v4 H locs ls hf; cases (show (none : Option Int64) = some r from hf)
    | succ n ih =>
      intro v0 v2 v4 H locs ls hf hI hl
      have hf : fX3_values_b5 (fX3_values_b5L n) v0 v2 v4 = some r := hf
      unfold fX3_values_b5 at hf
      refine lv_iload hx hb dX3_values_5 (lv_at hl 2 rfl) ?_
      refine lv_bipush (v := 64) hx hb dX3_values_7 (by decide) ?_
      refine lv_icmp_ge (tgt := 76) hx hb dX3_values_9 (by decide) (fun c_9 => ?_) (fun c_9 => ?_)
      · replace hf := zIt c_9 hf
        refine lv_lload_n hx hb dX3_values_76 rfl (lv_at hl 1 rfl) ?_
        have h1 := zP1 hf
        rw [hQ]
        exact z_lret C hI (by rw [h1]) dX3_values_77
      · replace hf := zIf c_9 hf
        refine lv_lconst (v := 0) hx hb dX3_values_12 (by decide) ?_
        refine lv_lstore (lv' := [(5, .long (0 : Int64)), (0, .long v0), (2, .long v2), (4, .int v4)]) hx hb dX3_values_13 hl (by decide) rfl (fun ls hl => ?_)
        refine lv_iconst (v := 0) hx hb dX3_values_15 (by decide) ?_
        refine lv_istore (lv' := [(7, .int (0 : Int32)), (5, .long (0 : Int64)), (0, .long v0), (2, .long v2), (4, .int v4)]) hx hb dX3_values_16 hl (by decide) rfl (fun ls hl => ?_)
        exact hb18 (fX3_values_b5L n) ih zF v0 v2 v4 (0 : Int64) (0 : Int32) _ _ _ hf hI (lv_sub hl [2, 3, 4, 1, 0] rfl)
  unfold fX3_values at hf
  refine lv_lconst (v := 0) hx hb dX3_values_0 (by decide) ?_
  refine lv_lstore_n (lv' := [(2, .long (0 : Int64)), (0, .long a0)]) hx hb dX3_values_1 rfl hl (by decide) rfl (fun ls hl => ?_)
  refine lv_iconst (v := 0) hx hb dX3_values_2 (by decide) ?_
  refine lv_istore (lv' := [(4, .int (0 : Int32)), (2, .long (0 : Int64)), (0, .long a0)]) hx hb dX3_values_3 hl (by decide) rfl (fun ls hl => ?_)
  exact hb5 zF a0 (0 : Int64) (0 : Int32) _ _ _ hf hI (lv_sub hl [2, 1, 0] rfl)

def fX3_raised_b32 (k5 : Int64 → Int32 → Int64 → Int32 → Option Int64) (v0 : Int64) (v2 : Int32) (v5 : Int32) (u0 : Int64) (u1 : Int64) : Option Int64 :=
k5 v0 v2 (u1 ^^^ u0) (v5 + (1 : Int32))

def fX3_raised_b5 (k5 : Int64 → Int32 → Int64 → Int32 → Option Int64) (v0 : Int64) (v2 : Int32) (v3 : Int64) (v5 : Int32) : Option Int64 :=
(if (64 : Int32) ≤ v5 then some v3 else
(zB1 (fX3_has v0 v5) (fun r_16 =>
(if r_16 = 0 then fX3_raised_b32 k5 v0 v2 v5 (0 : Int64) v3 else
fX3_raised_b32 k5 v0 v2 v5 ((1 : Int64) <<< ((v5 ||| v2).toInt64 &&& 63)) v3))))
def fX3_raised_b5L : Nat → Int64 → Int32 → Int64 → Int32 → Option Int64
  | 0, _, _, _, _ => none
  | n + 1, v0, v2, v3, v5 => fX3_raised_b5 (fX3_raised_b5L n) v0 v2 v3 v5

def fX3_raised (a0 : Int64) (a2 : Int32) : Option Int64 :=
fX3_raised_b5L zF a0 a2 (0 : Int64) (0 : Int32)
set_option maxHeartbeats 4000000 in
set_option maxRecDepth 100000 in
theorem kX3_raised (l : Launch) (zq : Nat → Nat) (D : va_G) (a0 : Int64) (a2 : Int32) (r : Int64) (hf : fX3_raised a0 a2 = some r) : zMet l yX3_raised wsX3_raised 1 22 zq D [] [] [.long a0, .int a2] (some (.long r)) [] := by
  refine zMet.of cX3_raised 6 (some .long) (by decide) rfl (Nat.le_of_ble_eq_true rfl) ?_
  intro p e s m args below meth c A ls C hl hI
  have hl : lv_has ls 6 [(0, .long a0), (2, .int a2)] := hl
  have C : zC p s m args meth c cX3_raised 6 (some .long) RX3 wsX3_raised D [] zq A := C
  obtain ⟨hx, hb, hml, hown, hts, hret, hlk, hK, hX, hA⟩ := id C
  obtain ⟨Q, hQ⟩ : ∃ Q, Q = MQ below (zQ D [] [] (some (.long r)) A) args s 0 0 A := ⟨_, rfl⟩
  rw [← hQ]
  have hb32 : ∀ (k5 : Int64 → Int32 → Int64 → Int32 → Option Int64) (hk5 : ∀ (v0 : Int64) (v2 : Int32) (v3 : Int64) (v5 : Int32) (H : Heap) (locs : List Loc) (ls : Array Slot), k5 v0 v2 v3 v5 = some r → zI D A s H locs [] → lv_has ls 6 [(0, .long v0), (2, .int v2), (3, .long v3), (5, .int v5)] → W p l e { frames := 1, cells := 0, slots := 0, locals := 22 } s m args below meth c H locs 0 0 Q (F0 m 5 ls [])), ∀ (v0 : Int64) (v2 : Int32) (v5 : Int32) (u0 : Int64) (u1 : Int64) (H : Heap) (locs : List Loc) (ls : Array Slot), fX3_raised_b32 k5 v0 v2 v5 u0 u1 = some r → zI D A s H locs [] → lv_has ls 6 [(0, .long v0), (2, .int v2), (5, .int v5)] → W p l e { frames := 1, cells := 0, slots := 0, locals := 22 } s m args below meth c H locs 0 0 Q (F0 m 32 ls [.long u0, .long u1]) := by
    intro k5 hk5 v0 v2 v5 u0 u1 H locs ls hf hI hl
    unfold fX3_raised_b32 at hf
    refine lv_lxor hx hb dX3_raised_32 ?_
    refine lv_lstore_n (lv' := [(3, .long (u1 ^^^ u0)), (0, .long v0), (2, .int v2), (5, .int v5)]) hx hb dX3_raised_33 rfl hl (by decide) rfl (fun ls hl => ?_)
    refine lv_iinc (v := (v5 + (1 : Int32))) (lv' := [(5, .int (v5 + (1 : Int32))), (3, .long (u1 ^^^ u0)), (0, .long v0), (2, .int v2)]) hx hb dX3_raised_34 hl (k := 3) rfl rfl (by decide) rfl (fun ls hl => ?_)
    refine lv_goto (tgt := 5) hx hb dX3_raised_37 (by decide) ?_
    exact hk5 v0 v2 (u1 ^^^ u0) (v5 + (1 : Int32)) _ _ _ hf hI (lv_sub hl [2, 3, 1, 0] rfl)
  have hb5 : ∀ (n : Nat), ∀ (v0 : Int64) (v2 : Int32) (v3 : Int64) (v5 : Int32) (H : Heap) (locs : List Loc) (ls : Array Slot), fX3_raised_b5L n v0 v2 v3 v5 = some r → zI D A s H locs [] → lv_has ls 6 [(0, .long v0), (2, .int v2), (3, .long v3), (5, .int v5)] → W p l e { frames := 1, cells := 0, slots := 0, locals := 22 } s m args below meth c H locs 0 0 Q (F0 m 5 ls []) := by
    intro n
    induction n with
    | zero => intro v0 v2 v3 v5 H locs ls hf; cases (show (none : Option Int64) = some r from hf)
    | succ n ih =>
      intro v0 v2 v3 v5 H locs ls hf hI hl
      have hf : fX3_raised_b5 (fX3_raised_b5L n) v0 v2 v3 v5 = some r := hf
      unfold fX3_raised_b5 at hf
      refine lv_iload hx hb dX3_raised_5 (lv_at hl 3 rfl) ?_
      refine lv_bipush (v := 64) hx hb dX3_raised_7 (by decide) ?_
      refine lv_icmp_ge (tgt := 40) hx hb dX3_raised_9 (by decide) (fun c_9 => ?_) (fun c_9 => ?_)
      · replace hf := zIt c_9 hf
        refine lv_lload_n hx hb dX3_raised_40 rfl (lv_at hl 2 rfl) ?_
        have h1 := zP1 hf
        rw [hQ]
        exact z_lret C hI (by rw [h1]) dX3_raised_41
      · replace hf := zIf c_9 hf
        refine lv_lload_n hx hb dX3_raised_12 rfl (lv_at hl 2 rfl) ?_
        refine lv_lload_n hx hb dX3_raised_13 rfl (lv_at hl 0 rfl) ?_
        refine lv_iload hx hb dX3_raised_14 (lv_at hl 3 rfl) ?_
        obtain ⟨r_16, hf_16, hf⟩ := zB1_s hf
        refine z_callS C 2 (kX3_has l zq D v0 v5 r_16 hf_16) gX3_raised_X3_has rfl (by decide +kernel) ⟨by decide, by decide⟩ hI rfl hl.1 rfl (Nat.le_of_ble_eq_true rfl) dX3_raised_16 ⟨by decide, by decide⟩ (st2 := [.int r_16, .long v3]) rfl (fun H locs hI => ?_)
        refine lv_if_eq (tgt := 31) hx hb dX3_raised_19 (by decide) (fun c_19 => ?_) (fun c_19 => ?_)
        · replace hf := zIt c_19 hf
          refine lv_lconst (v := 0) hx hb dX3_raised_31 (by decide) ?_
          exact hb32 (fX3_raised_b5L n) ih v0 v2 v5 (0 : Int64) v3 _ _ _ hf hI (lv_sub hl [0, 1, 3] rfl)
        · replace hf := zIf c_19 hf
          refine lv_lconst (v := 1) hx hb dX3_raised_22 (by decide) ?_
          refine lv_iload hx hb dX3_raised_23 (lv_at hl 3 rfl) ?_
          refine lv_iload_n hx hb dX3_raised_25 rfl (lv_at hl 1 rfl) ?_
          refine lv_ior hx hb dX3_raised_26 ?_
          refine lv_lshl hx hb dX3_raised_27 rfl ?_
          refine lv_goto (tgt := 32) hx hb dX3_raised_28 (by decide) ?_
          exact hb32 (fX3_raised_b5L n) ih v0 v2 v5 ((1 : Int64) <<< ((v5 ||| v2).toInt64 &&& 63)) v3 _ _ _ hf hI (lv_sub hl [0, 1, 3] rfl)
  unfold fX3_raised at hf
  refine lv_lconst (v := 0) hx hb dX3_raised_0 (by decide) ?_
  refine lv_lstore_n (lv' := [(3, .long (0 : Int64)), (0, .long a0), (2, .int a2)]) hx hb dX3_raised_1 rfl hl (by decide) rfl (fun ls hl => ?_)
  refine lv_iconst (v := 0) hx hb dX3_raised_2 (by decide) ?_
  refine lv_istore (lv' := [(5, .int (0 : Int32)), (3, .long (0 : Int64)), (0, .long a0), (2, .int a2)]) hx hb dX3_raised_3 hl (by decide) rfl (fun ls hl => ?_)
  exact hb5 zF a0 a2 (0 : Int64) (0 : Int32) _ _ _ hf hI (lv_sub hl [2, 3, 1, 0] rfl)

def fX3_multiplied_b34 (k6 : Int64 → Int64 → Int64 → Int32 → Option Int64) (v0 : Int64) (v2 : Int64) (v6 : Int32) (u0 : Int64) (u1 : Int64) : Option Int64 :=
k6 v0 v2 (u1 ^^^ u0) (v6 + (1 : Int32))

def fX3_multiplied_b6 (k6 : Int64 → Int64 → Int64 → Int32 → Option Int64) (v0 : Int64) (v2 : Int64) (v4 : Int64) (v6 : Int32) : Option Int64 :=
(if (64 : Int32) ≤ v6 then some v4 else
(zB1 (fX3_has v2 v6) (fun r_18 =>
(if r_18 = 0 then fX3_multiplied_b34 k6 v0 v2 v6 (0 : Int64) v4 else
(zB1 (fX3_raised v0 v6) (fun r_27 =>
fX3_multiplied_b34 k6 v0 v2 v6 r_27 v4))))))
def fX3_multiplied_b6L : Nat → Int64 → Int64 → Int64 → Int32 → Option Int64
  | 0, _, _, _, _ => none
  | n + 1, v0, v2, v4, v6 => fX3_multiplied_b6 (fX3_multiplied_b6L n) v0 v2 v4 v6

def fX3_multiplied (a0 : Int64) (a2 : Int64) : Option Int64 :=
fX3_multiplied_b6L zF a0 a2 (0 : Int64) (0 : Int32)
set_option maxHeartbeats 4000000 in
set_option maxRecDepth 100000 in
theorem kX3_multiplied (l : Launch) (zq : Nat → Nat) (D : va_G) (a0 : Int64) (a2 : Int64) (r : Int64) (hf : fX3_multiplied a0 a2 = some r) : zMet l yX3_multiplied wsX3_multiplied 2 47 zq D [] [] [.long a0, .long a2] (some (.long r)) [] := by
  refine zMet.of cX3_multiplied 7 (some .long) (by decide) rfl (Nat.le_of_ble_eq_true rfl) ?_
  intro p e s m args below meth c A ls C hl hI
  have hl : lv_has ls 7 [(0, .long a0), (2, .long a2)] := hl
  have C : zC p s m args meth c cX3_multiplied 7 (some .long) RX3 wsX3_multiplied D [] zq A := C
  obtain ⟨hx, hb, hml, hown, hts, hret, hlk, hK, hX, hA⟩ := id C
  obtain ⟨Q, hQ⟩ : ∃ Q, Q = MQ below (zQ D [] [] (some (.long r)) A) args s 0 0 A := ⟨_, rfl⟩
  rw [← hQ]
  have hb34 : ∀ (k6 : Int64 → Int64 → Int64 → Int32 → Option Int64) (hk6 : ∀ (v0 : Int64) (v2 : Int64) (v4 : Int64) (v6 : Int32) (H : Heap) (locs : List Loc) (ls : Array Slot), k6 v0 v2 v4 v6 = some r → zI D A s H locs [] → lv_has ls 7 [(0, .long v0), (2, .long v2), (4, .long v4), (6, .int v6)] → W p l e { frames := 2, cells := 0, slots := 0, locals := 47 } s m args below meth c H locs 0 0 Q (F0 m 6 ls [])), ∀ (v0 : Int64) (v2 : Int64) (v6 : Int32) (u0 : Int64) (u1 : Int64) (H : Heap) (locs : List Loc) (ls : Array Slot), fX3_multiplied_b34 k6 v0 v2 v6 u0 u1 = some r → zI D A s H locs [] → lv_has ls 7 [(0, .long v0), (2, .long v2), (6, .int v6)] → W p l e { frames := 2, cells := 0, slots := 0, locals := 47 } s m args below meth c H locs 0 0 Q (F0 m 34 ls [.long u0, .long u1]) := by
    intro k6 hk6 v0 v2 v6 u0 u1 H locs ls hf hI hl
    unfold fX3_multiplied_b34 at hf
    refine lv_lxor hx hb dX3_multiplied_34 ?_
    refine lv_lstore (lv' := [(4, .long (u1 ^^^ u0)), (0, .long v0), (2, .long v2), (6, .int v6)]) hx hb dX3_multiplied_35 hl (by decide) rfl (fun ls hl => ?_)
    refine lv_iinc (v := (v6 + (1 : Int32))) (lv' := [(6, .int (v6 + (1 : Int32))), (4, .long (u1 ^^^ u0)), (0, .long v0), (2, .long v2)]) hx hb dX3_multiplied_37 hl (k := 3) rfl rfl (by decide) rfl (fun ls hl => ?_)
    refine lv_goto (tgt := 6) hx hb dX3_multiplied_40 (by decide) ?_
    exact hk6 v0 v2 (u1 ^^^ u0) (v6 + (1 : Int32)) _ _ _ hf hI (lv_sub hl [2, 3, 1, 0] rfl)
  have hb6 : ∀ (n : Nat), ∀ (v0 : Int64) (v2 : Int64) (v4 : Int64) (v6 : Int32) (H : Heap) (locs : List Loc) (ls : Array Slot), fX3_multiplied_b6L n v0 v2 v4 v6 = some r → zI D A s H locs [] → lv_has ls 7 [(0, .long v0), (2, .long v2), (4, .long v4), (6, .int v6)] → W p l e { frames := 2, cells := 0, slots := 0, locals := 47 } s m args below meth c H locs 0 0 Q (F0 m 6 ls []) := by
    intro n
    induction n with
    | zero => intro v0 v2 v4 v6 H locs ls hf; cases (show (none : Option Int64) = some r from hf)
    | succ n ih =>
      intro v0 v2 v4 v6 H locs ls hf hI hl
      have hf : fX3_multiplied_b6 (fX3_multiplied_b6L n) v0 v2 v4 v6 = some r := hf
      unfold fX3_multiplied_b6 at hf
      refine lv_iload hx hb dX3_multiplied_6 (lv_at hl 3 rfl) ?_
      refine lv_bipush (v := 64) hx hb dX3_multiplied_8 (by decide) ?_
      refine lv_icmp_ge (tgt := 43) hx hb dX3_multiplied_10 (by decide) (fun c_10 => ?_) (fun c_10 => ?_)
      · replace hf := zIt c_10 hf
        refine lv_lload hx hb dX3_multiplied_43 (lv_at hl 2 rfl) ?_
        have h1 := zP1 hf
        rw [hQ]
        exact z_lret C hI (by rw [h1]) dX3_multiplied_45
      · replace hf := zIf c_10 hf
        refine lv_lload hx hb dX3_multiplied_13 (lv_at hl 2 rfl) ?_
        refine lv_lload_n hx hb dX3_multiplied_15 rfl (lv_at hl 1 rfl) ?_
        refine lv_iload hx hb dX3_multiplied_16 (lv_at hl 3 rfl) ?_
        obtain ⟨r_18, hf_18, hf⟩ := zB1_s hf
        refine z_callS C 2 (kX3_has l zq D v2 v6 r_18 hf_18) gX3_multiplied_X3_has rfl (by decide +kernel) ⟨by decide, by decide⟩ hI rfl hl.1 rfl (Nat.le_of_ble_eq_true rfl) dX3_multiplied_18 ⟨by decide, by decide⟩ (st2 := [.int r_18, .long v4]) rfl (fun H locs hI => ?_)
        refine lv_if_eq (tgt := 33) hx hb dX3_multiplied_21 (by decide) (fun c_21 => ?_) (fun c_21 => ?_)
        · replace hf := zIt c_21 hf
          refine lv_lconst (v := 0) hx hb dX3_multiplied_33 (by decide) ?_
          exact hb34 (fX3_multiplied_b6L n) ih v0 v2 v6 (0 : Int64) v4 _ _ _ hf hI (lv_sub hl [0, 1, 3] rfl)
        · replace hf := zIf c_21 hf
          refine lv_lload_n hx hb dX3_multiplied_24 rfl (lv_at hl 0 rfl) ?_
          refine lv_iload hx hb dX3_multiplied_25 (lv_at hl 3 rfl) ?_
          obtain ⟨r_27, hf_27, hf⟩ := zB1_s hf
          refine z_callS C 2 (kX3_raised l zq D v0 v6 r_27 hf_27) gX3_multiplied_X3_raised rfl (by decide +kernel) ⟨by decide, by decide⟩ hI rfl hl.1 rfl (Nat.le_of_ble_eq_true rfl) dX3_multiplied_27 ⟨by decide, by decide⟩ (st2 := [.long r_27, .long v4]) rfl (fun H locs hI => ?_)
          refine lv_goto (tgt := 34) hx hb dX3_multiplied_30 (by decide) ?_
          exact hb34 (fX3_multiplied_b6L n) ih v0 v2 v6 r_27 v4 _ _ _ hf hI (lv_sub hl [0, 1, 3] rfl)
  unfold fX3_multiplied at hf
  refine lv_lconst (v := 0) hx hb dX3_multiplied_0 (by decide) ?_
  refine lv_lstore (lv' := [(4, .long (0 : Int64)), (0, .long a0), (2, .long a2)]) hx hb dX3_multiplied_1 hl (by decide) rfl (fun ls hl => ?_)
  refine lv_iconst (v := 0) hx hb dX3_multiplied_3 (by decide) ?_
  refine lv_istore (lv' := [(6, .int (0 : Int32)), (4, .long (0 : Int64)), (0, .long a0), (2, .long a2)]) hx hb dX3_multiplied_4 hl (by decide) rfl (fun ls hl => ?_)
  exact hb6 zF a0 a2 (0 : Int64) (0 : Int32) _ _ _ hf hI (lv_sub hl [2, 3, 1, 0] rfl)

def fX3_leadOf_b38 (k6 : Int64 → Int32 → Int32 → MS → Option (Int32 × MS)) (v1 : Int64) (v4 : Int32) (u0 : Int32) (S : MS) : Option (Int32 × MS) :=
k6 v1 u0 (v4 + (1 : Int32)) S

def fX3_leadOf_b6 (k6 : Int64 → Int32 → Int32 → MS → Option (Int32 × MS)) (v1 : Int64) (v3 : Int32) (v4 : Int32) (S : MS) : Option (Int32 × MS) :=
(if (64 : Int32) ≤ v4 then some (v3, S) else
(zGI v4 64
((zB1 (fX3_has v1 ((m_order S) v4.toNatClampNeg)) (fun r_21 =>
(if r_21 = 0 then fX3_leadOf_b38 k6 v1 v4 v3 S else
(zGI v4 64
(fX3_leadOf_b38 k6 v1 v4 ((m_order S) v4.toNatClampNeg) S))))))))
def fX3_leadOf_b6L : Nat → Int64 → Int32 → Int32 → MS → Option (Int32 × MS)
  | 0, _, _, _, _ => none
  | n + 1, v1, v3, v4, S => fX3_leadOf_b6 (fX3_leadOf_b6L n) v1 v3 v4 S

def fX3_leadOf (a1 : Int64) (S : MS) : Option (Int32 × MS) :=
fX3_leadOf_b6L zF a1 (-9 : Int32) (0 : Int32) S
set_option maxHeartbeats 4000000 in
set_option maxRecDepth 100000 in
theorem kX3_leadOf (l : Launch) (zq : Nat → Nat) (D : va_G) (cy : Nat → ClassId) (ad : Nat → Nat) (a1 : Int64) (S S' : MS) (r : Int32) (hf : fX3_leadOf a1 S = some (r, S')) : zMet l yX3_leadOf wsX3_leadOf 1 22 zq D (tM cy) (wM cy ad S) [.ref (ad 0), .long a1] (some (.int r)) (wM cy ad S') := by
  refine zMet.of cX3_leadOf 5 (some .int) (by decide) rfl (Nat.le_of_ble_eq_true rfl) ?_
  intro p e s m args below meth c A ls C hl hI
  have hl : lv_has ls 5 [(0, .ref (ad 0)), (1, .long a1)] := hl
  have C : zC p s m args meth c cX3_leadOf 5 (some .int) RX3 wsX3_leadOf D (tM cy) zq A := C
  obtain ⟨hx, hb, hml, hown, hts, hret, hlk, hK, hX, hA⟩ := id C
  have hiX3 : ∀ w ∈ wsX30, w ∈ wsX3_leadOf := by decide +kernel
  obtain ⟨Q, hQ⟩ : ∃ Q, Q = MQ below (zQ D (tM cy) (wM cy ad S') (some (.int r)) A) args s 0 0 A := ⟨_, rfl⟩
  rw [← hQ]
  have hb38 : ∀ (k6 : Int64 → Int32 → Int32 → MS → Option (Int32 × MS)) (hk6 : ∀ (v1 : Int64) (v3 : Int32) (v4 : Int32) (S : MS) (H : Heap) (locs : List Loc) (ls : Array Slot), k6 v1 v3 v4 S = some (r, S') → zI D A s H locs (wM cy ad S) → lv_has ls 5 [(0, .ref (ad 0)), (1, .long v1), (3, .int v3), (4, .int v4)] → W p l e { frames := 1, cells := 0, slots := 0, locals := 22 } s m args below meth c H locs 0 0 Q (F0 m 6 ls [])), ∀ (v1 : Int64) (v4 : Int32) (u0 : Int32) (S : MS) (H : Heap) (locs : List Loc) (ls : Array Slot), fX3_leadOf_b38 k6 v1 v4 u0 S = some (r, S') → zI D A s H locs (wM cy ad S) → lv_has ls 5 [(0, .ref (ad 0)), (1, .long v1), (4, .int v4)] → W p l e { frames := 1, cells := 0, slots := 0, locals := 22 } s m args below meth c H locs 0 0 Q (F0 m 38 ls [.int u0]) := by
    intro k6 hk6 v1 v4 u0 S H locs ls hf hI hl
    unfold fX3_leadOf_b38 at hf
    refine lv_istore_n (lv' := [(3, .int u0), (0, .ref (ad 0)), (1, .long v1), (4, .int v4)]) hx hb dX3_leadOf_38 rfl hl (by decide) rfl (fun ls hl => ?_)
    refine lv_iinc (v := (v4 + (1 : Int32))) (lv' := [(4, .int (v4 + (1 : Int32))), (3, .int u0), (0, .ref (ad 0)), (1, .long v1)]) hx hb dX3_leadOf_39 hl (k := 3) rfl rfl (by decide) rfl (fun ls hl => ?_)
    refine lv_goto (tgt := 6) hx hb dX3_leadOf_42 (by decide) ?_
    exact hk6 v1 u0 (v4 + (1 : Int32)) S _ _ _ hf hI (lv_sub hl [2, 3, 1, 0] rfl)
  have hb6 : ∀ (n : Nat), ∀ (v1 : Int64) (v3 : Int32) (v4 : Int32) (S : MS) (H : Heap) (locs : List Loc) (ls : Array Slot), fX3_leadOf_b6L n v1 v3 v4 S = some (r, S') → zI D A s H locs (wM cy ad S) → lv_has ls 5 [(0, .ref (ad 0)), (1, .long v1), (3, .int v3), (4, .int v4)] → W p l e { frames := 1, cells := 0, slots := 0, locals := 22 } s m args below meth c H locs 0 0 Q (F0 m 6 ls []) := by
    intro n
    induction n with
    | zero => intro v1 v3 v4 S H locs ls hf; cases (show (none : Option (Int32 × MS)) = some (r, S') from hf)
    | succ n ih =>
      intro v1 v3 v4 S H locs ls hf hI hl
      have hf : fX3_leadOf_b6 (fX3_leadOf_b6L n) v1 v3 v4 S = some (r, S') := hf
      unfold fX3_leadOf_b6 at hf
      refine lv_iload hx hb dX3_leadOf_6 (lv_at hl 3 rfl) ?_
      refine lv_bipush (v := 64) hx hb dX3_leadOf_8 (by decide) ?_
      refine lv_icmp_ge (tgt := 45) hx hb dX3_leadOf_10 (by decide) (fun c_10 => ?_) (fun c_10 => ?_)
      · replace hf := zIt c_10 hf
        refine lv_iload_n hx hb dX3_leadOf_45 rfl (lv_at hl 2 rfl) ?_
        obtain ⟨h1, h2⟩ := zP2 hf
        rw [hQ]
        exact z_iret C (by rw [h2]; exact hI) (by rw [h1]) dX3_leadOf_46
      · replace hf := zIf c_10 hf
        refine lv_lload_n hx hb dX3_leadOf_13 rfl (lv_at hl 1 rfl) ?_
        refine lv_aload_n hx hb dX3_leadOf_14 rfl (lv_at hl 0 rfl) ?_
        refine va_get (D := D) (ci := 3) (v := .ref (ad 1)) (C := RX3) (T := TX3) (N := 27) hx hb hts hiX3 hown hK hI.1 0 rfl rfl 2 (by decide) (hts (.fieldLink RX3 7 "NoughtSumsModel" "order" "[I") (by decide +kernel)) (fun _ h9 => h9) rfl dX3_leadOf_15 ?_
        refine lv_iload hx hb dX3_leadOf_18 (lv_at hl 3 rfl) ?_
        obtain ⟨g_20, hf⟩ := zGI_s hf
        refine va_iald (f := (m_order S)) hx hb hK hI.1 1 0 rfl rfl g_20 dX3_leadOf_20 ?_
        obtain ⟨r_21, hf_21, hf⟩ := zB1_s hf
        refine z_callS C 2 (kX3_has l zq D v1 ((m_order S) v4.toNatClampNeg) r_21 hf_21) gX3_leadOf_X3_has rfl (by decide +kernel) ⟨by decide, by decide⟩ hI rfl hl.1 rfl (Nat.le_of_ble_eq_true rfl) dX3_leadOf_21 ⟨by decide, by decide⟩ (st2 := [.int r_21]) rfl (fun H locs hI => ?_)
        refine lv_if_eq (tgt := 37) hx hb dX3_leadOf_24 (by decide) (fun c_24 => ?_) (fun c_24 => ?_)
        · replace hf := zIt c_24 hf
          refine lv_iload_n hx hb dX3_leadOf_37 rfl (lv_at hl 2 rfl) ?_
          exact hb38 (fX3_leadOf_b6L n) ih v1 v4 v3 S _ _ _ hf hI (lv_sub hl [0, 1, 3] rfl)
        · replace hf := zIf c_24 hf
          refine lv_aload_n hx hb dX3_leadOf_27 rfl (lv_at hl 0 rfl) ?_
          refine va_get (D := D) (ci := 3) (v := .ref (ad 1)) (C := RX3) (T := TX3) (N := 27) hx hb hts hiX3 hown hK hI.1 0 rfl rfl 2 (by decide) (hts (.fieldLink RX3 7 "NoughtSumsModel" "order" "[I") (by decide +kernel)) (fun _ h9 => h9) rfl dX3_leadOf_28 ?_
          refine lv_iload hx hb dX3_leadOf_31 (lv_at hl 3 rfl) ?_
          obtain ⟨g_33, hf⟩ := zGI_s hf
          refine va_iald (f := (m_order S)) hx hb hK hI.1 1 0 rfl rfl g_33 dX3_leadOf_33 ?_
          refine lv_goto (tgt := 38) hx hb dX3_leadOf_34 (by decide) ?_
          exact hb38 (fX3_leadOf_b6L n) ih v1 v4 ((m_order S) v4.toNatClampNeg) S _ _ _ hf hI (lv_sub hl [0, 1, 3] rfl)
  unfold fX3_leadOf at hf
  refine lv_bipush (v := -9) hx hb dX3_leadOf_0 (by decide) ?_
  refine lv_istore_n (lv' := [(3, .int (-9 : Int32)), (0, .ref (ad 0)), (1, .long a1)]) hx hb dX3_leadOf_2 rfl hl (by decide) rfl (fun ls hl => ?_)
  refine lv_iconst (v := 0) hx hb dX3_leadOf_3 (by decide) ?_
  refine lv_istore (lv' := [(4, .int (0 : Int32)), (3, .int (-9 : Int32)), (0, .ref (ad 0)), (1, .long a1)]) hx hb dX3_leadOf_4 hl (by decide) rfl (fun ls hl => ?_)
  exact hb6 zF a1 (-9 : Int32) (0 : Int32) S _ _ _ hf hI (lv_sub hl [2, 3, 1, 0] rfl)

def fX3_degreeOf (a1 : Int64) (S : MS) : Option (Int32 × MS) :=
(if (lg_cmp a1 (0 : Int64)) = 0 then some ((-9 : Int32), S) else
(zB2 (fX3_leadOf a1 S) (fun r_13 S_13 =>
(zB1 (fX3_letters r_13) (fun r_16 =>
some (r_16, S_13))))))
set_option maxHeartbeats 4000000 in
set_option maxRecDepth 100000 in
theorem kX3_degreeOf (l : Launch) (zq : Nat → Nat) (D : va_G) (cy : Nat → ClassId) (ad : Nat → Nat) (a1 : Int64) (S S' : MS) (r : Int32) (hf : fX3_degreeOf a1 S = some (r, S')) : zMet l yX3_degreeOf wsX3_degreeOf 2 46 zq D (tM cy) (wM cy ad S) [.ref (ad 0), .long a1] (some (.int r)) (wM cy ad S') := by
  refine zMet.of cX3_degreeOf 3 (some .int) (by decide) rfl (Nat.le_of_ble_eq_true rfl) ?_
  intro p e s m args below meth c A ls C hl hI
  have hl : lv_has ls 3 [(0, .ref (ad 0)), (1, .long a1)] := hl
  have C : zC p s m args meth c cX3_degreeOf 3 (some .int) RX3 wsX3_degreeOf D (tM cy) zq A := C
  obtain ⟨hx, hb, hml, hown, hts, hret, hlk, hK, hX, hA⟩ := id C
  obtain ⟨Q, hQ⟩ : ∃ Q, Q = MQ below (zQ D (tM cy) (wM cy ad S') (some (.int r)) A) args s 0 0 A := ⟨_, rfl⟩
  rw [← hQ]
  unfold fX3_degreeOf at hf
  refine lv_lload_n hx hb dX3_degreeOf_0 rfl (lv_at hl 1 rfl) ?_
  refine lv_lconst (v := 0) hx hb dX3_degreeOf_1 (by decide) ?_
  refine W.lcmp hx hb dX3_degreeOf_2 ?_
  refine lv_if_ne (tgt := 11) hx hb dX3_degreeOf_3 (by decide) (fun c_3 => ?_) (fun c_3 => ?_)
  · replace hf := zIf c_3 hf
    refine lv_aload_n hx hb dX3_degreeOf_11 rfl (lv_at hl 0 rfl) ?_
    refine lv_lload_n hx hb dX3_degreeOf_12 rfl (lv_at hl 1 rfl) ?_
    obtain ⟨r_13, S_13, hf_13, hf⟩ := zB2_s hf
    refine z_callV (w2 := (wM cy ad S_13)) C 1 (kX3_leadOf l zq D cy ad a1 S S_13 r_13 hf_13) gX3_degreeOf_X3_leadOf rfl (by decide +kernel) ⟨by decide, by decide⟩ hI 0 rfl rfl rfl hl.1 rfl (Nat.le_of_ble_eq_true rfl) dX3_degreeOf_13 ⟨by decide, by decide⟩ (st2 := [.int r_13]) rfl (fun H locs hI => ?_)
    obtain ⟨r_16, hf_16, hf⟩ := zB1_s hf
    refine z_callS C 1 (kX3_letters l zq D r_13 r_16 hf_16) gX3_degreeOf_X3_letters rfl (by decide +kernel) ⟨by decide, by decide⟩ hI rfl hl.1 rfl (Nat.le_of_ble_eq_true rfl) dX3_degreeOf_16 ⟨by decide, by decide⟩ (st2 := [.int r_16]) rfl (fun H locs hI => ?_)
    obtain ⟨h1, h2⟩ := zP2 hf
    rw [hQ]
    exact z_iret C (by rw [h2]; exact hI) (by rw [h1]) dX3_degreeOf_19
  · replace hf := zIt c_3 hf
    refine lv_bipush (v := -9) hx hb dX3_degreeOf_6 (by decide) ?_
    refine lv_goto (tgt := 19) hx hb dX3_degreeOf_8 (by decide) ?_
    obtain ⟨h1, h2⟩ := zP2 hf
    rw [hQ]
    exact z_iret C (by rw [h2]; exact hI) (by rw [h1]) dX3_degreeOf_19

def fX3_type_b37 (k37 : Int64 → Int32 → MS → Option (Int32 × MS)) (v1 : Int64) (v4 : Int32) (S : MS) : Option (Int32 × MS) :=
(if v4 < 0 then some ((m_typed S), S) else
(zGI (m_typed S) 400
(zL (m_text_u S (upd (m_text S) (m_typed S).toNatClampNeg ((((v1 >>> (((8 : Int32) * v4).toInt64 &&& 63)) &&& (255 : Int64))).toInt32))) (fun S_62 =>
(zL (m_typed_u S_62 ((m_typed S_62) + (1 : Int32))) (fun S_70 =>
k37 v1 (v4 + (-1 : Int32)) S_70))))))
def fX3_type_b37L : Nat → Int64 → Int32 → MS → Option (Int32 × MS)
  | 0, _, _, _ => none
  | n + 1, v1, v4, S => fX3_type_b37 (fX3_type_b37L n) v1 v4 S

def fX3_type (a1 : Int64) (a3 : Int32) (S : MS) : Option (Int32 × MS) :=
(zL (m_thrown_u S (0 : Int32)) (fun S_2 =>
(zB1 (fX3_in a3 (1 : Int32) (8 : Int32)) (fun r_9 =>
(if r_9 = 0 then some ((-1 : Int32), S_2) else
(if ((m_typed S_2) + a3) ≤ (400 : Int32) then fX3_type_b37L zF a1 (a3 - (1 : Int32)) S_2 else
some ((-3 : Int32), S_2)))))))
set_option maxHeartbeats 4000000 in
set_option maxRecDepth 100000 in
theorem kX3_type (l : Launch) (zq : Nat → Nat) (D : va_G) (cy : Nat → ClassId) (ad : Nat → Nat) (a1 : Int64) (a3 : Int32) (S S' : MS) (r : Int32) (hf : fX3_type a1 a3 S = some (r, S')) : zMet l yX3_type wsX3_type 1 22 zq D (tM cy) (wM cy ad S) [.ref (ad 0), .long a1, .int a3] (some (.int r)) (wM cy ad S') := by
  refine zMet.of cX3_type 5 (some .int) (by decide) rfl (Nat.le_of_ble_eq_true rfl) ?_
  intro p e s m args below meth c A ls C hl hI
  have hl : lv_has ls 5 [(0, .ref (ad 0)), (1, .long a1), (3, .int a3)] := hl
  have C : zC p s m args meth c cX3_type 5 (some .int) RX3 wsX3_type D (tM cy) zq A := C
  obtain ⟨hx, hb, hml, hown, hts, hret, hlk, hK, hX, hA⟩ := id C
  have hiX3 : ∀ w ∈ wsX30, w ∈ wsX3_type := by decide +kernel
  obtain ⟨Q, hQ⟩ : ∃ Q, Q = MQ below (zQ D (tM cy) (wM cy ad S') (some (.int r)) A) args s 0 0 A := ⟨_, rfl⟩
  rw [← hQ]
  have hb37 : ∀ (n : Nat), ∀ (v1 : Int64) (v4 : Int32) (S : MS) (H : Heap) (locs : List Loc) (ls : Array Slot), fX3_type_b37L n v1 v4 S = some (r, S') → zI D A s H locs (wM cy ad S) → lv_has ls 5 [(0, .ref (ad 0)), (1, .long v1), (4, .int v4)] → W p l e { frames := 1, cells := 0, slots := 0, locals := 22 } s m args below meth c H locs 0 0 Q (F0 m 37 ls []) := by
    intro n
    induction n with
    | zero => intro v1 v4 S H locs ls hf; cases (show (none : Option (Int32 × MS)) = some (r, S') from hf)
    | succ n ih =>
      intro v1 v4 S H locs ls hf hI hl
      have hf : fX3_type_b37 (fX3_type_b37L n) v1 v4 S = some (r, S') := hf
      unfold fX3_type_b37 at hf
      refine lv_iload hx hb dX3_type_37 (lv_at hl 2 rfl) ?_
      refine lv_if_lt (tgt := 79) hx hb dX3_type_39 (by decide) (fun c_39 => ?_) (fun c_39 => ?_)
      · replace hf := zIt c_39 hf
        refine lv_aload_n hx hb dX3_type_79 rfl (lv_at hl 0 rfl) ?_
        refine va_get (D := D) (ci := 3) (v := .int (m_typed S)) (C := RX3) (T := TX3) (N := 27) hx hb hts hiX3 hown hK hI.1 0 rfl rfl 4 (by decide) (hts (.fieldLink RX3 75 "NoughtSumsModel" "typed" "I") (by decide +kernel)) (fun _ h9 => h9) rfl dX3_type_80 ?_
        obtain ⟨h1, h2⟩ := zP2 hf
        rw [hQ]
        exact z_iret C (by rw [h2]; exact hI) (by rw [h1]) dX3_type_83
      · replace hf := zIf c_39 hf
        refine lv_aload_n hx hb dX3_type_42 rfl (lv_at hl 0 rfl) ?_
        refine va_get (D := D) (ci := 3) (v := .ref (ad 2)) (C := RX3) (T := TX3) (N := 27) hx hb hts hiX3 hown hK hI.1 0 rfl rfl 3 (by decide) (hts (.fieldLink RX3 13 "NoughtSumsModel" "text" "[I") (by decide +kernel)) (fun _ h9 => h9) rfl dX3_type_43 ?_
        refine lv_aload_n hx hb dX3_type_46 rfl (lv_at hl 0 rfl) ?_
        refine va_get (D := D) (ci := 3) (v := .int (m_typed S)) (C := RX3) (T := TX3) (N := 27) hx hb hts hiX3 hown hK hI.1 0 rfl rfl 4 (by decide) (hts (.fieldLink RX3 75 "NoughtSumsModel" "typed" "I") (by decide +kernel)) (fun _ h9 => h9) rfl dX3_type_47 ?_
        refine lv_lload_n hx hb dX3_type_50 rfl (lv_at hl 1 rfl) ?_
        refine lv_bipush (v := 8) hx hb dX3_type_51 (by decide) ?_
        refine lv_iload hx hb dX3_type_53 (lv_at hl 2 rfl) ?_
        refine lv_imul hx hb dX3_type_55 ?_
        refine lv_lshr hx hb dX3_type_56 rfl ?_
        refine lv_ldc2 hx hb hown (hts (.constantLong RX3 78 (255)) (by decide +kernel)) dX3_type_57 ?_
        refine lv_land hx hb dX3_type_60 ?_
        refine lv_l2i hx hb dX3_type_61 rfl ?_
        obtain ⟨g_62, hf⟩ := zGI_s hf
        obtain ⟨S_62, eS_62, hf⟩ := zL_e hf
        refine z_iast (f := (m_text S)) (w2 := (wM cy ad S_62)) hx hb hK hI 2 1 rfl rfl g_62 dX3_type_62 (by rw [eS_62]; rfl) (fun H locs hI => ?_)
        refine lv_aload_n hx hb dX3_type_63 rfl (lv_at hl 0 rfl) ?_
        refine lv_dup hx hb dX3_type_64 rfl ?_
        refine va_get (D := D) (ci := 3) (v := .int (m_typed S_62)) (C := RX3) (T := TX3) (N := 27) hx hb hts hiX3 hown hK hI.1 0 rfl rfl 4 (by decide) (hts (.fieldLink RX3 75 "NoughtSumsModel" "typed" "I") (by decide +kernel)) (fun _ h9 => h9) rfl dX3_type_65 ?_
        refine lv_iconst (v := 1) hx hb dX3_type_68 (by decide) ?_
        refine lv_iadd hx hb dX3_type_69 ?_
        obtain ⟨S_70, eS_70, hf⟩ := zL_e hf
        refine z_put (D := D) (ci := 3) (v := .int ((m_typed S_62) + (1 : Int32))) (ty := .int) (C := RX3) (T := TX3) (N := 27) (w2 := (wM cy ad S_70)) hx hb hts hiX3 tyX3 tyX3_ok nmX3 hown hK hI 0 rfl rfl 4 (by decide) (hts (.fieldLink RX3 75 "NoughtSumsModel" "typed" "I") (by decide +kernel)) (fun _ h9 => h9) rfl (by decide +kernel) rfl rfl (Nat.le_of_ble_eq_true rfl) dX3_type_70 (by rw [eS_70]; rfl) (fun H locs hI => ?_)
        refine lv_iinc (v := (v4 + (-1 : Int32))) (lv' := [(4, .int (v4 + (-1 : Int32))), (0, .ref (ad 0)), (1, .long v1)]) hx hb dX3_type_73 hl (k := 2) rfl rfl (by decide) rfl (fun ls hl => ?_)
        refine lv_goto (tgt := 37) hx hb dX3_type_76 (by decide) ?_
        exact ih v1 (v4 + (-1 : Int32)) S_70 _ _ _ hf hI (lv_sub hl [1, 2, 0] rfl)
  unfold fX3_type at hf
  refine lv_aload_n hx hb dX3_type_0 rfl (lv_at hl 0 rfl) ?_
  refine lv_iconst (v := 0) hx hb dX3_type_1 (by decide) ?_
  obtain ⟨S_2, eS_2, hf⟩ := zL_e hf
  refine z_put (D := D) (ci := 3) (v := .int (0 : Int32)) (ty := .int) (C := RX3) (T := TX3) (N := 27) (w2 := (wM cy ad S_2)) hx hb hts hiX3 tyX3 tyX3_ok nmX3 hown hK hI 0 rfl rfl 0 (by decide) (hts (.fieldLink RX3 56 "NoughtSumsModel" "thrown" "I") (by decide +kernel)) (fun _ h9 => h9) rfl (by decide +kernel) rfl rfl (Nat.le_of_ble_eq_true rfl) dX3_type_2 (by rw [eS_2]; rfl) (fun H locs hI => ?_)
  refine lv_iload_n hx hb dX3_type_5 rfl (lv_at hl 2 rfl) ?_
  refine lv_iconst (v := 1) hx hb dX3_type_6 (by decide) ?_
  refine lv_bipush (v := 8) hx hb dX3_type_7 (by decide) ?_
  obtain ⟨r_9, hf_9, hf⟩ := zB1_s hf
  refine z_callS C 3 (kX3_in l zq D a3 (1 : Int32) (8 : Int32) r_9 hf_9) gX3_type_X3_in rfl (by decide +kernel) ⟨by decide, by decide⟩ hI rfl hl.1 rfl (Nat.le_of_ble_eq_true rfl) dX3_type_9 ⟨by decide, by decide⟩ (st2 := [.int r_9]) rfl (fun H locs hI => ?_)
  refine lv_if_ne (tgt := 17) hx hb dX3_type_12 (by decide) (fun c_12 => ?_) (fun c_12 => ?_)
  · replace hf := zIf c_12 hf
    refine lv_aload_n hx hb dX3_type_17 rfl (lv_at hl 0 rfl) ?_
    refine va_get (D := D) (ci := 3) (v := .int (m_typed S_2)) (C := RX3) (T := TX3) (N := 27) hx hb hts hiX3 hown hK hI.1 0 rfl rfl 4 (by decide) (hts (.fieldLink RX3 75 "NoughtSumsModel" "typed" "I") (by decide +kernel)) (fun _ h9 => h9) rfl dX3_type_18 ?_
    refine lv_iload_n hx hb dX3_type_21 rfl (lv_at hl 2 rfl) ?_
    refine lv_iadd hx hb dX3_type_22 ?_
    refine lv_sipush (v := 400) hx hb dX3_type_23 (by decide) ?_
    refine lv_icmp_le (tgt := 32) hx hb dX3_type_26 (by decide) (fun c_26 => ?_) (fun c_26 => ?_)
    · replace hf := zIt c_26 hf
      refine lv_iload_n hx hb dX3_type_32 rfl (lv_at hl 2 rfl) ?_
      refine lv_iconst (v := 1) hx hb dX3_type_33 (by decide) ?_
      refine lv_isub hx hb dX3_type_34 ?_
      refine lv_istore (lv' := [(4, .int (a3 - (1 : Int32))), (0, .ref (ad 0)), (1, .long a1), (3, .int a3)]) hx hb dX3_type_35 hl (by decide) rfl (fun ls hl => ?_)
      exact hb37 zF a1 (a3 - (1 : Int32)) S_2 _ _ _ hf hI (lv_sub hl [1, 2, 0] rfl)
    · replace hf := zIf c_26 hf
      refine lv_bipush (v := -3) hx hb dX3_type_29 (by decide) ?_
      obtain ⟨h1, h2⟩ := zP2 hf
      rw [hQ]
      exact z_iret C (by rw [h2]; exact hI) (by rw [h1]) dX3_type_31
  · replace hf := zIt c_12 hf
    refine lv_iconst (v := -1) hx hb dX3_type_15 (by decide) ?_
    obtain ⟨h1, h2⟩ := zP2 hf
    rw [hQ]
    exact z_iret C (by rw [h2]; exact hI) (by rw [h1]) dX3_type_16

def fX3_clear  (S : MS) : Option (Int32 × MS) :=
(zL (m_thrown_u S (0 : Int32)) (fun S_2 =>
(zL (m_typed_u S_2 (0 : Int32)) (fun S_12 =>
some ((m_typed S_2), S_12)))))
set_option maxHeartbeats 4000000 in
set_option maxRecDepth 100000 in
theorem kX3_clear (l : Launch) (zq : Nat → Nat) (D : va_G) (cy : Nat → ClassId) (ad : Nat → Nat)  (S S' : MS) (r : Int32) (hf : fX3_clear S = some (r, S')) : zMet l yX3_clear wsX3_clear 0 0 zq D (tM cy) (wM cy ad S) [.ref (ad 0)] (some (.int r)) (wM cy ad S') := by
  refine zMet.of cX3_clear 2 (some .int) (by decide) rfl (Nat.le_of_ble_eq_true rfl) ?_
  intro p e s m args below meth c A ls C hl hI
  have hl : lv_has ls 2 [(0, .ref (ad 0))] := hl
  have C : zC p s m args meth c cX3_clear 2 (some .int) RX3 wsX3_clear D (tM cy) zq A := C
  obtain ⟨hx, hb, hml, hown, hts, hret, hlk, hK, hX, hA⟩ := id C
  have hiX3 : ∀ w ∈ wsX30, w ∈ wsX3_clear := by decide +kernel
  obtain ⟨Q, hQ⟩ : ∃ Q, Q = MQ below (zQ D (tM cy) (wM cy ad S') (some (.int r)) A) args s 0 0 A := ⟨_, rfl⟩
  rw [← hQ]
  unfold fX3_clear at hf
  refine lv_aload_n hx hb dX3_clear_0 rfl (lv_at hl 0 rfl) ?_
  refine lv_iconst (v := 0) hx hb dX3_clear_1 (by decide) ?_
  obtain ⟨S_2, eS_2, hf⟩ := zL_e hf
  refine z_put (D := D) (ci := 3) (v := .int (0 : Int32)) (ty := .int) (C := RX3) (T := TX3) (N := 27) (w2 := (wM cy ad S_2)) hx hb hts hiX3 tyX3 tyX3_ok nmX3 hown hK hI 0 rfl rfl 0 (by decide) (hts (.fieldLink RX3 56 "NoughtSumsModel" "thrown" "I") (by decide +kernel)) (fun _ h9 => h9) rfl (by decide +kernel) rfl rfl (Nat.le_of_ble_eq_true rfl) dX3_clear_2 (by rw [eS_2]; rfl) (fun H locs hI => ?_)
  refine lv_aload_n hx hb dX3_clear_5 rfl (lv_at hl 0 rfl) ?_
  refine va_get (D := D) (ci := 3) (v := .int (m_typed S_2)) (C := RX3) (T := TX3) (N := 27) hx hb hts hiX3 hown hK hI.1 0 rfl rfl 4 (by decide) (hts (.fieldLink RX3 75 "NoughtSumsModel" "typed" "I") (by decide +kernel)) (fun _ h9 => h9) rfl dX3_clear_6 ?_
  refine lv_istore_n (lv' := [(1, .int (m_typed S_2)), (0, .ref (ad 0))]) hx hb dX3_clear_9 rfl hl (by decide) rfl (fun ls hl => ?_)
  refine lv_aload_n hx hb dX3_clear_10 rfl (lv_at hl 1 rfl) ?_
  refine lv_iconst (v := 0) hx hb dX3_clear_11 (by decide) ?_
  obtain ⟨S_12, eS_12, hf⟩ := zL_e hf
  refine z_put (D := D) (ci := 3) (v := .int (0 : Int32)) (ty := .int) (C := RX3) (T := TX3) (N := 27) (w2 := (wM cy ad S_12)) hx hb hts hiX3 tyX3 tyX3_ok nmX3 hown hK hI 0 rfl rfl 4 (by decide) (hts (.fieldLink RX3 75 "NoughtSumsModel" "typed" "I") (by decide +kernel)) (fun _ h9 => h9) rfl (by decide +kernel) rfl rfl (Nat.le_of_ble_eq_true rfl) dX3_clear_12 (by rw [eS_12]; rfl) (fun H locs hI => ?_)
  refine lv_iload_n hx hb dX3_clear_15 rfl (lv_at hl 0 rfl) ?_
  obtain ⟨h1, h2⟩ := zP2 hf
  rw [hQ]
  exact z_iret C (by rw [h2]; exact hI) (by rw [h1]) dX3_clear_16

def fX3_byteAt (a1 : Int32) (S : MS) : Option (Int32 × MS) :=
(if (m_typed S) ≤ a1 then some ((-1 : Int32), S) else
(zGI a1 400
(some (((m_text S) a1.toNatClampNeg), S))))
set_option maxHeartbeats 4000000 in
set_option maxRecDepth 100000 in
theorem kX3_byteAt (l : Launch) (zq : Nat → Nat) (D : va_G) (cy : Nat → ClassId) (ad : Nat → Nat) (a1 : Int32) (S S' : MS) (r : Int32) (hf : fX3_byteAt a1 S = some (r, S')) : zMet l yX3_byteAt wsX3_byteAt 0 0 zq D (tM cy) (wM cy ad S) [.ref (ad 0), .int a1] (some (.int r)) (wM cy ad S') := by
  refine zMet.of cX3_byteAt 2 (some .int) (by decide) rfl (Nat.le_of_ble_eq_true rfl) ?_
  intro p e s m args below meth c A ls C hl hI
  have hl : lv_has ls 2 [(0, .ref (ad 0)), (1, .int a1)] := hl
  have C : zC p s m args meth c cX3_byteAt 2 (some .int) RX3 wsX3_byteAt D (tM cy) zq A := C
  obtain ⟨hx, hb, hml, hown, hts, hret, hlk, hK, hX, hA⟩ := id C
  have hiX3 : ∀ w ∈ wsX30, w ∈ wsX3_byteAt := by decide +kernel
  obtain ⟨Q, hQ⟩ : ∃ Q, Q = MQ below (zQ D (tM cy) (wM cy ad S') (some (.int r)) A) args s 0 0 A := ⟨_, rfl⟩
  rw [← hQ]
  unfold fX3_byteAt at hf
  refine lv_iload_n hx hb dX3_byteAt_0 rfl (lv_at hl 1 rfl) ?_
  refine lv_aload_n hx hb dX3_byteAt_1 rfl (lv_at hl 0 rfl) ?_
  refine va_get (D := D) (ci := 3) (v := .int (m_typed S)) (C := RX3) (T := TX3) (N := 27) hx hb hts hiX3 hown hK hI.1 0 rfl rfl 4 (by decide) (hts (.fieldLink RX3 75 "NoughtSumsModel" "typed" "I") (by decide +kernel)) (fun _ h9 => h9) rfl dX3_byteAt_2 ?_
  refine lv_icmp_ge (tgt := 17) hx hb dX3_byteAt_5 (by decide) (fun c_5 => ?_) (fun c_5 => ?_)
  · replace hf := zIt c_5 hf
    refine lv_iconst (v := -1) hx hb dX3_byteAt_17 (by decide) ?_
    obtain ⟨h1, h2⟩ := zP2 hf
    rw [hQ]
    exact z_iret C (by rw [h2]; exact hI) (by rw [h1]) dX3_byteAt_18
  · replace hf := zIf c_5 hf
    refine lv_aload_n hx hb dX3_byteAt_8 rfl (lv_at hl 0 rfl) ?_
    refine va_get (D := D) (ci := 3) (v := .ref (ad 2)) (C := RX3) (T := TX3) (N := 27) hx hb hts hiX3 hown hK hI.1 0 rfl rfl 3 (by decide) (hts (.fieldLink RX3 13 "NoughtSumsModel" "text" "[I") (by decide +kernel)) (fun _ h9 => h9) rfl dX3_byteAt_9 ?_
    refine lv_iload_n hx hb dX3_byteAt_12 rfl (lv_at hl 1 rfl) ?_
    obtain ⟨g_13, hf⟩ := zGI_s hf
    refine va_iald (f := (m_text S)) hx hb hK hI.1 2 1 rfl rfl g_13 dX3_byteAt_13 ?_
    refine lv_goto (tgt := 18) hx hb dX3_byteAt_14 (by decide) ?_
    obtain ⟨h1, h2⟩ := zP2 hf
    rw [hQ]
    exact z_iret C (by rw [h2]; exact hI) (by rw [h1]) dX3_byteAt_18

def fX3_add (a0 : Int64) (a2 : Int32) : Option Int64 :=
(if a2 = 0 then some a0 else
some (((256 : Int64) * a0) + ((a2).toInt64)))
set_option maxHeartbeats 4000000 in
set_option maxRecDepth 100000 in
theorem kX3_add (l : Launch) (zq : Nat → Nat) (D : va_G) (a0 : Int64) (a2 : Int32) (r : Int64) (hf : fX3_add a0 a2 = some r) : zMet l yX3_add wsX3_add 0 0 zq D [] [] [.long a0, .int a2] (some (.long r)) [] := by
  refine zMet.of cX3_add 3 (some .long) (by decide) rfl (Nat.le_of_ble_eq_true rfl) ?_
  intro p e s m args below meth c A ls C hl hI
  have hl : lv_has ls 3 [(0, .long a0), (2, .int a2)] := hl
  have C : zC p s m args meth c cX3_add 3 (some .long) RX3 wsX3_add D [] zq A := C
  obtain ⟨hx, hb, hml, hown, hts, hret, hlk, hK, hX, hA⟩ := id C
  obtain ⟨Q, hQ⟩ : ∃ Q, Q = MQ below (zQ D [] [] (some (.long r)) A) args s 0 0 A := ⟨_, rfl⟩
  rw [← hQ]
  unfold fX3_add at hf
  refine lv_iload_n hx hb dX3_add_0 rfl (lv_at hl 1 rfl) ?_
  refine lv_if_ne (tgt := 8) hx hb dX3_add_1 (by decide) (fun c_1 => ?_) (fun c_1 => ?_)
  · replace hf := zIf c_1 hf
    refine lv_ldc2 hx hb hown (hts (.constantLong RX3 80 (256)) (by decide +kernel)) dX3_add_8 ?_
    refine lv_lload_n hx hb dX3_add_11 rfl (lv_at hl 0 rfl) ?_
    refine lv_lmul hx hb dX3_add_12 ?_
    refine lv_iload_n hx hb dX3_add_13 rfl (lv_at hl 1 rfl) ?_
    refine lv_i2l hx hb dX3_add_14 rfl ?_
    refine lv_ladd hx hb dX3_add_15 ?_
    have h1 := zP1 hf
    rw [hQ]
    exact z_lret C hI (by rw [h1]) dX3_add_16
  · replace hf := zIt c_1 hf
    refine lv_lload_n hx hb dX3_add_4 rfl (lv_at hl 0 rfl) ?_
    refine lv_goto (tgt := 16) hx hb dX3_add_5 (by decide) ?_
    have h1 := zP1 hf
    rw [hQ]
    exact z_lret C hI (by rw [h1]) dX3_add_16

def fX3_word (a0 : Int32) (a1 : Int32) (a2 : Int32) (a3 : Int32) (a4 : Int32) : Option Int64 :=
(zB1 (fX3_add (0 : Int64) a0) (fun r_2 =>
(zB1 (fX3_add r_2 a1) (fun r_6 =>
(zB1 (fX3_add r_6 a2) (fun r_10 =>
(zB1 (fX3_add r_10 a3) (fun r_14 =>
(zB1 (fX3_add r_14 a4) (fun r_19 =>
some r_19))))))))))
set_option maxHeartbeats 4000000 in
set_option maxRecDepth 100000 in
theorem kX3_word (l : Launch) (zq : Nat → Nat) (D : va_G) (a0 : Int32) (a1 : Int32) (a2 : Int32) (a3 : Int32) (a4 : Int32) (r : Int64) (hf : fX3_word a0 a1 a2 a3 a4 = some r) : zMet l yX3_word wsX3_word 1 22 zq D [] [] [.int a0, .int a1, .int a2, .int a3, .int a4] (some (.long r)) [] := by
  refine zMet.of cX3_word 5 (some .long) (by decide) rfl (Nat.le_of_ble_eq_true rfl) ?_
  intro p e s m args below meth c A ls C hl hI
  have hl : lv_has ls 5 [(0, .int a0), (1, .int a1), (2, .int a2), (3, .int a3), (4, .int a4)] := hl
  have C : zC p s m args meth c cX3_word 5 (some .long) RX3 wsX3_word D [] zq A := C
  obtain ⟨hx, hb, hml, hown, hts, hret, hlk, hK, hX, hA⟩ := id C
  obtain ⟨Q, hQ⟩ : ∃ Q, Q = MQ below (zQ D [] [] (some (.long r)) A) args s 0 0 A := ⟨_, rfl⟩
  rw [← hQ]
  unfold fX3_word at hf
  refine lv_lconst (v := 0) hx hb dX3_word_0 (by decide) ?_
  refine lv_iload_n hx hb dX3_word_1 rfl (lv_at hl 0 rfl) ?_
  obtain ⟨r_2, hf_2, hf⟩ := zB1_s hf
  refine z_callS C 2 (kX3_add l zq D (0 : Int64) a0 r_2 hf_2) gX3_word_X3_add rfl (by decide +kernel) ⟨by decide, by decide⟩ hI rfl hl.1 rfl (Nat.le_of_ble_eq_true rfl) dX3_word_2 ⟨by decide, by decide⟩ (st2 := [.long r_2]) rfl (fun H locs hI => ?_)
  refine lv_iload_n hx hb dX3_word_5 rfl (lv_at hl 1 rfl) ?_
  obtain ⟨r_6, hf_6, hf⟩ := zB1_s hf
  refine z_callS C 2 (kX3_add l zq D r_2 a1 r_6 hf_6) gX3_word_X3_add rfl (by decide +kernel) ⟨by decide, by decide⟩ hI rfl hl.1 rfl (Nat.le_of_ble_eq_true rfl) dX3_word_6 ⟨by decide, by decide⟩ (st2 := [.long r_6]) rfl (fun H locs hI => ?_)
  refine lv_iload_n hx hb dX3_word_9 rfl (lv_at hl 2 rfl) ?_
  obtain ⟨r_10, hf_10, hf⟩ := zB1_s hf
  refine z_callS C 2 (kX3_add l zq D r_6 a2 r_10 hf_10) gX3_word_X3_add rfl (by decide +kernel) ⟨by decide, by decide⟩ hI rfl hl.1 rfl (Nat.le_of_ble_eq_true rfl) dX3_word_10 ⟨by decide, by decide⟩ (st2 := [.long r_10]) rfl (fun H locs hI => ?_)
  refine lv_iload_n hx hb dX3_word_13 rfl (lv_at hl 3 rfl) ?_
  obtain ⟨r_14, hf_14, hf⟩ := zB1_s hf
  refine z_callS C 2 (kX3_add l zq D r_10 a3 r_14 hf_14) gX3_word_X3_add rfl (by decide +kernel) ⟨by decide, by decide⟩ hI rfl hl.1 rfl (Nat.le_of_ble_eq_true rfl) dX3_word_14 ⟨by decide, by decide⟩ (st2 := [.long r_14]) rfl (fun H locs hI => ?_)
  refine lv_iload hx hb dX3_word_17 (lv_at hl 4 rfl) ?_
  obtain ⟨r_19, hf_19, hf⟩ := zB1_s hf
  refine z_callS C 2 (kX3_add l zq D r_14 a4 r_19 hf_19) gX3_word_X3_add rfl (by decide +kernel) ⟨by decide, by decide⟩ hI rfl hl.1 rfl (Nat.le_of_ble_eq_true rfl) dX3_word_19 ⟨by decide, by decide⟩ (st2 := [.long r_19]) rfl (fun H locs hI => ?_)
  have h1 := zP1 hf
  rw [hQ]
  exact z_lret C hI (by rw [h1]) dX3_word_22

def fX3_words_b211 (u0 : Int32) (S : MS) : Option MS :=
(zL (m_value_u S u0) (fun S_211 =>
(if (m_value S_211) = (-9 : Int32) then (zL (m_token_u S_211 (6 : Int32)) (fun S_230 =>
some S_230)) else
(zL (m_token_u S_211 (2 : Int32)) (fun S_230 =>
some S_230)))))

def fX3_words_b99 (k11 : Int32 → Int64 → Int32 → Int32 → Int32 → MS → Option MS) (v1 : Int32) (v2 : Int64) (v5 : Int32) (v6 : Int32) (u0 : Int32) (u1 : Int32) (S : MS) : Option MS :=
k11 v1 v2 (u1 ||| u0) v5 (v6 + (1 : Int32)) S

def fX3_words_b79 (k11 : Int32 → Int64 → Int32 → Int32 → Int32 → MS → Option MS) (v1 : Int32) (v2 : Int64) (v4 : Int32) (v6 : Int32) (v7 : Int32) (u0 : Int32) (S : MS) : Option MS :=
(if u0 = 0 then fX3_words_b99 k11 v1 v2 u0 v6 (0 : Int32) v4 S else
fX3_words_b99 k11 v1 v2 u0 v6 ((1 : Int32) <<< ((v7 - (97 : Int32)) &&& 31)) v4 S)

def fX3_words_b78 (k11 : Int32 → Int64 → Int32 → Int32 → Int32 → MS → Option MS) (v1 : Int32) (v2 : Int64) (v4 : Int32) (v6 : Int32) (v7 : Int32) (S : MS) : Option MS :=
fX3_words_b79 k11 v1 v2 v4 v6 v7 (0 : Int32) S

def fX3_words_b48 (k11 : Int32 → Int64 → Int32 → Int32 → Int32 → MS → Option MS) (v1 : Int32) (v4 : Int32) (v5 : Int32) (v6 : Int32) (v7 : Int32) (u0 : Int64) (S : MS) : Option MS :=
(if v5 = 0 then fX3_words_b78 k11 v1 u0 v4 v6 v7 S else
(if (102 : Int32) < v7 then fX3_words_b78 k11 v1 u0 v4 v6 v7 S else
(if ((v4 >>> ((v7 - (97 : Int32)) &&& 31)) &&& (1 : Int32)) = 0 then fX3_words_b79 k11 v1 u0 v4 v6 v7 (1 : Int32) S else
fX3_words_b78 k11 v1 u0 v4 v6 v7 S)))

def fX3_words_b11 (k11 : Int32 → Int64 → Int32 → Int32 → Int32 → MS → Option MS) (v1 : Int32) (v2 : Int64) (v4 : Int32) (v5 : Int32) (v6 : Int32) (S : MS) : Option MS :=
(if v1 ≤ v6 then (if v5 = 0 then (zB1 (fX3_word (97 : Int32) (100 : Int32) (100 : Int32) (0 : Int32) (0 : Int32)) (fun r_135 =>
(if (lg_cmp v2 r_135) = 0 then fX3_words_b211 (0 : Int32) S else
(zB1 (fX3_word (98 : Int32) (121 : Int32) (0 : Int32) (0 : Int32) (0 : Int32)) (fun r_154 =>
(if (lg_cmp v2 r_154) = 0 then fX3_words_b211 (1 : Int32) S else
(zB1 (fX3_word (116 : Int32) (105 : Int32) (109 : Int32) (101 : Int32) (115 : Int32)) (fun r_176 =>
(if (lg_cmp v2 r_176) = 0 then fX3_words_b211 (2 : Int32) S else
(zB1 (fX3_word (99 : Int32) (108 : Int32) (97 : Int32) (105 : Int32) (109 : Int32)) (fun r_198 =>
(if (lg_cmp v2 r_198) = 0 then fX3_words_b211 (3 : Int32) S else
fX3_words_b211 (-9 : Int32) S)))))))))))) else
(zL (m_token_u S (1 : Int32)) (fun S_115 =>
(zL (m_value_u S_115 v4) (fun S_121 =>
some S_121))))) else
(zGI ((m_place S) + v6) 400
((zL ((m_text S) ((m_place S) + v6).toNatClampNeg) (fun n_29 =>
(if (6 : Int32) ≤ v6 then fX3_words_b48 k11 v1 v4 v5 v6 n_29 v2 S else
(zB1 (fX3_add v2 n_29) (fun r_41 =>
fX3_words_b48 k11 v1 v4 v5 v6 n_29 r_41 S))))))))
def fX3_words_b11L : Nat → Int32 → Int64 → Int32 → Int32 → Int32 → MS → Option MS
  | 0, _, _, _, _, _, _ => none
  | n + 1, v1, v2, v4, v5, v6, S => fX3_words_b11 (fX3_words_b11L n) v1 v2 v4 v5 v6 S

def fX3_words (a1 : Int32) (S : MS) : Option MS :=
fX3_words_b11L zF a1 (0 : Int64) (0 : Int32) (1 : Int32) (0 : Int32) S
set_option maxHeartbeats 4000000 in
set_option maxRecDepth 100000 in
theorem kX3_words (l : Launch) (zq : Nat → Nat) (D : va_G) (cy : Nat → ClassId) (ad : Nat → Nat) (a1 : Int32) (S S' : MS) (hf : fX3_words a1 S = some S') : zMet l yX3_words wsX3_words 2 46 zq D (tM cy) (wM cy ad S) [.ref (ad 0), .int a1] none (wM cy ad S') := by
  refine zMet.of cX3_words 8 none (by decide) rfl (Nat.le_of_ble_eq_true rfl) ?_
  intro p e s m args below meth c A ls C hl hI
  have hl : lv_has ls 8 [(0, .ref (ad 0)), (1, .int a1)] := hl
  have C : zC p s m args meth c cX3_words 8 none RX3 wsX3_words D (tM cy) zq A := C
  obtain ⟨hx, hb, hml, hown, hts, hret, hlk, hK, hX, hA⟩ := id C
  have hiX3 : ∀ w ∈ wsX30, w ∈ wsX3_words := by decide +kernel
  obtain ⟨Q, hQ⟩ : ∃ Q, Q = MQ below (zQ D (tM cy) (wM cy ad S') none A) args s 0 0 A := ⟨_, rfl⟩
  rw [← hQ]
  have hb211 : ∀ (u0 : Int32) (S : MS) (H : Heap) (locs : List Loc) (ls : Array Slot), fX3_words_b211 u0 S = some S' → zI D A s H locs (wM cy ad S) → lv_has ls 8 [(0, .ref (ad 0))] → W p l e { frames := 2, cells := 0, slots := 0, locals := 46 } s m args below meth c H locs 0 0 Q (F0 m 211 ls [.int u0, .ref (ad 0)]) := by
    intro u0 S H locs ls hf hI hl
    unfold fX3_words_b211 at hf
    obtain ⟨S_211, eS_211, hf⟩ := zL_e hf
    refine z_put (D := D) (ci := 3) (v := .int u0) (ty := .int) (C := RX3) (T := TX3) (N := 27) (w2 := (wM cy ad S_211)) hx hb hts hiX3 tyX3 tyX3_ok nmX3 hown hK hI 0 rfl rfl 8 (by decide) (hts (.fieldLink RX3 91 "NoughtSumsModel" "value" "I") (by decide +kernel)) (fun _ h9 => h9) rfl (by decide +kernel) rfl rfl (Nat.le_of_ble_eq_true rfl) dX3_words_211 (by rw [eS_211]; rfl) (fun H locs hI => ?_)
    refine lv_aload_n hx hb dX3_words_214 rfl (lv_at hl 0 rfl) ?_
    refine lv_aload_n hx hb dX3_words_215 rfl (lv_at hl 0 rfl) ?_
    refine va_get (D := D) (ci := 3) (v := .int (m_value S_211)) (C := RX3) (T := TX3) (N := 27) hx hb hts hiX3 hown hK hI.1 0 rfl rfl 8 (by decide) (hts (.fieldLink RX3 91 "NoughtSumsModel" "value" "I") (by decide +kernel)) (fun _ h9 => h9) rfl dX3_words_216 ?_
    refine lv_bipush (v := -9) hx hb dX3_words_219 (by decide) ?_
    refine lv_icmp_ne (tgt := 229) hx hb dX3_words_221 (by decide) (fun c_221 => ?_) (fun c_221 => ?_)
    · replace hf := zIf c_221 hf
      refine lv_iconst (v := 2) hx hb dX3_words_229 (by decide) ?_
      obtain ⟨S_230, eS_230, hf⟩ := zL_e hf
      refine z_put (D := D) (ci := 3) (v := .int (2 : Int32)) (ty := .int) (C := RX3) (T := TX3) (N := 27) (w2 := (wM cy ad S_230)) hx hb hts hiX3 tyX3 tyX3_ok nmX3 hown hK hI 0 rfl rfl 6 (by decide) (hts (.fieldLink RX3 88 "NoughtSumsModel" "token" "I") (by decide +kernel)) (fun _ h9 => h9) rfl (by decide +kernel) rfl rfl (Nat.le_of_ble_eq_true rfl) dX3_words_230 (by rw [eS_230]; rfl) (fun H locs hI => ?_)
      have h2 := zP1 hf
      rw [hQ]
      exact z_vret C (by rw [h2]; exact hI) rfl dX3_words_233
    · replace hf := zIt c_221 hf
      refine lv_bipush (v := 6) hx hb dX3_words_224 (by decide) ?_
      refine lv_goto (tgt := 230) hx hb dX3_words_226 (by decide) ?_
      obtain ⟨S_230, eS_230, hf⟩ := zL_e hf
      refine z_put (D := D) (ci := 3) (v := .int (6 : Int32)) (ty := .int) (C := RX3) (T := TX3) (N := 27) (w2 := (wM cy ad S_230)) hx hb hts hiX3 tyX3 tyX3_ok nmX3 hown hK hI 0 rfl rfl 6 (by decide) (hts (.fieldLink RX3 88 "NoughtSumsModel" "token" "I") (by decide +kernel)) (fun _ h9 => h9) rfl (by decide +kernel) rfl rfl (Nat.le_of_ble_eq_true rfl) dX3_words_230 (by rw [eS_230]; rfl) (fun H locs hI => ?_)
      have h2 := zP1 hf
      rw [hQ]
      exact z_vret C (by rw [h2]; exact hI) rfl dX3_words_233
  have hb99 : ∀ (k11 : Int32 → Int64 → Int32 → Int32 → Int32 → MS → Option MS) (hk11 : ∀ (v1 : Int32) (v2 : Int64) (v4 : Int32) (v5 : Int32) (v6 : Int32) (S : MS) (H : Heap) (locs : List Loc) (ls : Array Slot), k11 v1 v2 v4 v5 v6 S = some S' → zI D A s H locs (wM cy ad S) → lv_has ls 8 [(0, .ref (ad 0)), (1, .int v1), (2, .long v2), (4, .int v4), (5, .int v5), (6, .int v6)] → W p l e { frames := 2, cells := 0, slots := 0, locals := 46 } s m args below meth c H locs 0 0 Q (F0 m 11 ls [])), ∀ (v1 : Int32) (v2 : Int64) (v5 : Int32) (v6 : Int32) (u0 : Int32) (u1 : Int32) (S : MS) (H : Heap) (locs : List Loc) (ls : Array Slot), fX3_words_b99 k11 v1 v2 v5 v6 u0 u1 S = some S' → zI D A s H locs (wM cy ad S) → lv_has ls 8 [(0, .ref (ad 0)), (1, .int v1), (2, .long v2), (5, .int v5), (6, .int v6)] → W p l e { frames := 2, cells := 0, slots := 0, locals := 46 } s m args below meth c H locs 0 0 Q (F0 m 99 ls [.int u0, .int u1]) := by
    intro k11 hk11 v1 v2 v5 v6 u0 u1 S H locs ls hf hI hl
    unfold fX3_words_b99 at hf
    refine lv_ior hx hb dX3_words_99 ?_
    refine lv_istore (lv' := [(4, .int (u1 ||| u0)), (0, .ref (ad 0)), (1, .int v1), (2, .long v2), (5, .int v5), (6, .int v6)]) hx hb dX3_words_100 hl (by decide) rfl (fun ls hl => ?_)
    refine lv_iinc (v := (v6 + (1 : Int32))) (lv' := [(6, .int (v6 + (1 : Int32))), (4, .int (u1 ||| u0)), (0, .ref (ad 0)), (1, .int v1), (2, .long v2), (5, .int v5)]) hx hb dX3_words_102 hl (k := 5) rfl rfl (by decide) rfl (fun ls hl => ?_)
    refine lv_goto (tgt := 11) hx hb dX3_words_105 (by decide) ?_
    exact hk11 v1 v2 (u1 ||| u0) v5 (v6 + (1 : Int32)) S _ _ _ hf hI (lv_sub hl [2, 3, 4, 1, 5, 0] rfl)
  have hb79 : ∀ (k11 : Int32 → Int64 → Int32 → Int32 → Int32 → MS → Option MS) (hk11 : ∀ (v1 : Int32) (v2 : Int64) (v4 : Int32) (v5 : Int32) (v6 : Int32) (S : MS) (H : Heap) (locs : List Loc) (ls : Array Slot), k11 v1 v2 v4 v5 v6 S = some S' → zI D A s H locs (wM cy ad S) → lv_has ls 8 [(0, .ref (ad 0)), (1, .int v1), (2, .long v2), (4, .int v4), (5, .int v5), (6, .int v6)] → W p l e { frames := 2, cells := 0, slots := 0, locals := 46 } s m args below meth c H locs 0 0 Q (F0 m 11 ls [])), ∀ (v1 : Int32) (v2 : Int64) (v4 : Int32) (v6 : Int32) (v7 : Int32) (u0 : Int32) (S : MS) (H : Heap) (locs : List Loc) (ls : Array Slot), fX3_words_b79 k11 v1 v2 v4 v6 v7 u0 S = some S' → zI D A s H locs (wM cy ad S) → lv_has ls 8 [(0, .ref (ad 0)), (1, .int v1), (2, .long v2), (4, .int v4), (6, .int v6), (7, .int v7)] → W p l e { frames := 2, cells := 0, slots := 0, locals := 46 } s m args below meth c H locs 0 0 Q (F0 m 79 ls [.int u0]) := by
    intro k11 hk11 v1 v2 v4 v6 v7 u0 S H locs ls hf hI hl
    unfold fX3_words_b79 at hf
    refine lv_istore (lv' := [(5, .int u0), (0, .ref (ad 0)), (1, .int v1), (2, .long v2), (4, .int v4), (6, .int v6), (7, .int v7)]) hx hb dX3_words_79 hl (by decide) rfl (fun ls hl => ?_)
    refine lv_iload hx hb dX3_words_81 (lv_at hl 4 rfl) ?_
    refine lv_iload hx hb dX3_words_83 (lv_at hl 0 rfl) ?_
    refine lv_if_eq (tgt := 98) hx hb dX3_words_85 (by decide) (fun c_85 => ?_) (fun c_85 => ?_)
    · replace hf := zIt c_85 hf
      refine lv_iconst (v := 0) hx hb dX3_words_98 (by decide) ?_
      exact hb99 k11 hk11 v1 v2 u0 v6 (0 : Int32) v4 S _ _ _ hf hI (lv_sub hl [1, 2, 3, 0, 5] rfl)
    · replace hf := zIf c_85 hf
      refine lv_iconst (v := 1) hx hb dX3_words_88 (by decide) ?_
      refine lv_iload hx hb dX3_words_89 (lv_at hl 6 rfl) ?_
      refine lv_bipush (v := 97) hx hb dX3_words_91 (by decide) ?_
      refine lv_isub hx hb dX3_words_93 ?_
      refine lv_ishl hx hb dX3_words_94 ?_
      refine lv_goto (tgt := 99) hx hb dX3_words_95 (by decide) ?_
      exact hb99 k11 hk11 v1 v2 u0 v6 ((1 : Int32) <<< ((v7 - (97 : Int32)) &&& 31)) v4 S _ _ _ hf hI (lv_sub hl [1, 2, 3, 0, 5] rfl)
  have hb78 : ∀ (k11 : Int32 → Int64 → Int32 → Int32 → Int32 → MS → Option MS) (hk11 : ∀ (v1 : Int32) (v2 : Int64) (v4 : Int32) (v5 : Int32) (v6 : Int32) (S : MS) (H : Heap) (locs : List Loc) (ls : Array Slot), k11 v1 v2 v4 v5 v6 S = some S' → zI D A s H locs (wM cy ad S) → lv_has ls 8 [(0, .ref (ad 0)), (1, .int v1), (2, .long v2), (4, .int v4), (5, .int v5), (6, .int v6)] → W p l e { frames := 2, cells := 0, slots := 0, locals := 46 } s m args below meth c H locs 0 0 Q (F0 m 11 ls [])), ∀ (v1 : Int32) (v2 : Int64) (v4 : Int32) (v6 : Int32) (v7 : Int32) (S : MS) (H : Heap) (locs : List Loc) (ls : Array Slot), fX3_words_b78 k11 v1 v2 v4 v6 v7 S = some S' → zI D A s H locs (wM cy ad S) → lv_has ls 8 [(0, .ref (ad 0)), (1, .int v1), (2, .long v2), (4, .int v4), (6, .int v6), (7, .int v7)] → W p l e { frames := 2, cells := 0, slots := 0, locals := 46 } s m args below meth c H locs 0 0 Q (F0 m 78 ls []) := by
    intro k11 hk11 v1 v2 v4 v6 v7 S H locs ls hf hI hl
    unfold fX3_words_b78 at hf
    refine lv_iconst (v := 0) hx hb dX3_words_78 (by decide) ?_
    exact hb79 k11 hk11 v1 v2 v4 v6 v7 (0 : Int32) S _ _ _ hf hI (lv_sub hl [0, 1, 2, 3, 4, 5] rfl)
  have hb48 : ∀ (k11 : Int32 → Int64 → Int32 → Int32 → Int32 → MS → Option MS) (hk11 : ∀ (v1 : Int32) (v2 : Int64) (v4 : Int32) (v5 : Int32) (v6 : Int32) (S : MS) (H : Heap) (locs : List Loc) (ls : Array Slot), k11 v1 v2 v4 v5 v6 S = some S' → zI D A s H locs (wM cy ad S) → lv_has ls 8 [(0, .ref (ad 0)), (1, .int v1), (2, .long v2), (4, .int v4), (5, .int v5), (6, .int v6)] → W p l e { frames := 2, cells := 0, slots := 0, locals := 46 } s m args below meth c H locs 0 0 Q (F0 m 11 ls [])), ∀ (v1 : Int32) (v4 : Int32) (v5 : Int32) (v6 : Int32) (v7 : Int32) (u0 : Int64) (S : MS) (H : Heap) (locs : List Loc) (ls : Array Slot), fX3_words_b48 k11 v1 v4 v5 v6 v7 u0 S = some S' → zI D A s H locs (wM cy ad S) → lv_has ls 8 [(0, .ref (ad 0)), (1, .int v1), (4, .int v4), (5, .int v5), (6, .int v6), (7, .int v7)] → W p l e { frames := 2, cells := 0, slots := 0, locals := 46 } s m args below meth c H locs 0 0 Q (F0 m 48 ls [.long u0]) := by
    intro k11 hk11 v1 v4 v5 v6 v7 u0 S H locs ls hf hI hl
    unfold fX3_words_b48 at hf
    refine lv_lstore_n (lv' := [(2, .long u0), (0, .ref (ad 0)), (1, .int v1), (4, .int v4), (5, .int v5), (6, .int v6), (7, .int v7)]) hx hb dX3_words_48 rfl hl (by decide) rfl (fun ls hl => ?_)
    refine lv_iload hx hb dX3_words_49 (lv_at hl 4 rfl) ?_
    refine lv_if_eq (tgt := 78) hx hb dX3_words_51 (by decide) (fun c_51 => ?_) (fun c_51 => ?_)
    · replace hf := zIt c_51 hf
      exact hb78 k11 hk11 v1 u0 v4 v6 v7 S _ _ _ hf hI (lv_sub hl [1, 2, 0, 3, 5, 6] rfl)
    · replace hf := zIf c_51 hf
      refine lv_iload hx hb dX3_words_54 (lv_at hl 6 rfl) ?_
      refine lv_bipush (v := 102) hx hb dX3_words_56 (by decide) ?_
      refine lv_icmp_gt (tgt := 78) hx hb dX3_words_58 (by decide) (fun c_58 => ?_) (fun c_58 => ?_)
      · replace hf := zIt c_58 hf
        exact hb78 k11 hk11 v1 u0 v4 v6 v7 S _ _ _ hf hI (lv_sub hl [1, 2, 0, 3, 5, 6] rfl)
      · replace hf := zIf c_58 hf
        refine lv_iload hx hb dX3_words_61 (lv_at hl 3 rfl) ?_
        refine lv_iload hx hb dX3_words_63 (lv_at hl 6 rfl) ?_
        refine lv_bipush (v := 97) hx hb dX3_words_65 (by decide) ?_
        refine lv_isub hx hb dX3_words_67 ?_
        refine lv_ishr hx hb dX3_words_68 ?_
        refine lv_iconst (v := 1) hx hb dX3_words_69 (by decide) ?_
        refine lv_iand hx hb dX3_words_70 ?_
        refine lv_if_ne (tgt := 78) hx hb dX3_words_71 (by decide) (fun c_71 => ?_) (fun c_71 => ?_)
        · replace hf := zIf c_71 hf
          exact hb78 k11 hk11 v1 u0 v4 v6 v7 S _ _ _ hf hI (lv_sub hl [1, 2, 0, 3, 5, 6] rfl)
        · replace hf := zIt c_71 hf
          refine lv_iconst (v := 1) hx hb dX3_words_74 (by decide) ?_
          refine lv_goto (tgt := 79) hx hb dX3_words_75 (by decide) ?_
          exact hb79 k11 hk11 v1 u0 v4 v6 v7 (1 : Int32) S _ _ _ hf hI (lv_sub hl [1, 2, 0, 3, 5, 6] rfl)
  have hb11 : ∀ (n : Nat), ∀ (v1 : Int32) (v2 : Int64) (v4 : Int32) (v5 : Int32) (v6 : Int32) (S : MS) (H : Heap) (locs : List Loc) (ls : Array Slot), fX3_words_b11L n v1 v2 v4 v5 v6 S = some S' → zI D A s H locs (wM cy ad S) → lv_has ls 8 [(0, .ref (ad 0)), (1, .int v1), (2, .long v2), (4, .int v4), (5, .int v5), (6, .int v6)] → W p l e { frames := 2, cells := 0, slots := 0, locals := 46 } s m args below meth c H locs 0 0 Q (F0 m 11 ls []) := by
    intro n
    induction n with
    | zero => intro v1 v2 v4 v5 v6 S H locs ls hf; cases (show (none : Option MS) = some S' from hf)
    | succ n ih =>
      intro v1 v2 v4 v5 v6 S H locs ls hf hI hl
      have hf : fX3_words_b11 (fX3_words_b11L n) v1 v2 v4 v5 v6 S = some S' := hf
      unfold fX3_words_b11 at hf
      refine lv_iload hx hb dX3_words_11 (lv_at hl 5 rfl) ?_
      refine lv_iload_n hx hb dX3_words_13 rfl (lv_at hl 1 rfl) ?_
      refine lv_icmp_ge (tgt := 108) hx hb dX3_words_14 (by decide) (fun c_14 => ?_) (fun c_14 => ?_)
      · replace hf := zIt c_14 hf
        refine lv_iload hx hb dX3_words_108 (lv_at hl 4 rfl) ?_
        refine lv_if_eq (tgt := 125) hx hb dX3_words_110 (by decide) (fun c_110 => ?_) (fun c_110 => ?_)
        · replace hf := zIt c_110 hf
          refine lv_aload_n hx hb dX3_words_125 rfl (lv_at hl 0 rfl) ?_
          refine lv_lload_n hx hb dX3_words_126 rfl (lv_at hl 2 rfl) ?_
          refine lv_bipush (v := 97) hx hb dX3_words_127 (by decide) ?_
          refine lv_bipush (v := 100) hx hb dX3_words_129 (by decide) ?_
          refine lv_bipush (v := 100) hx hb dX3_words_131 (by decide) ?_
          refine lv_iconst (v := 0) hx hb dX3_words_133 (by decide) ?_
          refine lv_iconst (v := 0) hx hb dX3_words_134 (by decide) ?_
          obtain ⟨r_135, hf_135, hf⟩ := zB1_s hf
          refine z_callS C 5 (kX3_word l zq D (97 : Int32) (100 : Int32) (100 : Int32) (0 : Int32) (0 : Int32) r_135 hf_135) gX3_words_X3_word rfl (by decide +kernel) ⟨by decide, by decide⟩ hI rfl hl.1 rfl (Nat.le_of_ble_eq_true rfl) dX3_words_135 ⟨by decide, by decide⟩ (st2 := [.long r_135, .long v2, .ref (ad 0)]) rfl (fun H locs hI => ?_)
          refine W.lcmp hx hb dX3_words_138 ?_
          refine lv_if_ne (tgt := 146) hx hb dX3_words_139 (by decide) (fun c_139 => ?_) (fun c_139 => ?_)
          · replace hf := zIf c_139 hf
            refine lv_lload_n hx hb dX3_words_146 rfl (lv_at hl 2 rfl) ?_
            refine lv_bipush (v := 98) hx hb dX3_words_147 (by decide) ?_
            refine lv_bipush (v := 121) hx hb dX3_words_149 (by decide) ?_
            refine lv_iconst (v := 0) hx hb dX3_words_151 (by decide) ?_
            refine lv_iconst (v := 0) hx hb dX3_words_152 (by decide) ?_
            refine lv_iconst (v := 0) hx hb dX3_words_153 (by decide) ?_
            obtain ⟨r_154, hf_154, hf⟩ := zB1_s hf
            refine z_callS C 5 (kX3_word l zq D (98 : Int32) (121 : Int32) (0 : Int32) (0 : Int32) (0 : Int32) r_154 hf_154) gX3_words_X3_word rfl (by decide +kernel) ⟨by decide, by decide⟩ hI rfl hl.1 rfl (Nat.le_of_ble_eq_true rfl) dX3_words_154 ⟨by decide, by decide⟩ (st2 := [.long r_154, .long v2, .ref (ad 0)]) rfl (fun H locs hI => ?_)
            refine W.lcmp hx hb dX3_words_157 ?_
            refine lv_if_ne (tgt := 165) hx hb dX3_words_158 (by decide) (fun c_158 => ?_) (fun c_158 => ?_)
            · replace hf := zIf c_158 hf
              refine lv_lload_n hx hb dX3_words_165 rfl (lv_at hl 2 rfl) ?_
              refine lv_bipush (v := 116) hx hb dX3_words_166 (by decide) ?_
              refine lv_bipush (v := 105) hx hb dX3_words_168 (by decide) ?_
              refine lv_bipush (v := 109) hx hb dX3_words_170 (by decide) ?_
              refine lv_bipush (v := 101) hx hb dX3_words_172 (by decide) ?_
              refine lv_bipush (v := 115) hx hb dX3_words_174 (by decide) ?_
              obtain ⟨r_176, hf_176, hf⟩ := zB1_s hf
              refine z_callS C 5 (kX3_word l zq D (116 : Int32) (105 : Int32) (109 : Int32) (101 : Int32) (115 : Int32) r_176 hf_176) gX3_words_X3_word rfl (by decide +kernel) ⟨by decide, by decide⟩ hI rfl hl.1 rfl (Nat.le_of_ble_eq_true rfl) dX3_words_176 ⟨by decide, by decide⟩ (st2 := [.long r_176, .long v2, .ref (ad 0)]) rfl (fun H locs hI => ?_)
              refine W.lcmp hx hb dX3_words_179 ?_
              refine lv_if_ne (tgt := 187) hx hb dX3_words_180 (by decide) (fun c_180 => ?_) (fun c_180 => ?_)
              · replace hf := zIf c_180 hf
                refine lv_lload_n hx hb dX3_words_187 rfl (lv_at hl 2 rfl) ?_
                refine lv_bipush (v := 99) hx hb dX3_words_188 (by decide) ?_
                refine lv_bipush (v := 108) hx hb dX3_words_190 (by decide) ?_
                refine lv_bipush (v := 97) hx hb dX3_words_192 (by decide) ?_
                refine lv_bipush (v := 105) hx hb dX3_words_194 (by decide) ?_
                refine lv_bipush (v := 109) hx hb dX3_words_196 (by decide) ?_
                obtain ⟨r_198, hf_198, hf⟩ := zB1_s hf
                refine z_callS C 5 (kX3_word l zq D (99 : Int32) (108 : Int32) (97 : Int32) (105 : Int32) (109 : Int32) r_198 hf_198) gX3_words_X3_word rfl (by decide +kernel) ⟨by decide, by decide⟩ hI rfl hl.1 rfl (Nat.le_of_ble_eq_true rfl) dX3_words_198 ⟨by decide, by decide⟩ (st2 := [.long r_198, .long v2, .ref (ad 0)]) rfl (fun H locs hI => ?_)
                refine W.lcmp hx hb dX3_words_201 ?_
                refine lv_if_ne (tgt := 209) hx hb dX3_words_202 (by decide) (fun c_202 => ?_) (fun c_202 => ?_)
                · replace hf := zIf c_202 hf
                  refine lv_bipush (v := -9) hx hb dX3_words_209 (by decide) ?_
                  exact hb211 (-9 : Int32) S _ _ _ hf hI (lv_sub hl [0] rfl)
                · replace hf := zIt c_202 hf
                  refine lv_iconst (v := 3) hx hb dX3_words_205 (by decide) ?_
                  refine lv_goto (tgt := 211) hx hb dX3_words_206 (by decide) ?_
                  exact hb211 (3 : Int32) S _ _ _ hf hI (lv_sub hl [0] rfl)
              · replace hf := zIt c_180 hf
                refine lv_iconst (v := 2) hx hb dX3_words_183 (by decide) ?_
                refine lv_goto (tgt := 211) hx hb dX3_words_184 (by decide) ?_
                exact hb211 (2 : Int32) S _ _ _ hf hI (lv_sub hl [0] rfl)
            · replace hf := zIt c_158 hf
              refine lv_iconst (v := 1) hx hb dX3_words_161 (by decide) ?_
              refine lv_goto (tgt := 211) hx hb dX3_words_162 (by decide) ?_
              exact hb211 (1 : Int32) S _ _ _ hf hI (lv_sub hl [0] rfl)
          · replace hf := zIt c_139 hf
            refine lv_iconst (v := 0) hx hb dX3_words_142 (by decide) ?_
            refine lv_goto (tgt := 211) hx hb dX3_words_143 (by decide) ?_
            exact hb211 (0 : Int32) S _ _ _ hf hI (lv_sub hl [0] rfl)
        · replace hf := zIf c_110 hf
          refine lv_aload_n hx hb dX3_words_113 rfl (lv_at hl 0 rfl) ?_
          refine lv_iconst (v := 1) hx hb dX3_words_114 (by decide) ?_
          obtain ⟨S_115, eS_115, hf⟩ := zL_e hf
          refine z_put (D := D) (ci := 3) (v := .int (1 : Int32)) (ty := .int) (C := RX3) (T := TX3) (N := 27) (w2 := (wM cy ad S_115)) hx hb hts hiX3 tyX3 tyX3_ok nmX3 hown hK hI 0 rfl rfl 6 (by decide) (hts (.fieldLink RX3 88 "NoughtSumsModel" "token" "I") (by decide +kernel)) (fun _ h9 => h9) rfl (by decide +kernel) rfl rfl (Nat.le_of_ble_eq_true rfl) dX3_words_115 (by rw [eS_115]; rfl) (fun H locs hI => ?_)
          refine lv_aload_n hx hb dX3_words_118 rfl (lv_at hl 0 rfl) ?_
          refine lv_iload hx hb dX3_words_119 (lv_at hl 3 rfl) ?_
          obtain ⟨S_121, eS_121, hf⟩ := zL_e hf
          refine z_put (D := D) (ci := 3) (v := .int v4) (ty := .int) (C := RX3) (T := TX3) (N := 27) (w2 := (wM cy ad S_121)) hx hb hts hiX3 tyX3 tyX3_ok nmX3 hown hK hI 0 rfl rfl 8 (by decide) (hts (.fieldLink RX3 91 "NoughtSumsModel" "value" "I") (by decide +kernel)) (fun _ h9 => h9) rfl (by decide +kernel) rfl rfl (Nat.le_of_ble_eq_true rfl) dX3_words_121 (by rw [eS_121]; rfl) (fun H locs hI => ?_)
          have h2 := zP1 hf
          rw [hQ]
          exact z_vret C (by rw [h2]; exact hI) rfl dX3_words_124
      · replace hf := zIf c_14 hf
        refine lv_aload_n hx hb dX3_words_17 rfl (lv_at hl 0 rfl) ?_
        refine va_get (D := D) (ci := 3) (v := .ref (ad 2)) (C := RX3) (T := TX3) (N := 27) hx hb hts hiX3 hown hK hI.1 0 rfl rfl 3 (by decide) (hts (.fieldLink RX3 13 "NoughtSumsModel" "text" "[I") (by decide +kernel)) (fun _ h9 => h9) rfl dX3_words_18 ?_
        refine lv_aload_n hx hb dX3_words_21 rfl (lv_at hl 0 rfl) ?_
        refine va_get (D := D) (ci := 3) (v := .int (m_place S)) (C := RX3) (T := TX3) (N := 27) hx hb hts hiX3 hown hK hI.1 0 rfl rfl 7 (by decide) (hts (.fieldLink RX3 85 "NoughtSumsModel" "place" "I") (by decide +kernel)) (fun _ h9 => h9) rfl dX3_words_22 ?_
        refine lv_iload hx hb dX3_words_25 (lv_at hl 5 rfl) ?_
        refine lv_iadd hx hb dX3_words_27 ?_
        obtain ⟨g_28, hf⟩ := zGI_s hf
        refine va_iald (f := (m_text S)) hx hb hK hI.1 2 1 rfl rfl g_28 dX3_words_28 ?_
        refine lv_topi (fun n_29 e_29 => ?_)
        replace hf := zL_s hf e_29
        refine lv_istore (lv' := [(7, .int n_29), (0, .ref (ad 0)), (1, .int v1), (2, .long v2), (4, .int v4), (5, .int v5), (6, .int v6)]) hx hb dX3_words_29 hl (by decide) rfl (fun ls hl => ?_)
        refine lv_iload hx hb dX3_words_31 (lv_at hl 6 rfl) ?_
        refine lv_bipush (v := 6) hx hb dX3_words_33 (by decide) ?_
        refine lv_icmp_ge (tgt := 47) hx hb dX3_words_35 (by decide) (fun c_35 => ?_) (fun c_35 => ?_)
        · replace hf := zIt c_35 hf
          refine lv_lload_n hx hb dX3_words_47 rfl (lv_at hl 3 rfl) ?_
          exact hb48 (fX3_words_b11L n) ih v1 v4 v5 v6 n_29 v2 S _ _ _ hf hI (lv_sub hl [1, 2, 4, 5, 6, 0] rfl)
        · replace hf := zIf c_35 hf
          refine lv_lload_n hx hb dX3_words_38 rfl (lv_at hl 3 rfl) ?_
          refine lv_iload hx hb dX3_words_39 (lv_at hl 0 rfl) ?_
          obtain ⟨r_41, hf_41, hf⟩ := zB1_s hf
          refine z_callS C 2 (kX3_add l zq D v2 n_29 r_41 hf_41) gX3_words_X3_add rfl (by decide +kernel) ⟨by decide, by decide⟩ hI rfl hl.1 rfl (Nat.le_of_ble_eq_true rfl) dX3_words_41 ⟨by decide, by decide⟩ (st2 := [.long r_41]) rfl (fun H locs hI => ?_)
          refine lv_goto (tgt := 48) hx hb dX3_words_44 (by decide) ?_
          exact hb48 (fX3_words_b11L n) ih v1 v4 v5 v6 n_29 r_41 S _ _ _ hf hI (lv_sub hl [1, 2, 4, 5, 6, 0] rfl)
  unfold fX3_words at hf
  refine lv_lconst (v := 0) hx hb dX3_words_0 (by decide) ?_
  refine lv_lstore_n (lv' := [(2, .long (0 : Int64)), (0, .ref (ad 0)), (1, .int a1)]) hx hb dX3_words_1 rfl hl (by decide) rfl (fun ls hl => ?_)
  refine lv_iconst (v := 0) hx hb dX3_words_2 (by decide) ?_
  refine lv_istore (lv' := [(4, .int (0 : Int32)), (2, .long (0 : Int64)), (0, .ref (ad 0)), (1, .int a1)]) hx hb dX3_words_3 hl (by decide) rfl (fun ls hl => ?_)
  refine lv_iconst (v := 1) hx hb dX3_words_5 (by decide) ?_
  refine lv_istore (lv' := [(5, .int (1 : Int32)), (4, .int (0 : Int32)), (2, .long (0 : Int64)), (0, .ref (ad 0)), (1, .int a1)]) hx hb dX3_words_6 hl (by decide) rfl (fun ls hl => ?_)
  refine lv_iconst (v := 0) hx hb dX3_words_8 (by decide) ?_
  refine lv_istore (lv' := [(6, .int (0 : Int32)), (5, .int (1 : Int32)), (4, .int (0 : Int32)), (2, .long (0 : Int64)), (0, .ref (ad 0)), (1, .int a1)]) hx hb dX3_words_9 hl (by decide) rfl (fun ls hl => ?_)
  exact hb11 zF a1 (0 : Int64) (0 : Int32) (1 : Int32) (0 : Int32) S _ _ _ hf hI (lv_sub hl [4, 5, 3, 2, 1, 0] rfl)

def fX3_advances_b228 (S : MS) : Option MS :=
(zL (m_token_u S (6 : Int32)) (fun S_234 =>
some S_234))

def fX3_advances_b183 (k129 : Int32 → MS → Option MS) (v1 : Int32) (u0 : Int32) (S : MS) : Option MS :=
(zL (m_value_u S u0) (fun S_183 =>
(zL (m_next_u S_183 ((m_next S_183) + (1 : Int32))) (fun S_193 =>
k129 v1 S_193))))

def fX3_advances_b129 (k129 : Int32 → MS → Option MS) (v1 : Int32) (S : MS) : Option MS :=
(zB2 (fX3_byteAt (m_next S) S) (fun r_134 S_134 =>
(zB1 (fX3_in r_134 (48 : Int32) (57 : Int32)) (fun r_141 =>
(if r_141 = 0 then (if (99 : Int32) < (m_value S_134) then fX3_advances_b228 S_134 else
(if v1 = (48 : Int32) then (if ((m_next S_134) - (m_place S_134)) ≤ (1 : Int32) then (zL (m_token_u S_134 (3 : Int32)) (fun S_234 =>
some S_234)) else
fX3_advances_b228 S_134) else
(zL (m_token_u S_134 (3 : Int32)) (fun S_234 =>
some S_234)))) else
(if (m_value S_134) ≤ (99 : Int32) then (zB2 (fX3_byteAt (m_next S_134) S_134) (fun r_176 S_176 =>
fX3_advances_b183 k129 v1 ((((10 : Int32) * (m_value S_134)) + r_176) - (48 : Int32)) S_176)) else
fX3_advances_b183 k129 v1 (m_value S_134) S_134))))))
def fX3_advances_b129L : Nat → Int32 → MS → Option MS
  | 0, _, _ => none
  | n + 1, v1, S => fX3_advances_b129 (fX3_advances_b129L n) v1 S

def fX3_advances_b66 (k66 : MS → Option MS) (S : MS) : Option MS :=
(zB2 (fX3_byteAt (m_next S) S) (fun r_71 S_71 =>
(zB1 (fX3_in r_71 (97 : Int32) (122 : Int32)) (fun r_78 =>
(if r_78 = 0 then (zB1 (fX3_words ((m_next S_71) - (m_place S_71)) S_71) (fun S_107 =>
some S_107)) else
(zL (m_next_u S_71 ((m_next S_71) + (1 : Int32))) (fun S_91 =>
k66 S_91)))))))
def fX3_advances_b66L : Nat → MS → Option MS
  | 0, _ => none
  | n + 1, S => fX3_advances_b66 (fX3_advances_b66L n) S

def fX3_advances_b0 (k0 : MS → Option MS) (S : MS) : Option MS :=
(zB2 (fX3_byteAt (m_next S) S) (fun r_5 S_5 =>
(if r_5 = (32 : Int32) then (zL (m_next_u S_5 ((m_next S_5) + (1 : Int32))) (fun S_20 =>
k0 S_20)) else
(zL (m_place_u S_5 (m_next S_5)) (fun S_31 =>
(zB2 (fX3_byteAt (m_next S_31) S_31) (fun r_39 S_39 =>
(if 0 ≤ r_39 then (zB1 (fX3_in r_39 (97 : Int32) (122 : Int32)) (fun r_60 =>
(if r_60 = 0 then (zB1 (fX3_in r_39 (48 : Int32) (57 : Int32)) (fun r_118 =>
(if r_118 = 0 then (zL (m_next_u S_39 ((m_next S_39) + (1 : Int32))) (fun S_247 =>
(if r_39 = (43 : Int32) then (zL (m_token_u S_247 (4 : Int32)) (fun S_273 =>
some S_273)) else
(if r_39 = (59 : Int32) then (zL (m_token_u S_247 (5 : Int32)) (fun S_273 =>
some S_273)) else
(zL (m_token_u S_247 (6 : Int32)) (fun S_273 =>
some S_273)))))) else
(zL (m_value_u S_39 (0 : Int32)) (fun S_126 =>
fX3_advances_b129L zF r_39 S_126))))) else
fX3_advances_b66L zF S_39))) else
(zL (m_token_u S_39 (0 : Int32)) (fun S_49 =>
some S_49))))))))))
def fX3_advances_b0L : Nat → MS → Option MS
  | 0, _ => none
  | n + 1, S => fX3_advances_b0 (fX3_advances_b0L n) S

def fX3_advances  (S : MS) : Option MS :=
(zB2 (fX3_byteAt (m_next S) S) (fun r_5 S_5 =>
(if r_5 = (32 : Int32) then (zL (m_next_u S_5 ((m_next S_5) + (1 : Int32))) (fun S_20 =>
fX3_advances_b0L zF S_20)) else
(zL (m_place_u S_5 (m_next S_5)) (fun S_31 =>
(zB2 (fX3_byteAt (m_next S_31) S_31) (fun r_39 S_39 =>
(if 0 ≤ r_39 then (zB1 (fX3_in r_39 (97 : Int32) (122 : Int32)) (fun r_60 =>
(if r_60 = 0 then (zB1 (fX3_in r_39 (48 : Int32) (57 : Int32)) (fun r_118 =>
(if r_118 = 0 then (zL (m_next_u S_39 ((m_next S_39) + (1 : Int32))) (fun S_247 =>
(if r_39 = (43 : Int32) then (zL (m_token_u S_247 (4 : Int32)) (fun S_273 =>
some S_273)) else
(if r_39 = (59 : Int32) then (zL (m_token_u S_247 (5 : Int32)) (fun S_273 =>
some S_273)) else
(zL (m_token_u S_247 (6 : Int32)) (fun S_273 =>
some S_273)))))) else
(zL (m_value_u S_39 (0 : Int32)) (fun S_126 =>
fX3_advances_b129L zF r_39 S_126))))) else
fX3_advances_b66L zF S_39))) else
(zL (m_token_u S_39 (0 : Int32)) (fun S_49 =>
some S_49))))))))))
set_option maxHeartbeats 4000000 in
set_option maxRecDepth 100000 in
theorem kX3_advances (l : Launch) (zq : Nat → Nat) (D : va_G) (cy : Nat → ClassId) (ad : Nat → Nat)  (S S' : MS) (hf : fX3_advances S = some S') : zMet l yX3_advances wsX3_advances 3 73 zq D (tM cy) (wM cy ad S) [.ref (ad 0)] none (wM cy ad S') := by
  refine zMet.of cX3_advances 2 none (by decide) rfl (Nat.le_of_ble_eq_true rfl) ?_
  intro p e s m args below meth c A ls C hl hI
  have hl : lv_has ls 2 [(0, .ref (ad 0))] := hl
  have C : zC p s m args meth c cX3_advances 2 none RX3 wsX3_advances D (tM cy) zq A := C
  obtain ⟨hx, hb, hml, hown, hts, hret, hlk, hK, hX, hA⟩ := id C
  have hiX3 : ∀ w ∈ wsX30, w ∈ wsX3_advances := by decide +kernel
  obtain ⟨Q, hQ⟩ : ∃ Q, Q = MQ below (zQ D (tM cy) (wM cy ad S') none A) args s 0 0 A := ⟨_, rfl⟩
  rw [← hQ]
  have hb228 : ∀ (S : MS) (H : Heap) (locs : List Loc) (ls : Array Slot), fX3_advances_b228 S = some S' → zI D A s H locs (wM cy ad S) → lv_has ls 2 [] → W p l e { frames := 3, cells := 0, slots := 0, locals := 73 } s m args below meth c H locs 0 0 Q (F0 m 228 ls [.ref (ad 0)]) := by
    intro S H locs ls hf hI hl
    unfold fX3_advances_b228 at hf
    refine lv_bipush (v := 6) hx hb dX3_advances_228 (by decide) ?_
    refine lv_goto (tgt := 234) hx hb dX3_advances_230 (by decide) ?_
    obtain ⟨S_234, eS_234, hf⟩ := zL_e hf
    refine z_put (D := D) (ci := 3) (v := .int (6 : Int32)) (ty := .int) (C := RX3) (T := TX3) (N := 27) (w2 := (wM cy ad S_234)) hx hb hts hiX3 tyX3 tyX3_ok nmX3 hown hK hI 0 rfl rfl 6 (by decide) (hts (.fieldLink RX3 88 "NoughtSumsModel" "token" "I") (by decide +kernel)) (fun _ h9 => h9) rfl (by decide +kernel) rfl rfl (Nat.le_of_ble_eq_true rfl) dX3_advances_234 (by rw [eS_234]; rfl) (fun H locs hI => ?_)
    refine lv_goto (tgt := 276) hx hb dX3_advances_237 (by decide) ?_
    have h2 := zP1 hf
    rw [hQ]
    exact z_vret C (by rw [h2]; exact hI) rfl dX3_advances_276
  have hb183 : ∀ (k129 : Int32 → MS → Option MS) (hk129 : ∀ (v1 : Int32) (S : MS) (H : Heap) (locs : List Loc) (ls : Array Slot), k129 v1 S = some S' → zI D A s H locs (wM cy ad S) → lv_has ls 2 [(0, .ref (ad 0)), (1, .int v1)] → W p l e { frames := 3, cells := 0, slots := 0, locals := 73 } s m args below meth c H locs 0 0 Q (F0 m 129 ls [])), ∀ (v1 : Int32) (u0 : Int32) (S : MS) (H : Heap) (locs : List Loc) (ls : Array Slot), fX3_advances_b183 k129 v1 u0 S = some S' → zI D A s H locs (wM cy ad S) → lv_has ls 2 [(0, .ref (ad 0)), (1, .int v1)] → W p l e { frames := 3, cells := 0, slots := 0, locals := 73 } s m args below meth c H locs 0 0 Q (F0 m 183 ls [.int u0, .ref (ad 0)]) := by
    intro k129 hk129 v1 u0 S H locs ls hf hI hl
    unfold fX3_advances_b183 at hf
    obtain ⟨S_183, eS_183, hf⟩ := zL_e hf
    refine z_put (D := D) (ci := 3) (v := .int u0) (ty := .int) (C := RX3) (T := TX3) (N := 27) (w2 := (wM cy ad S_183)) hx hb hts hiX3 tyX3 tyX3_ok nmX3 hown hK hI 0 rfl rfl 8 (by decide) (hts (.fieldLink RX3 91 "NoughtSumsModel" "value" "I") (by decide +kernel)) (fun _ h9 => h9) rfl (by decide +kernel) rfl rfl (Nat.le_of_ble_eq_true rfl) dX3_advances_183 (by rw [eS_183]; rfl) (fun H locs hI => ?_)
    refine lv_aload_n hx hb dX3_advances_186 rfl (lv_at hl 0 rfl) ?_
    refine lv_dup hx hb dX3_advances_187 rfl ?_
    refine va_get (D := D) (ci := 3) (v := .int (m_next S_183)) (C := RX3) (T := TX3) (N := 27) hx hb hts hiX3 hown hK hI.1 0 rfl rfl 5 (by decide) (hts (.fieldLink RX3 98 "NoughtSumsModel" "next" "I") (by decide +kernel)) (fun _ h9 => h9) rfl dX3_advances_188 ?_
    refine lv_iconst (v := 1) hx hb dX3_advances_191 (by decide) ?_
    refine lv_iadd hx hb dX3_advances_192 ?_
    obtain ⟨S_193, eS_193, hf⟩ := zL_e hf
    refine z_put (D := D) (ci := 3) (v := .int ((m_next S_183) + (1 : Int32))) (ty := .int) (C := RX3) (T := TX3) (N := 27) (w2 := (wM cy ad S_193)) hx hb hts hiX3 tyX3 tyX3_ok nmX3 hown hK hI 0 rfl rfl 5 (by decide) (hts (.fieldLink RX3 98 "NoughtSumsModel" "next" "I") (by decide +kernel)) (fun _ h9 => h9) rfl (by decide +kernel) rfl rfl (Nat.le_of_ble_eq_true rfl) dX3_advances_193 (by rw [eS_193]; rfl) (fun H locs hI => ?_)
    refine lv_goto (tgt := 129) hx hb dX3_advances_196 (by decide) ?_
    exact hk129 v1 S_193 _ _ _ hf hI (lv_sub hl [0, 1] rfl)
  have hb129 : ∀ (n : Nat), ∀ (v1 : Int32) (S : MS) (H : Heap) (locs : List Loc) (ls : Array Slot), fX3_advances_b129L n v1 S = some S' → zI D A s H locs (wM cy ad S) → lv_has ls 2 [(0, .ref (ad 0)), (1, .int v1)] → W p l e { frames := 3, cells := 0, slots := 0, locals := 73 } s m args below meth c H locs 0 0 Q (F0 m 129 ls []) := by
    intro n
    induction n with
    | zero => intro v1 S H locs ls hf; cases (show (none : Option MS) = some S' from hf)
    | succ n ih =>
      intro v1 S H locs ls hf hI hl
      have hf : fX3_advances_b129 (fX3_advances_b129L n) v1 S = some S' := hf
      unfold fX3_advances_b129 at hf
      refine lv_aload_n hx hb dX3_advances_129 rfl (lv_at hl 0 rfl) ?_
      refine lv_aload_n hx hb dX3_advances_130 rfl (lv_at hl 0 rfl) ?_
      refine va_get (D := D) (ci := 3) (v := .int (m_next S)) (C := RX3) (T := TX3) (N := 27) hx hb hts hiX3 hown hK hI.1 0 rfl rfl 5 (by decide) (hts (.fieldLink RX3 98 "NoughtSumsModel" "next" "I") (by decide +kernel)) (fun _ h9 => h9) rfl dX3_advances_131 ?_
      obtain ⟨r_134, S_134, hf_134, hf⟩ := zB2_s hf
      refine z_callV (w2 := (wM cy ad S_134)) C 1 (kX3_byteAt l zq D cy ad (m_next S) S S_134 r_134 hf_134) gX3_advances_X3_byteAt rfl (by decide +kernel) ⟨by decide, by decide⟩ hI 0 rfl rfl rfl hl.1 rfl (Nat.le_of_ble_eq_true rfl) dX3_advances_134 ⟨by decide, by decide⟩ (st2 := [.int r_134]) rfl (fun H locs hI => ?_)
      refine lv_bipush (v := 48) hx hb dX3_advances_137 (by decide) ?_
      refine lv_bipush (v := 57) hx hb dX3_advances_139 (by decide) ?_
      obtain ⟨r_141, hf_141, hf⟩ := zB1_s hf
      refine z_callS C 3 (kX3_in l zq D r_134 (48 : Int32) (57 : Int32) r_141 hf_141) gX3_advances_X3_in rfl (by decide +kernel) ⟨by decide, by decide⟩ hI rfl hl.1 rfl (Nat.le_of_ble_eq_true rfl) dX3_advances_141 ⟨by decide, by decide⟩ (st2 := [.int r_141]) rfl (fun H locs hI => ?_)
      refine lv_if_eq (tgt := 199) hx hb dX3_advances_144 (by decide) (fun c_144 => ?_) (fun c_144 => ?_)
      · replace hf := zIt c_144 hf
        refine lv_aload_n hx hb dX3_advances_199 rfl (lv_at hl 0 rfl) ?_
        refine lv_aload_n hx hb dX3_advances_200 rfl (lv_at hl 0 rfl) ?_
        refine va_get (D := D) (ci := 3) (v := .int (m_value S_134)) (C := RX3) (T := TX3) (N := 27) hx hb hts hiX3 hown hK hI.1 0 rfl rfl 8 (by decide) (hts (.fieldLink RX3 91 "NoughtSumsModel" "value" "I") (by decide +kernel)) (fun _ h9 => h9) rfl dX3_advances_201 ?_
        refine lv_bipush (v := 99) hx hb dX3_advances_204 (by decide) ?_
        refine lv_icmp_gt (tgt := 228) hx hb dX3_advances_206 (by decide) (fun c_206 => ?_) (fun c_206 => ?_)
        · replace hf := zIt c_206 hf
          exact hb228 S_134 _ _ _ hf hI (lv_sub hl [] rfl)
        · replace hf := zIf c_206 hf
          refine lv_iload_n hx hb dX3_advances_209 rfl (lv_at hl 1 rfl) ?_
          refine lv_bipush (v := 48) hx hb dX3_advances_210 (by decide) ?_
          refine lv_icmp_ne (tgt := 233) hx hb dX3_advances_212 (by decide) (fun c_212 => ?_) (fun c_212 => ?_)
          · replace hf := zIf c_212 hf
            refine lv_iconst (v := 3) hx hb dX3_advances_233 (by decide) ?_
            obtain ⟨S_234, eS_234, hf⟩ := zL_e hf
            refine z_put (D := D) (ci := 3) (v := .int (3 : Int32)) (ty := .int) (C := RX3) (T := TX3) (N := 27) (w2 := (wM cy ad S_234)) hx hb hts hiX3 tyX3 tyX3_ok nmX3 hown hK hI 0 rfl rfl 6 (by decide) (hts (.fieldLink RX3 88 "NoughtSumsModel" "token" "I") (by decide +kernel)) (fun _ h9 => h9) rfl (by decide +kernel) rfl rfl (Nat.le_of_ble_eq_true rfl) dX3_advances_234 (by rw [eS_234]; rfl) (fun H locs hI => ?_)
            refine lv_goto (tgt := 276) hx hb dX3_advances_237 (by decide) ?_
            have h2 := zP1 hf
            rw [hQ]
            exact z_vret C (by rw [h2]; exact hI) rfl dX3_advances_276
          · replace hf := zIt c_212 hf
            refine lv_aload_n hx hb dX3_advances_215 rfl (lv_at hl 0 rfl) ?_
            refine va_get (D := D) (ci := 3) (v := .int (m_next S_134)) (C := RX3) (T := TX3) (N := 27) hx hb hts hiX3 hown hK hI.1 0 rfl rfl 5 (by decide) (hts (.fieldLink RX3 98 "NoughtSumsModel" "next" "I") (by decide +kernel)) (fun _ h9 => h9) rfl dX3_advances_216 ?_
            refine lv_aload_n hx hb dX3_advances_219 rfl (lv_at hl 0 rfl) ?_
            refine va_get (D := D) (ci := 3) (v := .int (m_place S_134)) (C := RX3) (T := TX3) (N := 27) hx hb hts hiX3 hown hK hI.1 0 rfl rfl 7 (by decide) (hts (.fieldLink RX3 85 "NoughtSumsModel" "place" "I") (by decide +kernel)) (fun _ h9 => h9) rfl dX3_advances_220 ?_
            refine lv_isub hx hb dX3_advances_223 ?_
            refine lv_iconst (v := 1) hx hb dX3_advances_224 (by decide) ?_
            refine lv_icmp_le (tgt := 233) hx hb dX3_advances_225 (by decide) (fun c_225 => ?_) (fun c_225 => ?_)
            · replace hf := zIt c_225 hf
              refine lv_iconst (v := 3) hx hb dX3_advances_233 (by decide) ?_
              obtain ⟨S_234, eS_234, hf⟩ := zL_e hf
              refine z_put (D := D) (ci := 3) (v := .int (3 : Int32)) (ty := .int) (C := RX3) (T := TX3) (N := 27) (w2 := (wM cy ad S_234)) hx hb hts hiX3 tyX3 tyX3_ok nmX3 hown hK hI 0 rfl rfl 6 (by decide) (hts (.fieldLink RX3 88 "NoughtSumsModel" "token" "I") (by decide +kernel)) (fun _ h9 => h9) rfl (by decide +kernel) rfl rfl (Nat.le_of_ble_eq_true rfl) dX3_advances_234 (by rw [eS_234]; rfl) (fun H locs hI => ?_)
              refine lv_goto (tgt := 276) hx hb dX3_advances_237 (by decide) ?_
              have h2 := zP1 hf
              rw [hQ]
              exact z_vret C (by rw [h2]; exact hI) rfl dX3_advances_276
            · replace hf := zIf c_225 hf
              exact hb228 S_134 _ _ _ hf hI (lv_sub hl [] rfl)
      · replace hf := zIf c_144 hf
        refine lv_aload_n hx hb dX3_advances_147 rfl (lv_at hl 0 rfl) ?_
        refine lv_aload_n hx hb dX3_advances_148 rfl (lv_at hl 0 rfl) ?_
        refine va_get (D := D) (ci := 3) (v := .int (m_value S_134)) (C := RX3) (T := TX3) (N := 27) hx hb hts hiX3 hown hK hI.1 0 rfl rfl 8 (by decide) (hts (.fieldLink RX3 91 "NoughtSumsModel" "value" "I") (by decide +kernel)) (fun _ h9 => h9) rfl dX3_advances_149 ?_
        refine lv_bipush (v := 99) hx hb dX3_advances_152 (by decide) ?_
        refine lv_icmp_le (tgt := 164) hx hb dX3_advances_154 (by decide) (fun c_154 => ?_) (fun c_154 => ?_)
        · replace hf := zIt c_154 hf
          refine lv_bipush (v := 10) hx hb dX3_advances_164 (by decide) ?_
          refine lv_aload_n hx hb dX3_advances_166 rfl (lv_at hl 0 rfl) ?_
          refine va_get (D := D) (ci := 3) (v := .int (m_value S_134)) (C := RX3) (T := TX3) (N := 27) hx hb hts hiX3 hown hK hI.1 0 rfl rfl 8 (by decide) (hts (.fieldLink RX3 91 "NoughtSumsModel" "value" "I") (by decide +kernel)) (fun _ h9 => h9) rfl dX3_advances_167 ?_
          refine lv_imul hx hb dX3_advances_170 ?_
          refine lv_aload_n hx hb dX3_advances_171 rfl (lv_at hl 0 rfl) ?_
          refine lv_aload_n hx hb dX3_advances_172 rfl (lv_at hl 0 rfl) ?_
          refine va_get (D := D) (ci := 3) (v := .int (m_next S_134)) (C := RX3) (T := TX3) (N := 27) hx hb hts hiX3 hown hK hI.1 0 rfl rfl 5 (by decide) (hts (.fieldLink RX3 98 "NoughtSumsModel" "next" "I") (by decide +kernel)) (fun _ h9 => h9) rfl dX3_advances_173 ?_
          obtain ⟨r_176, S_176, hf_176, hf⟩ := zB2_s hf
          refine z_callV (w2 := (wM cy ad S_176)) C 1 (kX3_byteAt l zq D cy ad (m_next S_134) S_134 S_176 r_176 hf_176) gX3_advances_X3_byteAt rfl (by decide +kernel) ⟨by decide, by decide⟩ hI 0 rfl rfl rfl hl.1 rfl (Nat.le_of_ble_eq_true rfl) dX3_advances_176 ⟨by decide, by decide⟩ (st2 := [.int r_176, .int ((10 : Int32) * (m_value S_134)), .ref (ad 0)]) rfl (fun H locs hI => ?_)
          refine lv_iadd hx hb dX3_advances_179 ?_
          refine lv_bipush (v := 48) hx hb dX3_advances_180 (by decide) ?_
          refine lv_isub hx hb dX3_advances_182 ?_
          exact hb183 (fX3_advances_b129L n) ih v1 ((((10 : Int32) * (m_value S_134)) + r_176) - (48 : Int32)) S_176 _ _ _ hf hI (lv_sub hl [0, 1] rfl)
        · replace hf := zIf c_154 hf
          refine lv_aload_n hx hb dX3_advances_157 rfl (lv_at hl 0 rfl) ?_
          refine va_get (D := D) (ci := 3) (v := .int (m_value S_134)) (C := RX3) (T := TX3) (N := 27) hx hb hts hiX3 hown hK hI.1 0 rfl rfl 8 (by decide) (hts (.fieldLink RX3 91 "NoughtSumsModel" "value" "I") (by decide +kernel)) (fun _ h9 => h9) rfl dX3_advances_158 ?_
          refine lv_goto (tgt := 183) hx hb dX3_advances_161 (by decide) ?_
          exact hb183 (fX3_advances_b129L n) ih v1 (m_value S_134) S_134 _ _ _ hf hI (lv_sub hl [0, 1] rfl)
  have hb66 : ∀ (n : Nat), ∀ (S : MS) (H : Heap) (locs : List Loc) (ls : Array Slot), fX3_advances_b66L n S = some S' → zI D A s H locs (wM cy ad S) → lv_has ls 2 [(0, .ref (ad 0))] → W p l e { frames := 3, cells := 0, slots := 0, locals := 73 } s m args below meth c H locs 0 0 Q (F0 m 66 ls []) := by
    intro n
    induction n with
    | zero => intro S H locs ls hf; cases (show (none : Option MS) = some S' from hf)
    | succ n ih =>
      intro S H locs ls hf hI hl
      have hf : fX3_advances_b66 (fX3_advances_b66L n) S = some S' := hf
      unfold fX3_advances_b66 at hf
      refine lv_aload_n hx hb dX3_advances_66 rfl (lv_at hl 0 rfl) ?_
      refine lv_aload_n hx hb dX3_advances_67 rfl (lv_at hl 0 rfl) ?_
      refine va_get (D := D) (ci := 3) (v := .int (m_next S)) (C := RX3) (T := TX3) (N := 27) hx hb hts hiX3 hown hK hI.1 0 rfl rfl 5 (by decide) (hts (.fieldLink RX3 98 "NoughtSumsModel" "next" "I") (by decide +kernel)) (fun _ h9 => h9) rfl dX3_advances_68 ?_
      obtain ⟨r_71, S_71, hf_71, hf⟩ := zB2_s hf
      refine z_callV (w2 := (wM cy ad S_71)) C 1 (kX3_byteAt l zq D cy ad (m_next S) S S_71 r_71 hf_71) gX3_advances_X3_byteAt rfl (by decide +kernel) ⟨by decide, by decide⟩ hI 0 rfl rfl rfl hl.1 rfl (Nat.le_of_ble_eq_true rfl) dX3_advances_71 ⟨by decide, by decide⟩ (st2 := [.int r_71]) rfl (fun H locs hI => ?_)
      refine lv_bipush (v := 97) hx hb dX3_advances_74 (by decide) ?_
      refine lv_bipush (v := 122) hx hb dX3_advances_76 (by decide) ?_
      obtain ⟨r_78, hf_78, hf⟩ := zB1_s hf
      refine z_callS C 3 (kX3_in l zq D r_71 (97 : Int32) (122 : Int32) r_78 hf_78) gX3_advances_X3_in rfl (by decide +kernel) ⟨by decide, by decide⟩ hI rfl hl.1 rfl (Nat.le_of_ble_eq_true rfl) dX3_advances_78 ⟨by decide, by decide⟩ (st2 := [.int r_78]) rfl (fun H locs hI => ?_)
      refine lv_if_eq (tgt := 97) hx hb dX3_advances_81 (by decide) (fun c_81 => ?_) (fun c_81 => ?_)
      · replace hf := zIt c_81 hf
        refine lv_aload_n hx hb dX3_advances_97 rfl (lv_at hl 0 rfl) ?_
        refine lv_aload_n hx hb dX3_advances_98 rfl (lv_at hl 0 rfl) ?_
        refine va_get (D := D) (ci := 3) (v := .int (m_next S_71)) (C := RX3) (T := TX3) (N := 27) hx hb hts hiX3 hown hK hI.1 0 rfl rfl 5 (by decide) (hts (.fieldLink RX3 98 "NoughtSumsModel" "next" "I") (by decide +kernel)) (fun _ h9 => h9) rfl dX3_advances_99 ?_
        refine lv_aload_n hx hb dX3_advances_102 rfl (lv_at hl 0 rfl) ?_
        refine va_get (D := D) (ci := 3) (v := .int (m_place S_71)) (C := RX3) (T := TX3) (N := 27) hx hb hts hiX3 hown hK hI.1 0 rfl rfl 7 (by decide) (hts (.fieldLink RX3 85 "NoughtSumsModel" "place" "I") (by decide +kernel)) (fun _ h9 => h9) rfl dX3_advances_103 ?_
        refine lv_isub hx hb dX3_advances_106 ?_
        obtain ⟨S_107, hf_107, hf⟩ := zB1_s hf
        refine z_callV (w2 := (wM cy ad S_107)) C 1 (kX3_words l zq D cy ad ((m_next S_71) - (m_place S_71)) S_71 S_107 hf_107) gX3_advances_X3_words rfl (by decide +kernel) ⟨by decide, by decide⟩ hI 0 rfl rfl rfl hl.1 rfl (Nat.le_of_ble_eq_true rfl) dX3_advances_107 ⟨by decide, by decide⟩ (st2 := []) rfl (fun H locs hI => ?_)
        refine lv_goto (tgt := 276) hx hb dX3_advances_110 (by decide) ?_
        have h2 := zP1 hf
        rw [hQ]
        exact z_vret C (by rw [h2]; exact hI) rfl dX3_advances_276
      · replace hf := zIf c_81 hf
        refine lv_aload_n hx hb dX3_advances_84 rfl (lv_at hl 0 rfl) ?_
        refine lv_dup hx hb dX3_advances_85 rfl ?_
        refine va_get (D := D) (ci := 3) (v := .int (m_next S_71)) (C := RX3) (T := TX3) (N := 27) hx hb hts hiX3 hown hK hI.1 0 rfl rfl 5 (by decide) (hts (.fieldLink RX3 98 "NoughtSumsModel" "next" "I") (by decide +kernel)) (fun _ h9 => h9) rfl dX3_advances_86 ?_
        refine lv_iconst (v := 1) hx hb dX3_advances_89 (by decide) ?_
        refine lv_iadd hx hb dX3_advances_90 ?_
        obtain ⟨S_91, eS_91, hf⟩ := zL_e hf
        refine z_put (D := D) (ci := 3) (v := .int ((m_next S_71) + (1 : Int32))) (ty := .int) (C := RX3) (T := TX3) (N := 27) (w2 := (wM cy ad S_91)) hx hb hts hiX3 tyX3 tyX3_ok nmX3 hown hK hI 0 rfl rfl 5 (by decide) (hts (.fieldLink RX3 98 "NoughtSumsModel" "next" "I") (by decide +kernel)) (fun _ h9 => h9) rfl (by decide +kernel) rfl rfl (Nat.le_of_ble_eq_true rfl) dX3_advances_91 (by rw [eS_91]; rfl) (fun H locs hI => ?_)
        refine lv_goto (tgt := 66) hx hb dX3_advances_94 (by decide) ?_
        exact ih S_91 _ _ _ hf hI (lv_sub hl [0] rfl)
  have hb0 : ∀ (n : Nat), ∀ (S : MS) (H : Heap) (locs : List Loc) (ls : Array Slot), fX3_advances_b0L n S = some S' → zI D A s H locs (wM cy ad S) → lv_has ls 2 [(0, .ref (ad 0))] → W p l e { frames := 3, cells := 0, slots := 0, locals := 73 } s m args below meth c H locs 0 0 Q (F0 m 0 ls []) := by
    intro n
    induction n with
    | zero => intro S H locs ls hf; cases (show (none : Option MS) = some S' from hf)
    | succ n ih =>
      intro S H locs ls hf hI hl
      have hf : fX3_advances_b0 (fX3_advances_b0L n) S = some S' := hf
      unfold fX3_advances_b0 at hf
      refine lv_aload_n hx hb dX3_advances_0 rfl (lv_at hl 0 rfl) ?_
      refine lv_aload_n hx hb dX3_advances_1 rfl (lv_at hl 0 rfl) ?_
      refine va_get (D := D) (ci := 3) (v := .int (m_next S)) (C := RX3) (T := TX3) (N := 27) hx hb hts hiX3 hown hK hI.1 0 rfl rfl 5 (by decide) (hts (.fieldLink RX3 98 "NoughtSumsModel" "next" "I") (by decide +kernel)) (fun _ h9 => h9) rfl dX3_advances_2 ?_
      obtain ⟨r_5, S_5, hf_5, hf⟩ := zB2_s hf
      refine z_callV (w2 := (wM cy ad S_5)) C 1 (kX3_byteAt l zq D cy ad (m_next S) S S_5 r_5 hf_5) gX3_advances_X3_byteAt rfl (by decide +kernel) ⟨by decide, by decide⟩ hI 0 rfl rfl rfl hl.1 rfl (Nat.le_of_ble_eq_true rfl) dX3_advances_5 ⟨by decide, by decide⟩ (st2 := [.int r_5]) rfl (fun H locs hI => ?_)
      refine lv_bipush (v := 32) hx hb dX3_advances_8 (by decide) ?_
      refine lv_icmp_ne (tgt := 26) hx hb dX3_advances_10 (by decide) (fun c_10 => ?_) (fun c_10 => ?_)
      · replace hf := zIf c_10 hf
        refine lv_aload_n hx hb dX3_advances_26 rfl (lv_at hl 0 rfl) ?_
        refine lv_aload_n hx hb dX3_advances_27 rfl (lv_at hl 0 rfl) ?_
        refine va_get (D := D) (ci := 3) (v := .int (m_next S_5)) (C := RX3) (T := TX3) (N := 27) hx hb hts hiX3 hown hK hI.1 0 rfl rfl 5 (by decide) (hts (.fieldLink RX3 98 "NoughtSumsModel" "next" "I") (by decide +kernel)) (fun _ h9 => h9) rfl dX3_advances_28 ?_
        obtain ⟨S_31, eS_31, hf⟩ := zL_e hf
        refine z_put (D := D) (ci := 3) (v := .int (m_next S_5)) (ty := .int) (C := RX3) (T := TX3) (N := 27) (w2 := (wM cy ad S_31)) hx hb hts hiX3 tyX3 tyX3_ok nmX3 hown hK hI 0 rfl rfl 7 (by decide) (hts (.fieldLink RX3 85 "NoughtSumsModel" "place" "I") (by decide +kernel)) (fun _ h9 => h9) rfl (by decide +kernel) rfl rfl (Nat.le_of_ble_eq_true rfl) dX3_advances_31 (by rw [eS_31]; rfl) (fun H locs hI => ?_)
        refine lv_aload_n hx hb dX3_advances_34 rfl (lv_at hl 0 rfl) ?_
        refine lv_aload_n hx hb dX3_advances_35 rfl (lv_at hl 0 rfl) ?_
        refine va_get (D := D) (ci := 3) (v := .int (m_next S_31)) (C := RX3) (T := TX3) (N := 27) hx hb hts hiX3 hown hK hI.1 0 rfl rfl 5 (by decide) (hts (.fieldLink RX3 98 "NoughtSumsModel" "next" "I") (by decide +kernel)) (fun _ h9 => h9) rfl dX3_advances_36 ?_
        obtain ⟨r_39, S_39, hf_39, hf⟩ := zB2_s hf
        refine z_callV (w2 := (wM cy ad S_39)) C 1 (kX3_byteAt l zq D cy ad (m_next S_31) S_31 S_39 r_39 hf_39) gX3_advances_X3_byteAt rfl (by decide +kernel) ⟨by decide, by decide⟩ hI 0 rfl rfl rfl hl.1 rfl (Nat.le_of_ble_eq_true rfl) dX3_advances_39 ⟨by decide, by decide⟩ (st2 := [.int r_39]) rfl (fun H locs hI => ?_)
        refine lv_istore_n (lv' := [(1, .int r_39), (0, .ref (ad 0))]) hx hb dX3_advances_42 rfl hl (by decide) rfl (fun ls hl => ?_)
        refine lv_iload_n hx hb dX3_advances_43 rfl (lv_at hl 0 rfl) ?_
        refine lv_if_ge (tgt := 55) hx hb dX3_advances_44 (by decide) (fun c_44 => ?_) (fun c_44 => ?_)
        · replace hf := zIt c_44 hf
          refine lv_iload_n hx hb dX3_advances_55 rfl (lv_at hl 0 rfl) ?_
          refine lv_bipush (v := 97) hx hb dX3_advances_56 (by decide) ?_
          refine lv_bipush (v := 122) hx hb dX3_advances_58 (by decide) ?_
          obtain ⟨r_60, hf_60, hf⟩ := zB1_s hf
          refine z_callS C 3 (kX3_in l zq D r_39 (97 : Int32) (122 : Int32) r_60 hf_60) gX3_advances_X3_in rfl (by decide +kernel) ⟨by decide, by decide⟩ hI rfl hl.1 rfl (Nat.le_of_ble_eq_true rfl) dX3_advances_60 ⟨by decide, by decide⟩ (st2 := [.int r_60]) rfl (fun H locs hI => ?_)
          refine lv_if_eq (tgt := 113) hx hb dX3_advances_63 (by decide) (fun c_63 => ?_) (fun c_63 => ?_)
          · replace hf := zIt c_63 hf
            refine lv_iload_n hx hb dX3_advances_113 rfl (lv_at hl 0 rfl) ?_
            refine lv_bipush (v := 48) hx hb dX3_advances_114 (by decide) ?_
            refine lv_bipush (v := 57) hx hb dX3_advances_116 (by decide) ?_
            obtain ⟨r_118, hf_118, hf⟩ := zB1_s hf
            refine z_callS C 3 (kX3_in l zq D r_39 (48 : Int32) (57 : Int32) r_118 hf_118) gX3_advances_X3_in rfl (by decide +kernel) ⟨by decide, by decide⟩ hI rfl hl.1 rfl (Nat.le_of_ble_eq_true rfl) dX3_advances_118 ⟨by decide, by decide⟩ (st2 := [.int r_118]) rfl (fun H locs hI => ?_)
            refine lv_if_eq (tgt := 240) hx hb dX3_advances_121 (by decide) (fun c_121 => ?_) (fun c_121 => ?_)
            · replace hf := zIt c_121 hf
              refine lv_aload_n hx hb dX3_advances_240 rfl (lv_at hl 1 rfl) ?_
              refine lv_dup hx hb dX3_advances_241 rfl ?_
              refine va_get (D := D) (ci := 3) (v := .int (m_next S_39)) (C := RX3) (T := TX3) (N := 27) hx hb hts hiX3 hown hK hI.1 0 rfl rfl 5 (by decide) (hts (.fieldLink RX3 98 "NoughtSumsModel" "next" "I") (by decide +kernel)) (fun _ h9 => h9) rfl dX3_advances_242 ?_
              refine lv_iconst (v := 1) hx hb dX3_advances_245 (by decide) ?_
              refine lv_iadd hx hb dX3_advances_246 ?_
              obtain ⟨S_247, eS_247, hf⟩ := zL_e hf
              refine z_put (D := D) (ci := 3) (v := .int ((m_next S_39) + (1 : Int32))) (ty := .int) (C := RX3) (T := TX3) (N := 27) (w2 := (wM cy ad S_247)) hx hb hts hiX3 tyX3 tyX3_ok nmX3 hown hK hI 0 rfl rfl 5 (by decide) (hts (.fieldLink RX3 98 "NoughtSumsModel" "next" "I") (by decide +kernel)) (fun _ h9 => h9) rfl (by decide +kernel) rfl rfl (Nat.le_of_ble_eq_true rfl) dX3_advances_247 (by rw [eS_247]; rfl) (fun H locs hI => ?_)
              refine lv_aload_n hx hb dX3_advances_250 rfl (lv_at hl 1 rfl) ?_
              refine lv_iload_n hx hb dX3_advances_251 rfl (lv_at hl 0 rfl) ?_
              refine lv_bipush (v := 43) hx hb dX3_advances_252 (by decide) ?_
              refine lv_icmp_ne (tgt := 261) hx hb dX3_advances_254 (by decide) (fun c_254 => ?_) (fun c_254 => ?_)
              · replace hf := zIf c_254 hf
                refine lv_iload_n hx hb dX3_advances_261 rfl (lv_at hl 0 rfl) ?_
                refine lv_bipush (v := 59) hx hb dX3_advances_262 (by decide) ?_
                refine lv_icmp_ne (tgt := 271) hx hb dX3_advances_264 (by decide) (fun c_264 => ?_) (fun c_264 => ?_)
                · replace hf := zIf c_264 hf
                  refine lv_bipush (v := 6) hx hb dX3_advances_271 (by decide) ?_
                  obtain ⟨S_273, eS_273, hf⟩ := zL_e hf
                  refine z_put (D := D) (ci := 3) (v := .int (6 : Int32)) (ty := .int) (C := RX3) (T := TX3) (N := 27) (w2 := (wM cy ad S_273)) hx hb hts hiX3 tyX3 tyX3_ok nmX3 hown hK hI 0 rfl rfl 6 (by decide) (hts (.fieldLink RX3 88 "NoughtSumsModel" "token" "I") (by decide +kernel)) (fun _ h9 => h9) rfl (by decide +kernel) rfl rfl (Nat.le_of_ble_eq_true rfl) dX3_advances_273 (by rw [eS_273]; rfl) (fun H locs hI => ?_)
                  have h2 := zP1 hf
                  rw [hQ]
                  exact z_vret C (by rw [h2]; exact hI) rfl dX3_advances_276
                · replace hf := zIt c_264 hf
                  refine lv_iconst (v := 5) hx hb dX3_advances_267 (by decide) ?_
                  refine lv_goto (tgt := 273) hx hb dX3_advances_268 (by decide) ?_
                  obtain ⟨S_273, eS_273, hf⟩ := zL_e hf
                  refine z_put (D := D) (ci := 3) (v := .int (5 : Int32)) (ty := .int) (C := RX3) (T := TX3) (N := 27) (w2 := (wM cy ad S_273)) hx hb hts hiX3 tyX3 tyX3_ok nmX3 hown hK hI 0 rfl rfl 6 (by decide) (hts (.fieldLink RX3 88 "NoughtSumsModel" "token" "I") (by decide +kernel)) (fun _ h9 => h9) rfl (by decide +kernel) rfl rfl (Nat.le_of_ble_eq_true rfl) dX3_advances_273 (by rw [eS_273]; rfl) (fun H locs hI => ?_)
                  have h2 := zP1 hf
                  rw [hQ]
                  exact z_vret C (by rw [h2]; exact hI) rfl dX3_advances_276
              · replace hf := zIt c_254 hf
                refine lv_iconst (v := 4) hx hb dX3_advances_257 (by decide) ?_
                refine lv_goto (tgt := 273) hx hb dX3_advances_258 (by decide) ?_
                obtain ⟨S_273, eS_273, hf⟩ := zL_e hf
                refine z_put (D := D) (ci := 3) (v := .int (4 : Int32)) (ty := .int) (C := RX3) (T := TX3) (N := 27) (w2 := (wM cy ad S_273)) hx hb hts hiX3 tyX3 tyX3_ok nmX3 hown hK hI 0 rfl rfl 6 (by decide) (hts (.fieldLink RX3 88 "NoughtSumsModel" "token" "I") (by decide +kernel)) (fun _ h9 => h9) rfl (by decide +kernel) rfl rfl (Nat.le_of_ble_eq_true rfl) dX3_advances_273 (by rw [eS_273]; rfl) (fun H locs hI => ?_)
                have h2 := zP1 hf
                rw [hQ]
                exact z_vret C (by rw [h2]; exact hI) rfl dX3_advances_276
            · replace hf := zIf c_121 hf
              refine lv_aload_n hx hb dX3_advances_124 rfl (lv_at hl 1 rfl) ?_
              refine lv_iconst (v := 0) hx hb dX3_advances_125 (by decide) ?_
              obtain ⟨S_126, eS_126, hf⟩ := zL_e hf
              refine z_put (D := D) (ci := 3) (v := .int (0 : Int32)) (ty := .int) (C := RX3) (T := TX3) (N := 27) (w2 := (wM cy ad S_126)) hx hb hts hiX3 tyX3 tyX3_ok nmX3 hown hK hI 0 rfl rfl 8 (by decide) (hts (.fieldLink RX3 91 "NoughtSumsModel" "value" "I") (by decide +kernel)) (fun _ h9 => h9) rfl (by decide +kernel) rfl rfl (Nat.le_of_ble_eq_true rfl) dX3_advances_126 (by rw [eS_126]; rfl) (fun H locs hI => ?_)
              exact hb129 zF r_39 S_126 _ _ _ hf hI (lv_sub hl [1, 0] rfl)
          · replace hf := zIf c_63 hf
            exact hb66 zF S_39 _ _ _ hf hI (lv_sub hl [1] rfl)
        · replace hf := zIf c_44 hf
          refine lv_aload_n hx hb dX3_advances_47 rfl (lv_at hl 1 rfl) ?_
          refine lv_iconst (v := 0) hx hb dX3_advances_48 (by decide) ?_
          obtain ⟨S_49, eS_49, hf⟩ := zL_e hf
          refine z_put (D := D) (ci := 3) (v := .int (0 : Int32)) (ty := .int) (C := RX3) (T := TX3) (N := 27) (w2 := (wM cy ad S_49)) hx hb hts hiX3 tyX3 tyX3_ok nmX3 hown hK hI 0 rfl rfl 6 (by decide) (hts (.fieldLink RX3 88 "NoughtSumsModel" "token" "I") (by decide +kernel)) (fun _ h9 => h9) rfl (by decide +kernel) rfl rfl (Nat.le_of_ble_eq_true rfl) dX3_advances_49 (by rw [eS_49]; rfl) (fun H locs hI => ?_)
          refine lv_goto (tgt := 276) hx hb dX3_advances_52 (by decide) ?_
          have h2 := zP1 hf
          rw [hQ]
          exact z_vret C (by rw [h2]; exact hI) rfl dX3_advances_276
      · replace hf := zIt c_10 hf
        refine lv_aload_n hx hb dX3_advances_13 rfl (lv_at hl 0 rfl) ?_
        refine lv_dup hx hb dX3_advances_14 rfl ?_
        refine va_get (D := D) (ci := 3) (v := .int (m_next S_5)) (C := RX3) (T := TX3) (N := 27) hx hb hts hiX3 hown hK hI.1 0 rfl rfl 5 (by decide) (hts (.fieldLink RX3 98 "NoughtSumsModel" "next" "I") (by decide +kernel)) (fun _ h9 => h9) rfl dX3_advances_15 ?_
        refine lv_iconst (v := 1) hx hb dX3_advances_18 (by decide) ?_
        refine lv_iadd hx hb dX3_advances_19 ?_
        obtain ⟨S_20, eS_20, hf⟩ := zL_e hf
        refine z_put (D := D) (ci := 3) (v := .int ((m_next S_5) + (1 : Int32))) (ty := .int) (C := RX3) (T := TX3) (N := 27) (w2 := (wM cy ad S_20)) hx hb hts hiX3 tyX3 tyX3_ok nmX3 hown hK hI 0 rfl rfl 5 (by decide) (hts (.fieldLink RX3 98 "NoughtSumsModel" "next" "I") (by decide +kernel)) (fun _ h9 => h9) rfl (by decide +kernel) rfl rfl (Nat.le_of_ble_eq_true rfl) dX3_advances_20 (by rw [eS_20]; rfl) (fun H locs hI => ?_)
        refine lv_goto (tgt := 0) hx hb dX3_advances_23 (by decide) ?_
        exact ih S_20 _ _ _ hf hI (lv_sub hl [0] rfl)
  unfold fX3_advances at hf
  refine lv_aload_n hx hb dX3_advances_0 rfl (lv_at hl 0 rfl) ?_
  refine lv_aload_n hx hb dX3_advances_1 rfl (lv_at hl 0 rfl) ?_
  refine va_get (D := D) (ci := 3) (v := .int (m_next S)) (C := RX3) (T := TX3) (N := 27) hx hb hts hiX3 hown hK hI.1 0 rfl rfl 5 (by decide) (hts (.fieldLink RX3 98 "NoughtSumsModel" "next" "I") (by decide +kernel)) (fun _ h9 => h9) rfl dX3_advances_2 ?_
  obtain ⟨r_5, S_5, hf_5, hf⟩ := zB2_s hf
  refine z_callV (w2 := (wM cy ad S_5)) C 1 (kX3_byteAt l zq D cy ad (m_next S) S S_5 r_5 hf_5) gX3_advances_X3_byteAt rfl (by decide +kernel) ⟨by decide, by decide⟩ hI 0 rfl rfl rfl hl.1 rfl (Nat.le_of_ble_eq_true rfl) dX3_advances_5 ⟨by decide, by decide⟩ (st2 := [.int r_5]) rfl (fun H locs hI => ?_)
  refine lv_bipush (v := 32) hx hb dX3_advances_8 (by decide) ?_
  refine lv_icmp_ne (tgt := 26) hx hb dX3_advances_10 (by decide) (fun c_10 => ?_) (fun c_10 => ?_)
  · replace hf := zIf c_10 hf
    refine lv_aload_n hx hb dX3_advances_26 rfl (lv_at hl 0 rfl) ?_
    refine lv_aload_n hx hb dX3_advances_27 rfl (lv_at hl 0 rfl) ?_
    refine va_get (D := D) (ci := 3) (v := .int (m_next S_5)) (C := RX3) (T := TX3) (N := 27) hx hb hts hiX3 hown hK hI.1 0 rfl rfl 5 (by decide) (hts (.fieldLink RX3 98 "NoughtSumsModel" "next" "I") (by decide +kernel)) (fun _ h9 => h9) rfl dX3_advances_28 ?_
    obtain ⟨S_31, eS_31, hf⟩ := zL_e hf
    refine z_put (D := D) (ci := 3) (v := .int (m_next S_5)) (ty := .int) (C := RX3) (T := TX3) (N := 27) (w2 := (wM cy ad S_31)) hx hb hts hiX3 tyX3 tyX3_ok nmX3 hown hK hI 0 rfl rfl 7 (by decide) (hts (.fieldLink RX3 85 "NoughtSumsModel" "place" "I") (by decide +kernel)) (fun _ h9 => h9) rfl (by decide +kernel) rfl rfl (Nat.le_of_ble_eq_true rfl) dX3_advances_31 (by rw [eS_31]; rfl) (fun H locs hI => ?_)
    refine lv_aload_n hx hb dX3_advances_34 rfl (lv_at hl 0 rfl) ?_
    refine lv_aload_n hx hb dX3_advances_35 rfl (lv_at hl 0 rfl) ?_
    refine va_get (D := D) (ci := 3) (v := .int (m_next S_31)) (C := RX3) (T := TX3) (N := 27) hx hb hts hiX3 hown hK hI.1 0 rfl rfl 5 (by decide) (hts (.fieldLink RX3 98 "NoughtSumsModel" "next" "I") (by decide +kernel)) (fun _ h9 => h9) rfl dX3_advances_36 ?_
    obtain ⟨r_39, S_39, hf_39, hf⟩ := zB2_s hf
    refine z_callV (w2 := (wM cy ad S_39)) C 1 (kX3_byteAt l zq D cy ad (m_next S_31) S_31 S_39 r_39 hf_39) gX3_advances_X3_byteAt rfl (by decide +kernel) ⟨by decide, by decide⟩ hI 0 rfl rfl rfl hl.1 rfl (Nat.le_of_ble_eq_true rfl) dX3_advances_39 ⟨by decide, by decide⟩ (st2 := [.int r_39]) rfl (fun H locs hI => ?_)
    refine lv_istore_n (lv' := [(1, .int r_39), (0, .ref (ad 0))]) hx hb dX3_advances_42 rfl hl (by decide) rfl (fun ls hl => ?_)
    refine lv_iload_n hx hb dX3_advances_43 rfl (lv_at hl 0 rfl) ?_
    refine lv_if_ge (tgt := 55) hx hb dX3_advances_44 (by decide) (fun c_44 => ?_) (fun c_44 => ?_)
    · replace hf := zIt c_44 hf
      refine lv_iload_n hx hb dX3_advances_55 rfl (lv_at hl 0 rfl) ?_
      refine lv_bipush (v := 97) hx hb dX3_advances_56 (by decide) ?_
      refine lv_bipush (v := 122) hx hb dX3_advances_58 (by decide) ?_
      obtain ⟨r_60, hf_60, hf⟩ := zB1_s hf
      refine z_callS C 3 (kX3_in l zq D r_39 (97 : Int32) (122 : Int32) r_60 hf_60) gX3_advances_X3_in rfl (by decide +kernel) ⟨by decide, by decide⟩ hI rfl hl.1 rfl (Nat.le_of_ble_eq_true rfl) dX3_advances_60 ⟨by decide, by decide⟩ (st2 := [.int r_60]) rfl (fun H locs hI => ?_)
      refine lv_if_eq (tgt := 113) hx hb dX3_advances_63 (by decide) (fun c_63 => ?_) (fun c_63 => ?_)
      · replace hf := zIt c_63 hf
        refine lv_iload_n hx hb dX3_advances_113 rfl (lv_at hl 0 rfl) ?_
        refine lv_bipush (v := 48) hx hb dX3_advances_114 (by decide) ?_
        refine lv_bipush (v := 57) hx hb dX3_advances_116 (by decide) ?_
        obtain ⟨r_118, hf_118, hf⟩ := zB1_s hf
        refine z_callS C 3 (kX3_in l zq D r_39 (48 : Int32) (57 : Int32) r_118 hf_118) gX3_advances_X3_in rfl (by decide +kernel) ⟨by decide, by decide⟩ hI rfl hl.1 rfl (Nat.le_of_ble_eq_true rfl) dX3_advances_118 ⟨by decide, by decide⟩ (st2 := [.int r_118]) rfl (fun H locs hI => ?_)
        refine lv_if_eq (tgt := 240) hx hb dX3_advances_121 (by decide) (fun c_121 => ?_) (fun c_121 => ?_)
        · replace hf := zIt c_121 hf
          refine lv_aload_n hx hb dX3_advances_240 rfl (lv_at hl 1 rfl) ?_
          refine lv_dup hx hb dX3_advances_241 rfl ?_
          refine va_get (D := D) (ci := 3) (v := .int (m_next S_39)) (C := RX3) (T := TX3) (N := 27) hx hb hts hiX3 hown hK hI.1 0 rfl rfl 5 (by decide) (hts (.fieldLink RX3 98 "NoughtSumsModel" "next" "I") (by decide +kernel)) (fun _ h9 => h9) rfl dX3_advances_242 ?_
          refine lv_iconst (v := 1) hx hb dX3_advances_245 (by decide) ?_
          refine lv_iadd hx hb dX3_advances_246 ?_
          obtain ⟨S_247, eS_247, hf⟩ := zL_e hf
          refine z_put (D := D) (ci := 3) (v := .int ((m_next S_39) + (1 : Int32))) (ty := .int) (C := RX3) (T := TX3) (N := 27) (w2 := (wM cy ad S_247)) hx hb hts hiX3 tyX3 tyX3_ok nmX3 hown hK hI 0 rfl rfl 5 (by decide) (hts (.fieldLink RX3 98 "NoughtSumsModel" "next" "I") (by decide +kernel)) (fun _ h9 => h9) rfl (by decide +kernel) rfl rfl (Nat.le_of_ble_eq_true rfl) dX3_advances_247 (by rw [eS_247]; rfl) (fun H locs hI => ?_)
          refine lv_aload_n hx hb dX3_advances_250 rfl (lv_at hl 1 rfl) ?_
          refine lv_iload_n hx hb dX3_advances_251 rfl (lv_at hl 0 rfl) ?_
          refine lv_bipush (v := 43) hx hb dX3_advances_252 (by decide) ?_
          refine lv_icmp_ne (tgt := 261) hx hb dX3_advances_254 (by decide) (fun c_254 => ?_) (fun c_254 => ?_)
          · replace hf := zIf c_254 hf
            refine lv_iload_n hx hb dX3_advances_261 rfl (lv_at hl 0 rfl) ?_
            refine lv_bipush (v := 59) hx hb dX3_advances_262 (by decide) ?_
            refine lv_icmp_ne (tgt := 271) hx hb dX3_advances_264 (by decide) (fun c_264 => ?_) (fun c_264 => ?_)
            · replace hf := zIf c_264 hf
              refine lv_bipush (v := 6) hx hb dX3_advances_271 (by decide) ?_
              obtain ⟨S_273, eS_273, hf⟩ := zL_e hf
              refine z_put (D := D) (ci := 3) (v := .int (6 : Int32)) (ty := .int) (C := RX3) (T := TX3) (N := 27) (w2 := (wM cy ad S_273)) hx hb hts hiX3 tyX3 tyX3_ok nmX3 hown hK hI 0 rfl rfl 6 (by decide) (hts (.fieldLink RX3 88 "NoughtSumsModel" "token" "I") (by decide +kernel)) (fun _ h9 => h9) rfl (by decide +kernel) rfl rfl (Nat.le_of_ble_eq_true rfl) dX3_advances_273 (by rw [eS_273]; rfl) (fun H locs hI => ?_)
              have h2 := zP1 hf
              rw [hQ]
              exact z_vret C (by rw [h2]; exact hI) rfl dX3_advances_276
            · replace hf := zIt c_264 hf
              refine lv_iconst (v := 5) hx hb dX3_advances_267 (by decide) ?_
              refine lv_goto (tgt := 273) hx hb dX3_advances_268 (by decide) ?_
              obtain ⟨S_273, eS_273, hf⟩ := zL_e hf
              refine z_put (D := D) (ci := 3) (v := .int (5 : Int32)) (ty := .int) (C := RX3) (T := TX3) (N := 27) (w2 := (wM cy ad S_273)) hx hb hts hiX3 tyX3 tyX3_ok nmX3 hown hK hI 0 rfl rfl 6 (by decide) (hts (.fieldLink RX3 88 "NoughtSumsModel" "token" "I") (by decide +kernel)) (fun _ h9 => h9) rfl (by decide +kernel) rfl rfl (Nat.le_of_ble_eq_true rfl) dX3_advances_273 (by rw [eS_273]; rfl) (fun H locs hI => ?_)
              have h2 := zP1 hf
              rw [hQ]
              exact z_vret C (by rw [h2]; exact hI) rfl dX3_advances_276
          · replace hf := zIt c_254 hf
            refine lv_iconst (v := 4) hx hb dX3_advances_257 (by decide) ?_
            refine lv_goto (tgt := 273) hx hb dX3_advances_258 (by decide) ?_
            obtain ⟨S_273, eS_273, hf⟩ := zL_e hf
            refine z_put (D := D) (ci := 3) (v := .int (4 : Int32)) (ty := .int) (C := RX3) (T := TX3) (N := 27) (w2 := (wM cy ad S_273)) hx hb hts hiX3 tyX3 tyX3_ok nmX3 hown hK hI 0 rfl rfl 6 (by decide) (hts (.fieldLink RX3 88 "NoughtSumsModel" "token" "I") (by decide +kernel)) (fun _ h9 => h9) rfl (by decide +kernel) rfl rfl (Nat.le_of_ble_eq_true rfl) dX3_advances_273 (by rw [eS_273]; rfl) (fun H locs hI => ?_)
            have h2 := zP1 hf
            rw [hQ]
            exact z_vret C (by rw [h2]; exact hI) rfl dX3_advances_276
        · replace hf := zIf c_121 hf
          refine lv_aload_n hx hb dX3_advances_124 rfl (lv_at hl 1 rfl) ?_
          refine lv_iconst (v := 0) hx hb dX3_advances_125 (by decide) ?_
          obtain ⟨S_126, eS_126, hf⟩ := zL_e hf
          refine z_put (D := D) (ci := 3) (v := .int (0 : Int32)) (ty := .int) (C := RX3) (T := TX3) (N := 27) (w2 := (wM cy ad S_126)) hx hb hts hiX3 tyX3 tyX3_ok nmX3 hown hK hI 0 rfl rfl 8 (by decide) (hts (.fieldLink RX3 91 "NoughtSumsModel" "value" "I") (by decide +kernel)) (fun _ h9 => h9) rfl (by decide +kernel) rfl rfl (Nat.le_of_ble_eq_true rfl) dX3_advances_126 (by rw [eS_126]; rfl) (fun H locs hI => ?_)
          exact hb129 zF r_39 S_126 _ _ _ hf hI (lv_sub hl [1, 0] rfl)
      · replace hf := zIf c_63 hf
        exact hb66 zF S_39 _ _ _ hf hI (lv_sub hl [1] rfl)
    · replace hf := zIf c_44 hf
      refine lv_aload_n hx hb dX3_advances_47 rfl (lv_at hl 1 rfl) ?_
      refine lv_iconst (v := 0) hx hb dX3_advances_48 (by decide) ?_
      obtain ⟨S_49, eS_49, hf⟩ := zL_e hf
      refine z_put (D := D) (ci := 3) (v := .int (0 : Int32)) (ty := .int) (C := RX3) (T := TX3) (N := 27) (w2 := (wM cy ad S_49)) hx hb hts hiX3 tyX3 tyX3_ok nmX3 hown hK hI 0 rfl rfl 6 (by decide) (hts (.fieldLink RX3 88 "NoughtSumsModel" "token" "I") (by decide +kernel)) (fun _ h9 => h9) rfl (by decide +kernel) rfl rfl (Nat.le_of_ble_eq_true rfl) dX3_advances_49 (by rw [eS_49]; rfl) (fun H locs hI => ?_)
      refine lv_goto (tgt := 276) hx hb dX3_advances_52 (by decide) ?_
      have h2 := zP1 hf
      rw [hQ]
      exact z_vret C (by rw [h2]; exact hI) rfl dX3_advances_276
  · replace hf := zIt c_10 hf
    refine lv_aload_n hx hb dX3_advances_13 rfl (lv_at hl 0 rfl) ?_
    refine lv_dup hx hb dX3_advances_14 rfl ?_
    refine va_get (D := D) (ci := 3) (v := .int (m_next S_5)) (C := RX3) (T := TX3) (N := 27) hx hb hts hiX3 hown hK hI.1 0 rfl rfl 5 (by decide) (hts (.fieldLink RX3 98 "NoughtSumsModel" "next" "I") (by decide +kernel)) (fun _ h9 => h9) rfl dX3_advances_15 ?_
    refine lv_iconst (v := 1) hx hb dX3_advances_18 (by decide) ?_
    refine lv_iadd hx hb dX3_advances_19 ?_
    obtain ⟨S_20, eS_20, hf⟩ := zL_e hf
    refine z_put (D := D) (ci := 3) (v := .int ((m_next S_5) + (1 : Int32))) (ty := .int) (C := RX3) (T := TX3) (N := 27) (w2 := (wM cy ad S_20)) hx hb hts hiX3 tyX3 tyX3_ok nmX3 hown hK hI 0 rfl rfl 5 (by decide) (hts (.fieldLink RX3 98 "NoughtSumsModel" "next" "I") (by decide +kernel)) (fun _ h9 => h9) rfl (by decide +kernel) rfl rfl (Nat.le_of_ble_eq_true rfl) dX3_advances_20 (by rw [eS_20]; rfl) (fun H locs hI => ?_)
    refine lv_goto (tgt := 0) hx hb dX3_advances_23 (by decide) ?_
    exact hb0 zF S_20 _ _ _ hf hI (lv_sub hl [0] rfl)

