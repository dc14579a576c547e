def fX3_in (a0 : Int32) (a1 : Int32) (a2 : Int32) : Option Int32 :=
(if a0 < a1 then some (0 : Int32) else
(if a2 < a0 then some (0 : Int32) else
some (1 : Int32)))
set_option maxHeartbeats 4000000 in
set_option maxRecDepth 100000 in
theorem kX3_in (l : Launch) (zq : Nat → Nat) (D : va_G) (a0 : Int32) (a1 : Int32) (a2 : Int32) (r : Int32) (hf : fX3_in a0 a1 a2 = some r) : zMet l yX3_in wsX3_in 0 0 zq D [] [] [.int a0, .int a1, .int a2] (some (.int r)) [] := by
  refine zMet.of cX3_in 3 (some .boolean) (by decide) rfl (Nat.le_of_ble_eq_true rfl) ?_
  intro p e s m args below meth c A ls C hl hI
  have hl : lv_has ls 3 [(0, .int a0), (1, .int a1), (2, .int a2)] := hl
  have C : zC p s m args meth c cX3_in 3 (some .boolean) RX3 wsX3_in D [] zq A := C
  obtain ⟨hx, hb, hml, hown, hts, hret, hlk, hK, hX, hA⟩ := id C
  obtain ⟨Q, hQ⟩ : ∃ Q, Q = MQ below (zQ D [] [] (some (.int r)) A) args s 0 0 A := ⟨_, rfl⟩
  rw [← hQ]
  unfold fX3_in at hf
  refine lv_iload_n hx hb dX3_in_0 rfl (lv_at hl 0 rfl) ?_
  refine lv_iload_n hx hb dX3_in_1 rfl (lv_at hl 1 rfl) ?_
  refine lv_icmp_lt (tgt := 14) hx hb dX3_in_2 (by decide) (fun c_2 => ?_) (fun c_2 => ?_)
  · replace hf := zIt c_2 hf
    refine lv_iconst (v := 0) hx hb dX3_in_14 (by decide) ?_
    have h1 := zP1 hf
    rw [hQ]
    exact z_zret C hI (by rw [h1]) rfl dX3_in_15
  · replace hf := zIf c_2 hf
    refine lv_iload_n hx hb dX3_in_5 rfl (lv_at hl 0 rfl) ?_
    refine lv_iload_n hx hb dX3_in_6 rfl (lv_at hl 2 rfl) ?_
    refine lv_icmp_gt (tgt := 14) hx hb dX3_in_7 (by decide) (fun c_7 => ?_) (fun c_7 => ?_)
    · replace hf := zIt c_7 hf
      refine lv_iconst (v := 0) hx hb dX3_in_14 (by decide) ?_
      have h1 := zP1 hf
      rw [hQ]
      exact z_zret C hI (by rw [h1]) rfl dX3_in_15
    · replace hf := zIf c_7 hf
      refine lv_iconst (v := 1) hx hb dX3_in_10 (by decide) ?_
      refine lv_goto (tgt := 15) hx hb dX3_in_11 (by decide) ?_
      have h1 := zP1 hf
      rw [hQ]
      exact z_zret C hI (by rw [h1]) rfl dX3_in_15

def fX3_letters_b4 (k4 : Int32 → Int32 → Int32 → Option Int32) (v0 : Int32) (v1 : Int32) (v2 : Int32) : Option Int32 :=
(if (6 : Int32) ≤ v2 then some v1 else
(zL (v1 + ((v0 >>> (v2 &&& 31)) &&& (1 : Int32))) (fun n_17 =>
k4 v0 n_17 (v2 + (1 : Int32)))))
def fX3_letters_b4L : Nat → Int32 → Int32 → Int32 → Option Int32
  | 0, _, _, _ => none
  | n + 1, v0, v1, v2 => fX3_letters_b4 (fX3_letters_b4L n) v0 v1 v2

def fX3_letters (a0 : Int32) : Option Int32 :=
fX3_letters_b4L zF a0 (0 : Int32) (0 : Int32)
set_option maxHeartbeats 4000000 in
set_option maxRecDepth 100000 in
theorem kX3_letters (l : Launch) (zq : Nat → Nat) (D : va_G) (a0 : Int32) (r : Int32) (hf : fX3_letters a0 = some r) : zMet l yX3_letters wsX3_letters 0 0 zq D [] [] [.int a0] (some (.int r)) [] := by
  refine zMet.of cX3_letters 3 (some .int) (by decide) rfl (Nat.le_of_ble_eq_true rfl) ?_
  intro p e s m args below meth c A ls C hl hI
  have hl : lv_has ls 3 [(0, .int a0)] := hl
  have C : zC p s m args meth c cX3_letters 3 (some .int) RX3 wsX3_letters D [] zq A := C
  obtain ⟨hx, hb, hml, hown, hts, hret, hlk, hK, hX, hA⟩ := id C
  obtain ⟨Q, hQ⟩ : ∃ Q, Q = MQ below (zQ D [] [] (some (.int r)) A) args s 0 0 A := ⟨_, rfl⟩
  rw [← hQ]
  have hb4 : ∀ (n : Nat), ∀ (v0 : Int32) (v1 : Int32) (v2 : Int32) (H : Heap) (locs : List Loc) (ls : Array Slot), fX3_letters_b4L n v0 v1 v2 = some r → zI D A s H locs [] → lv_has ls 3 [(0, .int v0), (1, .int v1), (2, .int v2)] → W p l e { frames := 0, cells := 0, slots := 0, locals := 0 } s m args below meth c H locs 0 0 Q (F0 m 4 ls []) := by
    intro n
    induction n with
    | zero => intro v0 v1 v2 H locs ls hf; cases (show (none : Option Int32) = some r from hf)
    | succ n ih =>
      intro v0 v1 v2 H locs ls hf hI hl
      have hf : fX3_letters_b4 (fX3_letters_b4L n) v0 v1 v2 = some r := hf
      unfold fX3_letters_b4 at hf
      refine lv_iload_n hx hb dX3_letters_4 rfl (lv_at hl 2 rfl) ?_
      refine lv_bipush (v := 6) hx hb dX3_letters_5 (by decide) ?_
      refine lv_icmp_ge (tgt := 24) hx hb dX3_letters_7 (by decide) (fun c_7 => ?_) (fun c_7 => ?_)
      · replace hf := zIt c_7 hf
        refine lv_iload_n hx hb dX3_letters_24 rfl (lv_at hl 1 rfl) ?_
        have h1 := zP1 hf
        rw [hQ]
        exact z_iret C hI (by rw [h1]) dX3_letters_25
      · replace hf := zIf c_7 hf
        refine lv_iload_n hx hb dX3_letters_10 rfl (lv_at hl 1 rfl) ?_
        refine lv_iload_n hx hb dX3_letters_11 rfl (lv_at hl 0 rfl) ?_
        refine lv_iload_n hx hb dX3_letters_12 rfl (lv_at hl 2 rfl) ?_
        refine lv_ishr hx hb dX3_letters_13 ?_
        refine lv_iconst (v := 1) hx hb dX3_letters_14 (by decide) ?_
        refine lv_iand hx hb dX3_letters_15 ?_
        refine lv_iadd hx hb dX3_letters_16 ?_
        refine lv_topi (fun n_17 e_17 => ?_)
        replace hf := zL_s hf e_17
        refine lv_istore_n (lv' := [(1, .int n_17), (0, .int v0), (2, .int v2)]) hx hb dX3_letters_17 rfl hl (by decide) rfl (fun ls hl => ?_)
        refine lv_iinc (v := (v2 + (1 : Int32))) (lv' := [(2, .int (v2 + (1 : Int32))), (1, .int n_17), (0, .int v0)]) hx hb dX3_letters_18 hl (k := 2) rfl rfl (by decide) rfl (fun ls hl => ?_)
        refine lv_goto (tgt := 4) hx hb dX3_letters_21 (by decide) ?_
        exact ih v0 n_17 (v2 + (1 : Int32)) _ _ _ hf hI (lv_sub hl [2, 1, 0] rfl)
  unfold fX3_letters at hf
  refine lv_iconst (v := 0) hx hb dX3_letters_0 (by decide) ?_
  refine lv_istore_n (lv' := [(1, .int (0 : Int32)), (0, .int a0)]) hx hb dX3_letters_1 rfl hl (by decide) rfl (fun ls hl => ?_)
  refine lv_iconst (v := 0) hx hb dX3_letters_2 (by decide) ?_
  refine lv_istore_n (lv' := [(2, .int (0 : Int32)), (1, .int (0 : Int32)), (0, .int a0)]) hx hb dX3_letters_3 rfl hl (by decide) rfl (fun ls hl => ?_)
  exact hb4 zF a0 (0 : Int32) (0 : Int32) _ _ _ hf hI (lv_sub hl [2, 1, 0] rfl)

def fX3_has (a0 : Int64) (a2 : Int32) : Option Int32 :=
(if (lg_cmp ((a0 >>> (a2.toInt64 &&& 63)) &&& (1 : Int64)) (1 : Int64)) = 0 then some (1 : Int32) else
some (0 : Int32))
set_option maxHeartbeats 4000000 in
set_option maxRecDepth 100000 in
theorem kX3_has (l : Launch) (zq : Nat → Nat) (D : va_G) (a0 : Int64) (a2 : Int32) (r : Int32) (hf : fX3_has a0 a2 = some r) : zMet l yX3_has wsX3_has 0 0 zq D [] [] [.long a0, .int a2] (some (.int r)) [] := by
  refine zMet.of cX3_has 3 (some .boolean) (by decide) rfl (Nat.le_of_ble_eq_true rfl) ?_
  intro p e s m args below meth c A ls C hl hI
  have hl : lv_has ls 3 [(0, .long a0), (2, .int a2)] := hl
  have C : zC p s m args meth c cX3_has 3 (some .boolean) RX3 wsX3_has D [] zq A := C
  obtain ⟨hx, hb, hml, hown, hts, hret, hlk, hK, hX, hA⟩ := id C
  obtain ⟨Q, hQ⟩ : ∃ Q, Q = MQ below (zQ D [] [] (some (.int r)) A) args s 0 0 A := ⟨_, rfl⟩
  rw [← hQ]
  unfold fX3_has at hf
  refine lv_lload_n hx hb dX3_has_0 rfl (lv_at hl 0 rfl) ?_
  refine lv_iload_n hx hb dX3_has_1 rfl (lv_at hl 1 rfl) ?_
  refine lv_lshr hx hb dX3_has_2 rfl ?_
  refine lv_lconst (v := 1) hx hb dX3_has_3 (by decide) ?_
  refine lv_land hx hb dX3_has_4 ?_
  refine lv_lconst (v := 1) hx hb dX3_has_5 (by decide) ?_
  refine W.lcmp hx hb dX3_has_6 ?_
  refine lv_if_ne (tgt := 14) hx hb dX3_has_7 (by decide) (fun c_7 => ?_) (fun c_7 => ?_)
  · replace hf := zIf c_7 hf
    refine lv_iconst (v := 0) hx hb dX3_has_14 (by decide) ?_
    have h1 := zP1 hf
    rw [hQ]
    exact z_zret C hI (by rw [h1]) rfl dX3_has_15
  · replace hf := zIt c_7 hf
    refine lv_iconst (v := 1) hx hb dX3_has_10 (by decide) ?_
    refine lv_goto (tgt := 15) hx hb dX3_has_11 (by decide) ?_
    have h1 := zP1 hf
    rw [hQ]
    exact z_zret C hI (by rw [h1]) rfl dX3_has_15

def fX3_many_b24 (k4 : Int64 → Int32 → Int32 → Option Int32) (v0 : Int64) (v3 : Int32) (u0 : Int32) (u1 : Int32) : Option Int32 :=
k4 v0 (u1 + u0) (v3 + (1 : Int32))

def fX3_many_b4 (k4 : Int64 → Int32 → Int32 → Option Int32) (v0 : Int64) (v2 : Int32) (v3 : Int32) : Option Int32 :=
(if (64 : Int32) ≤ v3 then some v2 else
(zB1 (fX3_has v0 v3) (fun r_13 =>
(if r_13 = 0 then fX3_many_b24 k4 v0 v3 (0 : Int32) v2 else
fX3_many_b24 k4 v0 v3 (1 : Int32) v2))))
def fX3_many_b4L : Nat → Int64 → Int32 → Int32 → Option Int32
  | 0, _, _, _ => none
  | n + 1, v0, v2, v3 => fX3_many_b4 (fX3_many_b4L n) v0 v2 v3

def fX3_many (a0 : Int64) : Option Int32 :=
fX3_many_b4L zF a0 (0 : Int32) (0 : Int32)
set_option maxHeartbeats 4000000 in
set_option maxRecDepth 100000 in
theorem kX3_many (l : Launch) (zq : Nat → Nat) (D : va_G) (a0 : Int64) (r : Int32) (hf : fX3_many a0 = some r) : zMet l yX3_many wsX3_many 1 22 zq D [] [] [.long a0] (some (.int r)) [] := by
  refine zMet.of cX3_many 4 (some .int) (by decide) rfl (Nat.le_of_ble_eq_true rfl) ?_
  intro p e s m args below meth c A ls C hl hI
  have hl : lv_has ls 4 [(0, .long a0)] := hl
  have C : zC p s m args meth c cX3_many 4 (some .int) RX3 wsX3_many D [] zq A := C
  obtain ⟨hx, hb, hml, hown, hts, hret, hlk, hK, hX, hA⟩ := id C
  obtain ⟨Q, hQ⟩ : ∃ Q, Q = MQ below (zQ D [] [] (some (.int r)) A) args s 0 0 A := ⟨_, rfl⟩
  rw [← hQ]
  have hb24 : ∀ (k4 : Int64 → Int32 → Int32 → Option Int32) (hk4 : ∀ (v0 : Int64) (v2 : Int32) (v3 : Int32) (H : Heap) (locs : List Loc) (ls : Array Slot), k4 v0 v2 v3 = some r → zI D A s H locs [] → lv_has ls 4 [(0, .long v0), (2, .int v2), (3, .int v3)] → W p l e { frames := 1, cells := 0, slots := 0, locals := 22 } s m args below meth c H locs 0 0 Q (F0 m 4 ls [])), ∀ (v0 : Int64) (v3 : Int32) (u0 : Int32) (u1 : Int32) (H : Heap) (locs : List Loc) (ls : Array Slot), fX3_many_b24 k4 v0 v3 u0 u1 = some r → zI D A s H locs [] → lv_has ls 4 [(0, .long v0), (3, .int v3)] → W p l e { frames := 1, cells := 0, slots := 0, locals := 22 } s m args below meth c H locs 0 0 Q (F0 m 24 ls [.int u0, .int u1]) := by
    intro k4 hk4 v0 v3 u0 u1 H locs ls hf hI hl
    unfold fX3_many_b24 at hf
    refine lv_iadd hx hb dX3_many_24 ?_
    refine lv_istore_n (lv' := [(2, .int (u1 + u0)), (0, .long v0), (3, .int v3)]) hx hb dX3_many_25 rfl hl (by decide) rfl (fun ls hl => ?_)
    refine lv_iinc (v := (v3 + (1 : Int32))) (lv' := [(3, .int (v3 + (1 : Int32))), (2, .int (u1 + u0)), (0, .long v0)]) hx hb dX3_many_26 hl (k := 2) rfl rfl (by decide) rfl (fun ls hl => ?_)
    refine lv_goto (tgt := 4) hx hb dX3_many_29 (by decide) ?_
    exact hk4 v0 (u1 + u0) (v3 + (1 : Int32)) _ _ _ hf hI (lv_sub hl [2, 1, 0] rfl)
  have hb4 : ∀ (n : Nat), ∀ (v0 : Int64) (v2 : Int32) (v3 : Int32) (H : Heap) (locs : List Loc) (ls : Array Slot), fX3_many_b4L n v0 v2 v3 = some r → zI D A s H locs [] → lv_has ls 4 [(0, .long v0), (2, .int v2), (3, .int v3)] → W p l e { frames := 1, cells := 0, slots := 0, locals := 22 } s m args below meth c H locs 0 0 Q (F0 m 4 ls []) := by
    intro n
    induction n with
    | zero => intro v0 v2 v3 H locs ls hf; cases (show (none : Option Int32) = some r from hf)
    | succ n ih =>
      intro v0 v2 v3 H locs ls hf hI hl
      have hf : fX3_many_b4 (fX3_many_b4L n) v0 v2 v3 = some r := hf
      unfold fX3_many_b4 at hf
      refine lv_iload_n hx hb dX3_many_4 rfl (lv_at hl 2 rfl) ?_
      refine lv_bipush (v := 64) hx hb dX3_many_5 (by decide) ?_
      refine lv_icmp_ge (tgt := 32) hx hb dX3_many_7 (by decide) (fun c_7 => ?_) (fun c_7 => ?_)
      · replace hf := zIt c_7 hf
        refine lv_iload_n hx hb dX3_many_32 rfl (lv_at hl 1 rfl) ?_
        have h1 := zP1 hf
        rw [hQ]
        exact z_iret C hI (by rw [h1]) dX3_many_33
      · replace hf := zIf c_7 hf
        refine lv_iload_n hx hb dX3_many_10 rfl (lv_at hl 1 rfl) ?_
        refine lv_lload_n hx hb dX3_many_11 rfl (lv_at hl 0 rfl) ?_
        refine lv_iload_n hx hb dX3_many_12 rfl (lv_at hl 2 rfl) ?_
        obtain ⟨r_13, hf_13, hf⟩ := zB1_s hf
        refine z_callS C 2 (kX3_has l zq D v0 v3 r_13 hf_13) gX3_many_X3_has rfl (by decide +kernel) ⟨by decide, by decide⟩ hI rfl hl.1 rfl (Nat.le_of_ble_eq_true rfl) dX3_many_13 ⟨by decide, by decide⟩ (st2 := [.int r_13, .int v2]) rfl (fun H locs hI => ?_)
        refine lv_if_eq (tgt := 23) hx hb dX3_many_16 (by decide) (fun c_16 => ?_) (fun c_16 => ?_)
        · replace hf := zIt c_16 hf
          refine lv_iconst (v := 0) hx hb dX3_many_23 (by decide) ?_
          exact hb24 (fX3_many_b4L n) ih v0 v3 (0 : Int32) v2 _ _ _ hf hI (lv_sub hl [0, 2] rfl)
        · replace hf := zIf c_16 hf
          refine lv_iconst (v := 1) hx hb dX3_many_19 (by decide) ?_
          refine lv_goto (tgt := 24) hx hb dX3_many_20 (by decide) ?_
          exact hb24 (fX3_many_b4L n) ih v0 v3 (1 : Int32) v2 _ _ _ hf hI (lv_sub hl [0, 2] rfl)
  unfold fX3_many at hf
  refine lv_iconst (v := 0) hx hb dX3_many_0 (by decide) ?_
  refine lv_istore_n (lv' := [(2, .int (0 : Int32)), (0, .long a0)]) hx hb dX3_many_1 rfl hl (by decide) rfl (fun ls hl => ?_)
  refine lv_iconst (v := 0) hx hb dX3_many_2 (by decide) ?_
  refine lv_istore_n (lv' := [(3, .int (0 : Int32)), (2, .int (0 : Int32)), (0, .long a0)]) hx hb dX3_many_3 rfl hl (by decide) rfl (fun ls hl => ?_)
  exact hb4 zF a0 (0 : Int32) (0 : Int32) _ _ _ hf hI (lv_sub hl [2, 1, 0] rfl)

def fX3_values_b51 (k5 : Int64 → Int64 → Int32 → Option Int64) (k18 : Int64 → Int64 → Int32 → Int64 → Int32 → Option Int64) (v0 : Int64) (v2 : Int64) (v4 : Int32) (v7 : Int32) (u0 : Int64) (u1 : Int64) : Option Int64 :=
k18 v0 v2 v4 (u1 + u0) (v7 + (1 : Int32))

def fX3_values_b50 (k5 : Int64 → Int64 → Int32 → Option Int64) (k18 : Int64 → Int64 → Int32 → Int64 → Int32 → Option Int64) (v0 : Int64) (v2 : Int64) (v4 : Int32) (v7 : Int32) (u0 : Int64) : Option Int64 :=
fX3_values_b51 k5 k18 v0 v2 v4 v7 (0 : Int64) u0

def fX3_values_b18 (k5 : Int64 → Int64 → Int32 → Option Int64) (k18 : Int64 → Int64 → Int32 → Int64 → Int32 → Option Int64) (v0 : Int64) (v2 : Int64) (v4 : Int32) (v5 : Int64) (v7 : Int32) : Option Int64 :=
(if (64 : Int32) ≤ v7 then (zL (v2 ||| ((v5 &&& (1 : Int64)) <<< (v4.toInt64 &&& 63))) (fun n_69 =>
k5 v0 n_69 (v4 + (1 : Int32)))) else
(if (v7 &&& (v4 ^^^ (-1 : Int32))) = 0 then (zB1 (fX3_has v0 v7) (fun r_40 =>
(if r_40 = 0 then fX3_values_b50 k5 k18 v0 v2 v4 v7 v5 else
fX3_values_b51 k5 k18 v0 v2 v4 v7 (1 : Int64) v5))) else
fX3_values_b50 k5 k18 v0 v2 v4 v7 v5))
def fX3_values_b18L (k5 : Int64 → Int64 → Int32 → Option Int64) : Nat → Int64 → Int64 → Int32 → Int64 → Int32 → Option Int64
  | 0, _, _, _, _, _ => none
  | n + 1, v0, v2, v4, v5, v7 => fX3_values_b18 k5 (fX3_values_b18L k5 n) v0 v2 v4 v5 v7

def fX3_values_b5 (k5 : Int64 → Int64 → Int32 → Option Int64) (v0 : Int64) (v2 : Int64) (v4 : Int32) : Option Int64 :=
(if (64 : Int32) ≤ v4 then some v2 else
fX3_values_b18L k5 zF v0 v2 v4 (0 : Int64) (0 : Int32))
def fX3_values_b5L : Nat → Int64 → Int64 → Int32 → Option Int64
  | 0, _, _, _ => none
  | n + 1, v0, v2, v4 => fX3_values_b5 (fX3_values_b5L n) v0 v2 v4

def fX3_values (a0 : Int64) : Option Int64 :=
fX3_values_b5L zF a0 (0 : Int64) (0 : Int32)
set_option maxHeartbeats 4000000 in
set_option maxRecDepth 100000 in
theorem kX3_values (l : Launch) (zq : Nat → Nat) (D : va_G) (a0 : Int64) (r : Int64) (hf : fX3_values a0 = some r) : zMet l yX3_values wsX3_values 1 22 zq D [] [] [.long a0] (some (.long r)) [] := by
  refine zMet.of cX3_values 8 (some .long) (by decide) rfl (Nat.le_of_ble_eq_true rfl) ?_
  intro p e s m args below meth c A ls C hl hI
  have hl : lv_has ls 8 [(0, .long a0)] := hl
  have C : zC p s m args meth c cX3_values 8 (some .long) RX3 wsX3_values D [] zq A := C
  obtain ⟨hx, hb, hml, hown, hts, hret, hlk, hK, hX, hA⟩ := id C
  obtain ⟨Q, hQ⟩ : ∃ Q, Q = MQ below (zQ D [] [] (some (.long r)) A) args s 0 0 A := ⟨_, rfl⟩
  rw [← hQ]
  have hb51 : ∀ (k5 : Int64 → Int64 → Int32 → Option Int64) (hk5 : ∀ (v0 : Int64) (v2 : Int64) (v4 : Int32) (H : Heap) (locs : List Loc) (ls : Array Slot), k5 v0 v2 v4 = some r → zI D A s H locs [] → lv_has ls 8 [(0, .long v0), (2, .long v2), (4, .int v4)] → W p l e { frames := 1, cells := 0, slots := 0, locals := 22 } s m args below meth c H locs 0 0 Q (F0 m 5 ls [])) (k18 : Int64 → Int64 → Int32 → Int64 → Int32 → Option Int64) (hk18 : ∀ (v0 : Int64) (v2 : Int64) (v4 : Int32) (v5 : Int64) (v7 : Int32) (H : Heap) (locs : List Loc) (ls : Array Slot), k18 v0 v2 v4 v5 v7 = some r → zI D A s H locs [] → lv_has ls 8 [(0, .long v0), (2, .long v2), (4, .int v4), (5, .long v5), (7, .int v7)] → W p l e { frames := 1, cells := 0, slots := 0, locals := 22 } s m args below meth c H locs 0 0 Q (F0 m 18 ls [])), ∀ (v0 : Int64) (v2 : Int64) (v4 : Int32) (v7 : Int32) (u0 : Int64) (u1 : Int64) (H : Heap) (locs : List Loc) (ls : Array Slot), fX3_values_b51 k5 k18 v0 v2 v4 v7 u0 u1 = some r → zI D A s H locs [] → lv_has ls 8 [(0, .long v0), (2, .long v2), (4, .int v4), (7, .int v7)] → W p l e { frames := 1, cells := 0, slots := 0, locals := 22 } s m args below meth c H locs 0 0 Q (F0 m 51 ls [.long u0, .long u1]) := by
    intro k5 hk5 k18 hk18 v0 v2 v4 v7 u0 u1 H locs ls hf hI hl
    unfold fX3_values_b51 at hf
    refine lv_ladd hx hb dX3_values_51 ?_
    refine lv_lstore (lv' := [(5, .long (u1 + u0)), (0, .long v0), (2, .long v2), (4, .int v4), (7, .int v7)]) hx hb dX3_values_52 hl (by decide) rfl (fun ls hl => ?_)
    refine lv_iinc (v := (v7 + (1 : Int32))) (lv' := [(7, .int (v7 + (1 : Int32))), (5, .long (u1 + u0)), (0, .long v0), (2, .long v2), (4, .int v4)]) hx hb dX3_values_54 hl (k := 4) rfl rfl (by decide) rfl (fun ls hl => ?_)
    refine lv_goto (tgt := 18) hx hb dX3_values_57 (by decide) ?_
    exact hk18 v0 v2 v4 (u1 + u0) (v7 + (1 : Int32)) _ _ _ hf hI (lv_sub hl [2, 3, 4, 1, 0] rfl)
  have hb50 : ∀ (k5 : Int64 → Int64 → Int32 → Option Int64) (hk5 : ∀ (v0 : Int64) (v2 : Int64) (v4 : Int32) (H : Heap) (locs : List Loc) (ls : Array Slot), k5 v0 v2 v4 = some r → zI D A s H locs [] → lv_has ls 8 [(0, .long v0), (2, .long v2), (4, .int v4)] → W p l e { frames := 1, cells := 0, slots := 0, locals := 22 } s m args below meth c H locs 0 0 Q (F0 m 5 ls [])) (k18 : Int64 → Int64 → Int32 → Int64 → Int32 → Option Int64) (hk18 : ∀ (v0 : Int64) (v2 : Int64) (v4 : Int32) (v5 : Int64) (v7 : Int32) (H : Heap) (locs : List Loc) (ls : Array Slot), k18 v0 v2 v4 v5 v7 = some r → zI D A s H locs [] → lv_has ls 8 [(0, .long v0), (2, .long v2), (4, .int v4), (5, .long v5), (7, .int v7)] → W p l e { frames := 1, cells := 0, slots := 0, locals := 22 } s m args below meth c H locs 0 0 Q (F0 m 18 ls [])), ∀ (v0 : Int64) (v2 : Int64) (v4 : Int32) (v7 : Int32) (u0 : Int64) (H : Heap) (locs : List Loc) (ls : Array Slot), fX3_values_b50 k5 k18 v0 v2 v4 v7 u0 = some r → zI D A s H locs [] → lv_has ls 8 [(0, .long v0), (2, .long v2), (4, .int v4), (7, .int v7)] → W p l e { frames := 1, cells := 0, slots := 0, locals := 22 } s m args below meth c H locs 0 0 Q (F0 m 50 ls [.long u0]) := by
    intro k5 hk5 k18 hk18 v0 v2 v4 v7 u0 H locs ls hf hI hl
    unfold fX3_values_b50 at hf
    refine lv_lconst (v := 0) hx hb dX3_values_50 (by decide) ?_
    exact hb51 k5 hk5 k18 hk18 v0 v2 v4 v7 (0 : Int64) u0 _ _ _ hf hI (lv_sub hl [0, 1, 2, 3] rfl)
  have hb18 : ∀ (k5 : Int64 → Int64 → Int32 → Option Int64) (hk5 : ∀ (v0 : Int64) (v2 : Int64) (v4 : Int32) (H : Heap) (locs : List Loc) (ls : Array Slot), k5 v0 v2 v4 = some r → zI D A s H locs [] → lv_has ls 8 [(0, .long v0), (2, .long v2), (4, .int v4)] → W p l e { frames := 1, cells := 0, slots := 0, locals := 22 } s m args below meth c H locs 0 0 Q (F0 m 5 ls [])) (n : Nat), ∀ (v0 : Int64) (v2 : Int64) (v4 : Int32) (v5 : Int64) (v7 : Int32) (H : Heap) (locs : List Loc) (ls : Array Slot), fX3_values_b18L k5 n v0 v2 v4 v5 v7 = some r → zI D A s H locs [] → lv_has ls 8 [(0, .long v0), (2, .long v2), (4, .int v4), (5, .long v5), (7, .int v7)] → W p l e { frames := 1, cells := 0, slots := 0, locals := 22 } s m args below meth c H locs 0 0 Q (F0 m 18 ls []) := by
    intro k5 hk5 n
    induction n with
    | zero => intro v0 v2 v4 v5 v7 H locs ls hf; cases (show (none : Option Int64) = some r from hf)
    | succ n ih =>
      intro v0 v2 v4 v5 v7 H locs ls hf hI hl
      have hf : fX3_values_b18 k5 (fX3_values_b18L k5 n) v0 v2 v4 v5 v7 = some r := hf
      unfold fX3_values_b18 at hf
      refine lv_iload hx hb dX3_values_18 (lv_at hl 4 rfl) ?_
      refine lv_bipush (v := 64) hx hb dX3_values_20 (by decide) ?_
      refine lv_icmp_ge (tgt := 60) hx hb dX3_values_22 (by decide) (fun c_22 => ?_) (fun c_22 => ?_)
      · replace hf := zIt c_22 hf
        refine lv_lload_n hx hb dX3_values_60 rfl (lv_at hl 1 rfl) ?_
        refine lv_lload hx hb dX3_values_61 (lv_at hl 3 rfl) ?_
        refine lv_lconst (v := 1) hx hb dX3_values_63 (by decide) ?_
        refine lv_land hx hb dX3_values_64 ?_
        refine lv_iload hx hb dX3_values_65 (lv_at hl 2 rfl) ?_
        refine lv_lshl hx hb dX3_values_67 rfl ?_
        refine lv_lor hx hb dX3_values_68 ?_
        refine lv_topl (fun n_69 e_69 => ?_)
        replace hf := zL_s hf e_69
        refine lv_lstore_n (lv' := [(2, .long n_69), (0, .long v0), (4, .int v4), (5, .long v5), (7, .int v7)]) hx hb dX3_values_69 rfl hl (by decide) rfl (fun ls hl => ?_)
        refine lv_iinc (v := (v4 + (1 : Int32))) (lv' := [(4, .int (v4 + (1 : Int32))), (2, .long n_69), (0, .long v0), (5, .long v5), (7, .int v7)]) hx hb dX3_values_70 hl (k := 2) rfl rfl (by decide) rfl (fun ls hl => ?_)
        refine lv_goto (tgt := 5) hx hb dX3_values_73 (by decide) ?_
        exact hk5 v0 n_69 (v4 + (1 : Int32)) _ _ _ hf hI (lv_sub hl [2, 1, 0] rfl)
      · replace hf := zIf c_22 hf
        refine lv_lload hx hb dX3_values_25 (lv_at hl 3 rfl) ?_
        refine lv_iload hx hb dX3_values_27 (lv_at hl 4 rfl) ?_
        refine lv_iload hx hb dX3_values_29 (lv_at hl 2 rfl) ?_
        refine lv_iconst (v := -1) hx hb dX3_values_31 (by decide) ?_
        refine lv_ixor hx hb dX3_values_32 ?_
        refine lv_iand hx hb dX3_values_33 ?_
        refine lv_if_ne (tgt := 50) hx hb dX3_values_34 (by decide) (fun c_34 => ?_) (fun c_34 => ?_)
        · replace hf := zIf c_34 hf
          exact hb50 k5 hk5 (fX3_values_b18L k5 n) ih v0 v2 v4 v7 v5 _ _ _ hf hI (lv_sub hl [0, 1, 2, 4] rfl)
        · replace hf := zIt c_34 hf
          refine lv_lload_n hx hb dX3_values_37 rfl (lv_at hl 0 rfl) ?_
          refine lv_iload hx hb dX3_values_38 (lv_at hl 4 rfl) ?_
          obtain ⟨r_40, hf_40, hf⟩ := zB1_s hf
          refine z_callS C 2 (kX3_has l zq D v0 v7 r_40 hf_40) gX3_values_X3_has rfl (by decide +kernel) ⟨by decide, by decide⟩ hI rfl hl.1 rfl (Nat.le_of_ble_eq_true rfl) dX3_values_40 ⟨by decide, by decide⟩ (st2 := [.int r_40, .long v5]) rfl (fun H locs hI => ?_)
          refine lv_if_eq (tgt := 50) hx hb dX3_values_43 (by decide) (fun c_43 => ?_) (fun c_43 => ?_)
          · replace hf := zIt c_43 hf
            exact hb50 k5 hk5 (fX3_values_b18L k5 n) ih v0 v2 v4 v7 v5 _ _ _ hf hI (lv_sub hl [0, 1, 2, 4] rfl)
          · replace hf := zIf c_43 hf
            refine lv_lconst (v := 1) hx hb dX3_values_46 (by decide) ?_
            refine lv_goto (tgt := 51) hx hb dX3_values_47 (by decide) ?_
            exact hb51 k5 hk5 (fX3_values_b18L k5 n) ih v0 v2 v4 v7 (1 : Int64) v5 _ _ _ hf hI (lv_sub hl [0, 1, 2, 4] rfl)
  have hb5 : ∀ (n : Nat), ∀ (v0 : Int64) (v2 : Int64) (v4 : Int32) (H : Heap) (locs : List Loc) (ls : Array Slot), fX3_values_b5L n v0 v2 v4 = some r → zI D A s H locs [] → lv_has ls 8 [(0, .long v0), (2, .long v2), (4, .int v4)] → W p l e { frames := 1, cells := 0, slots := 0, locals := 22 } s m args below meth c H locs 0 0 Q (F0 m 5 ls []) := by
    intro n
    induction n with
    | zero => intro v0 v2 v4 H locs ls hf; cases (show (none : Option Int64) = some r from hf)
    | succ n ih =>
      intro v0 v2 v4 H locs ls hf hI hl
      have hf : fX3_values_b5 (fX3_values_b5L n) v0 v2 v4 = some r := hf
      unfold fX3_values_b5 at hf
      refine lv_iload hx hb dX3_values_5 (lv_at hl 2 rfl) ?_
      refine lv_bipush (v := 64) hx hb dX3_values_7 (by decide) ?_
      refine lv_icmp_ge (tgt := 76) hx hb dX3_values_9 (by decide) (fun c_9 => ?_) (fun c_9 => ?_)
      · replace hf := zIt c_9 hf
        refine lv_lload_n hx hb dX3_values_76 rfl (lv_at hl 1 rfl) ?_
        have h1 := zP1 hf
        rw [hQ]
        exact z_lret C hI (by rw [h1]) dX3_values_77
      · replace hf := zIf c_9 hf
        refine lv_lconst (v := 0) hx hb dX3_values_12 (by decide) ?_
        refine lv_lstore (lv' := [(5, .long (0 : Int64)), (0, .long v0), (2, .long v2), (4, .int v4)]) hx hb dX3_values_13 hl (by decide) rfl (fun ls hl => ?_)
        refine lv_iconst (v := 0) hx hb dX3_values_15 (by decide) ?_
        refine lv_istore (lv' := [(7, .int (0 : Int32)), (5, .long (0 : Int64)), (0, .long v0), (2, .long v2), (4, .int v4)]) hx hb dX3_values_16 hl (by decide) rfl (fun ls hl => ?_)
        exact hb18 (fX3_values_b5L n) ih zF v0 v2 v4 (0 : Int64) (0 : Int32) _ _ _ hf hI (lv_sub hl [2, 3, 4, 1, 0] rfl)
  unfold fX3_values at hf
  refine lv_lconst (v := 0) hx hb dX3_values_0 (by decide) ?_
  refine lv_lstore_n (lv' := [(2, .long (0 : Int64)), (0, .long a0)]) hx hb dX3_values_1 rfl hl (by decide) rfl (fun ls hl => ?_)
  refine lv_iconst (v := 0) hx hb dX3_values_2 (by decide) ?_
  refine lv_istore (lv' := [(4, .int (0 : Int32)), (2, .long (0 : Int64)), (0, .long a0)]) hx hb dX3_values_3 hl (by decide) rfl (fun ls hl => ?_)
  exact hb5 zF a0 (0 : Int64) (0 : Int32) _ _ _ hf hI (lv_sub hl [2, 1, 0] rfl)

def fX3_raised_b32 (k5 : Int64 → Int32 → Int64 → Int32 → Option Int64) (v0 : Int64) (v2 : Int32) (v5 : Int32) (u0 : Int64) (u1 : Int64) : Option Int64 :=
k5 v0 v2 (u1 ^^^ u0) (v5 + (1 : Int32))

def fX3_raised_b5 (k5 : Int64 → Int32 → Int64 → Int32 → Option Int64) (v0 : Int64) (v2 : Int32) (v3 : Int64) (v5 : Int32) : Option Int64 :=
(if (64 : Int32) ≤ v5 then some v3 else
(zB1 (fX3_has v0 v5) (fun r_16 =>
(if r_16 = 0 then fX3_raised_b32 k5 v0 v2 v5 (0 : Int64) v3 else
fX3_raised_b32 k5 v0 v2 v5 ((1 : Int64) <<< ((v5 ||| v2).toInt64 &&& 63)) v3))))
def fX3_raised_b5L : Nat → Int64 → Int32 → Int64 → Int32 → Option Int64
  | 0, _, _, _, _ => none
  | n + 1, v0, v2, v3, v5 => fX3_raised_b5 (fX3_raised_b5L n) v0 v2 v3 v5

def fX3_raised (a0 : Int64) (a2 : Int32) : Option Int64 :=
fX3_raised_b5L zF a0 a2 (0 : Int64) (0 : Int32)
set_option maxHeartbeats 4000000 in
set_option maxRecDepth 100000 in
theorem kX3_raised (l : Launch) (zq : Nat → Nat) (D : va_G) (a0 : Int64) (a2 : Int32) (r : Int64) (hf : fX3_raised a0 a2 = some r) : zMet l yX3_raised wsX3_raised 1 22 zq D [] [] [.long a0, .int a2] (some (.long r)) [] := by
  refine zMet.of cX3_raised 6 (some .long) (by decide) rfl (Nat.le_of_ble_eq_true rfl) ?_
  intro p e s m args below meth c A ls C hl hI
  have hl : lv_has ls 6 [(0, .long a0), (2, .int a2)] := hl
  have C : zC p s m args meth c cX3_raised 6 (some .long) RX3 wsX3_raised D [] zq A := C
  obtain ⟨hx, hb, hml, hown, hts, hret, hlk, hK, hX, hA⟩ := id C
  obtain ⟨Q, hQ⟩ : ∃ Q, Q = MQ below (zQ D [] [] (some (.long r)) A) args s 0 0 A := ⟨_, rfl⟩
  rw [← hQ]
  have hb32 : ∀ (k5 : Int64 → Int32 → Int64 → Int32 → Option Int64) (hk5 : ∀ (v0 : Int64) (v2 : Int32) (v3 : Int64) (v5 : Int32) (H : Heap) (locs : List Loc) (ls : Array Slot), k5 v0 v2 v3 v5 = some r → zI D A s H locs [] → lv_has ls 6 [(0, .long v0), (2, .int v2), (3, .long v3), (5, .int v5)] → W p l e { frames := 1, cells := 0, slots := 0, locals := 22 } s m args below meth c H locs 0 0 Q (F0 m 5 ls [])), ∀ (v0 : Int64) (v2 : Int32) (v5 : Int32) (u0 : Int64) (u1 : Int64) (H : Heap) (locs : List Loc) (ls : Array Slot), fX3_raised_b32 k5 v0 v2 v5 u0 u1 = some r → zI D A s H locs [] → lv_has ls 6 [(0, .long v0), (2, .int v2), (5, .int v5)] → W p l e { frames := 1, cells := 0, slots := 0, locals := 22 } s m args below meth c H locs 0 0 Q (F0 m 32 ls [.long u0, .long u1]) := by
    intro k5 hk5 v0 v2 v5 u0 u1 H locs ls hf hI hl
    unfold fX3_raised_b32 at hf
    refine lv_lxor hx hb dX3_raised_32 ?_
    refine lv_lstore_n (lv' := [(3, .long (u1 ^^^ u0)), (0, .long v0), (2, .int v2), (5, .int v5)]) hx hb dX3_raised_33 rfl hl (by decide) rfl (fun ls hl => ?_)
    refine lv_iinc (v := (v5 + (1 : Int32))) (lv' := [(5, .int (v5 + (1 : Int32))), (3, .long (u1 ^^^ u0)), (0, .long v0), (2, .int v2)]) hx hb dX3_raised_34 hl (k := 3) rfl rfl (by decide) rfl (fun ls hl => ?_)
    refine lv_goto (tgt := 5) hx hb dX3_raised_37 (by decide) ?_
    exact hk5 v0 v2 (u1 ^^^ u0) (v5 + (1 : Int32)) _ _ _ hf hI (lv_sub hl [2, 3, 1, 0] rfl)
  have hb5 : ∀ (n : Nat), ∀ (v0 : Int64) (v2 : Int32) (v3 : Int64) (v5 : Int32) (H : Heap) (locs : List Loc) (ls : Array Slot), fX3_raised_b5L n v0 v2 v3 v5 = some r → zI D A s H locs [] → lv_has ls 6 [(0, .long v0), (2, .int v2), (3, .long v3), (5, .int v5)] → W p l e { frames := 1, cells := 0, slots := 0, locals := 22 } s m args below meth c H locs 0 0 Q (F0 m 5 ls []) := by
    intro n
    induction n with
    | zero => intro v0 v2 v3 v5 H locs ls hf; cases (show (none : Option Int64) = some r from hf)
    | succ n ih =>
      intro v0 v2 v3 v5 H locs ls hf hI hl
      have hf : fX3_raised_b5 (fX3_raised_b5L n) v0 v2 v3 v5 = some r := hf
      unfold fX3_raised_b5 at hf
      refine lv_iload hx hb dX3_raised_5 (lv_at hl 3 rfl) ?_
      refine lv_bipush (v := 64) hx hb dX3_raised_7 (by decide) ?_
      refine lv_icmp_ge (tgt := 40) hx hb dX3_raised_9 (by decide) (fun c_9 => ?_) (fun c_9 => ?_)
      · replace hf := zIt c_9 hf
        refine lv_lload_n hx hb dX3_raised_40 rfl (lv_at hl 2 rfl) ?_
        have h1 := zP1 hf
        rw [hQ]
        exact z_lret C hI (by rw [h1]) dX3_raised_41
      · replace hf := zIf c_9 hf
        refine lv_lload_n hx hb dX3_raised_12 rfl (lv_at hl 2 rfl) ?_
        refine lv_lload_n hx hb dX3_raised_13 rfl (lv_at hl 0 rfl) ?_
        refine lv_iload hx hb dX3_raised_14 (lv_at hl 3 rfl) ?_
        obtain ⟨r_16, hf_16, hf⟩ := zB1_s hf
        refine z_callS C 2 (kX3_has l zq D v0 v5 r_16 hf_16) gX3_raised_X3_has rfl (by decide +kernel) ⟨by decide, by decide⟩ hI rfl hl.1 rfl (Nat.le_of_ble_eq_true rfl) dX3_raised_16 ⟨by decide, by decide⟩ (st2 := [.int r_16, .long v3]) rfl (fun H locs hI => ?_)
        refine lv_if_eq (tgt := 31) hx hb dX3_raised_19 (by decide) (fun c_19 => ?_) (fun c_19 => ?_)
        · replace hf := zIt c_19 hf
          refine lv_lconst (v := 0) hx hb dX3_raised_31 (by decide) ?_
          exact hb32 (fX3_raised_b5L n) ih v0 v2 v5 (0 : Int64) v3 _ _ _ hf hI (lv_sub hl [0, 1, 3] rfl)
        · replace hf := zIf c_19 hf
          refine lv_lconst (v := 1) hx hb dX3_raised_22 (by decide) ?_
          refine lv_iload hx hb dX3_raised_23 (lv_at hl 3 rfl) ?_
          refine lv_iload_n hx hb dX3_raised_25 rfl (lv_at hl 1 rfl) ?_
          refine lv_ior hx hb dX3_raised_26 ?_
          refine lv_lshl hx hb dX3_raised_27 rfl ?_
          refine lv_goto (tgt := 32) hx hb dX3_raised_28 (by decide) ?_
          exact hb32 (fX3_raised_b5L n) ih v0 v2 v5 ((1 : Int64) <<< ((v5 ||| v2).toInt64 &&& 63)) v3 _ _ _ hf hI (lv_sub hl [0, 1, 3] rfl)
  unfold fX3_raised at hf
  refine lv_lconst (v := 0) hx hb dX3_raised_0 (by decide) ?_
  refine lv_lstore_n (lv' := [(3, .long (0 : Int64)), (0, .long a0), (2, .int a2)]) hx hb dX3_raised_1 rfl hl (by decide) rfl (fun ls hl => ?_)
  refine lv_iconst (v := 0) hx hb dX3_raised_2 (by decide) ?_
  refine lv_istore (lv' := [(5, .int (0 : Int32)), (3, .long (0 : Int64)), (0, .long a0), (2, .int a2)]) hx hb dX3_raised_3 hl (by decide) rfl (fun ls hl => ?_)
  exact hb5 zF a0 a2 (0 : Int64) (0 : Int32) _ _ _ hf hI (lv_sub hl [2, 3, 1, 0] rfl)

def fX3_multiplied_b34 (k6 : Int64 → Int64 → Int64 → Int32 → Option Int64) (v0 : Int64) (v2 : Int64) (v6 : Int32) (u0 : Int64) (u1 : Int64) : Option Int64 :=
k6 v0 v2 (u1 ^^^ u0) (v6 + (1 : Int32))

def fX3_multiplied_b6 (k6 : Int64 → Int64 → Int64 → Int32 → Option Int64) (v0 : Int64) (v2 : Int64) (v4 : Int64) (v6 : Int32) : Option Int64 :=
(if (64 : Int32) ≤ v6 then some v4 else
(zB1 (fX3_has v2 v6) (fun r_18 =>
(if r_18 = 0 then fX3_multiplied_b34 k6 v0 v2 v6 (0 : Int64) v4 else
(zB1 (fX3_raised v0 v6) (fun r_27 =>
fX3_multiplied_b34 k6 v0 v2 v6 r_27 v4))))))
def fX3_multiplied_b6L : Nat → Int64 → Int64 → Int64 → Int32 → Option Int64
  | 0, _, _, _, _ => none
  | n + 1, v0, v2, v4, v6 => fX3_multiplied_b6 (fX3_multiplied_b6L n) v0 v2 v4 v6

def fX3_multiplied (a0 : Int64) (a2 : Int64) : Option Int64 :=
fX3_multiplied_b6L zF a0 a2 (0 : Int64) (0 : Int32)
set_option maxHeartbeats 4000000 in
set_option maxRecDepth 100000 in
theorem kX3_multiplied (l : Launch) (zq : Nat → Nat) (D : va_G) (a0 : Int64) (a2 : Int64) (r : Int64) (hf : fX3_multiplied a0 a2 = some r) : zMet l yX3_multiplied wsX3_multiplied 2 47 zq D [] [] [.long a0, .long a2] (some (.long r)) [] := by
  refine zMet.of cX3_multiplied 7 (some .long) (by decide) rfl (Nat.le_of_ble_eq_true rfl) ?_
  intro p e s m args below meth c A ls C hl hI
  have hl : lv_has ls 7 [(0, .long a0), (2, .long a2)] := hl
  have C : zC p s m args meth c cX3_multiplied 7 (some .long) RX3 wsX3_multiplied D [] zq A := C
  obtain ⟨hx, hb, hml, hown, hts, hret, hlk, hK, hX, hA⟩ := id C
  obtain ⟨Q, hQ⟩ : ∃ Q, Q = MQ below (zQ D [] [] (some (.long r)) A) args s 0 0 A := ⟨_, rfl⟩
  rw [← hQ]
  have hb34 : ∀ (k6 : Int64 → Int64 → Int64 → Int32 → Option Int64) (hk6 : ∀ (v0 : Int64) (v2 : Int64) (v4 : Int64) (v6 : Int32) (H : Heap) (locs : List Loc) (ls : Array Slot), k6 v0 v2 v4 v6 = some r → zI D A s H locs [] → lv_has ls 7 [(0, .long v0), (2, .long v2), (4, .long v4), (6, .int v6)] → W p l e { frames := 2, cells := 0, slots := 0, locals := 47 } s m args below meth c H locs 0 0 Q (F0 m 6 ls [])), ∀ (v0 : Int64) (v2 : Int64) (v6 : Int32) (u0 : Int64) (u1 : Int64) (H : Heap) (locs : List Loc) (ls : Array Slot), fX3_multiplied_b34 k6 v0 v2 v6 u0 u1 = some r → zI D A s H locs [] → lv_has ls 7 [(0, .long v0), (2, .long v2), (6, .int v6)] → W p l e { frames := 2, cells := 0, slots := 0, locals := 47 } s m args below meth c H locs 0 0 Q (F0 m 34 ls [.long u0, .long u1]) := by
    intro k6 hk6 v0 v2 v6 u0 u1 H locs ls hf hI hl
    unfold fX3_multiplied_b34 at hf
    refine lv_lxor hx hb dX3_multiplied_34 ?_
    refine lv_lstore (lv' := [(4, .long (u1 ^^^ u0)), (0, .long v0), (2, .long v2), (6, .int v6)]) hx hb dX3_multiplied_35 hl (by decide) rfl (fun ls hl => ?_)
    refine lv_iinc (v := (v6 + (1 : Int32))) (lv' := [(6, .int (v6 + (1 : Int32))), (4, .long (u1 ^^^ u0)), (0, .long v0), (2, .long v2)]) hx hb dX3_multiplied_37 hl (k := 3) rfl rfl (by decide) rfl (fun ls hl => ?_)
    refine lv_goto (tgt := 6) hx hb dX3_multiplied_40 (by decide) ?_
    exact hk6 v0 v2 (u1 ^^^ u0) (v6 + (1 : Int32)) _ _ _ hf hI (lv_sub hl [2, 3, 1, 0] rfl)
  have hb6 : ∀ (n : Nat), ∀ (v0 : Int64) (v2 : Int64) (v4 : Int64) (v6 : Int32) (H : Heap) (locs : List Loc) (ls : Array Slot), fX3_multiplied_b6L n v0 v2 v4 v6 = some r → zI D A s H locs [] → lv_has ls 7 [(0, .long v0), (2, .long v2), (4, .long v4), (6, .int v6)] → W p l e { frames := 2, cells := 0, slots := 0, locals := 47 } s m args below meth c H locs 0 0 Q (F0 m 6 ls []) := by
    intro n
    induction n with
    | zero => intro v0 v2 v4 v6 H locs ls hf; cases (show (none : Option Int64) = some r from hf)
    | succ n ih =>
      intro v0 v2 v4 v6 H locs ls hf hI hl
      have hf : fX3_multiplied_b6 (fX3_multiplied_b6L n) v0 v2 v4 v6 = some r := hf
      unfold fX3_multiplied_b6 at hf
      refine lv_iload hx hb dX3_multiplied_6 (lv_at hl 3 rfl) ?_
      refine lv_bipush (v := 64) hx hb dX3_multiplied_8 (by decide) ?_
      refine lv_icmp_ge (tgt := 43) hx hb dX3_multiplied_10 (by decide) (fun c_10 => ?_) (fun c_10 => ?_)
      · replace hf := zIt c_10 hf
        refine lv_lload hx hb dX3_multiplied_43 (lv_at hl 2 rfl) ?_
        have h1 := zP1 hf
        rw [hQ]
        exact z_lret C hI (by rw [h1]) dX3_multiplied_45
      · replace hf := zIf c_10 hf
        refine lv_lload hx hb dX3_multiplied_13 (lv_at hl 2 rfl) ?_
        refine lv_lload_n hx hb dX3_multiplied_15 rfl (lv_at hl 1 rfl) ?_
        refine lv_iload hx hb dX3_multiplied_16 (lv_at hl 3 rfl) ?_
        obtain ⟨r_18, hf_18, hf⟩ := zB1_s hf
        refine z_callS C 2 (kX3_has l zq D v2 v6 r_18 hf_18) gX3_multiplied_X3_has rfl (by decide +kernel) ⟨by decide, by decide⟩ hI rfl hl.1 rfl (Nat.le_of_ble_eq_true rfl) dX3_multiplied_18 ⟨by decide, by decide⟩ (st2 := [.int r_18, .long v4]) rfl (fun H locs hI => ?_)
        refine lv_if_eq (tgt := 33) hx hb dX3_multiplied_21 (by decide) (fun c_21 => ?_) (fun c_21 => ?_)
        · replace hf := zIt c_21 hf
          refine lv_lconst (v := 0) hx hb dX3_multiplied_33 (by decide) ?_
          exact hb34 (fX3_multiplied_b6L n) ih v0 v2 v6 (0 : Int64) v4 _ _ _ hf hI (lv_sub hl [0, 1, 3] rfl)
        · replace hf := zIf c_21 hf
          refine lv_lload_n hx hb dX3_multiplied_24 rfl (lv_at hl 0 rfl) ?_
          refine lv_iload hx hb dX3_multiplied_25 (lv_at hl 3 rfl) ?_
          obtain ⟨r_27, hf_27, hf⟩ := zB1_s hf
          refine z_callS C 2 (kX3_raised l zq D v0 v6 r_27 hf_27) gX3_multiplied_X3_raised rfl (by decide +kernel) ⟨by decide, by decide⟩ hI rfl hl.1 rfl (Nat.le_of_ble_eq_true rfl) dX3_multiplied_27 ⟨by decide, by decide⟩ (st2 := [.long r_27, .long v4]) rfl (fun H locs hI => ?_)
          refine lv_goto (tgt := 34) hx hb dX3_multiplied_30 (by decide) ?_
          exact hb34 (fX3_multiplied_b6L n) ih v0 v2 v6 r_27 v4 _ _ _ hf hI (lv_sub hl [0, 1, 3] rfl)
  unfold fX3_multiplied at hf
  refine lv_lconst (v := 0) hx hb dX3_multiplied_0 (by decide) ?_
  refine lv_lstore (lv' := [(4, .long (0 : Int64)), (0, .long a0), (2, .long a2)]) hx hb dX3_multiplied_1 hl (by decide) rfl (fun ls hl => ?_)
  refine lv_iconst (v := 0) hx hb dX3_multiplied_3 (by decide) ?_
  refine lv_istore (lv' := [(6, .int (0 : Int32)), (4, .long (0 : Int64)), (0, .long a0), (2, .long a2)]) hx hb dX3_multiplied_4 hl (by decide) rfl (fun ls hl => ?_)
  exact hb6 zF a0 a2 (0 : Int64) (0 : Int32) _ _ _ hf hI (lv_sub hl [2, 3, 1, 0] rfl)

def fX3_leadOf_b38 (k6 : Int64 → Int32 → Int32 → MS → Option (Int32 × MS)) (v1 : Int64) (v4 : Int32) (u0 : Int32) (S : MS) : Option (Int32 × MS) :=
k6 v1 u0 (v4 + (1 : Int32)) S

def fX3_leadOf_b6 (k6 : Int64 → Int32 → Int32 → MS → Option (Int32 × MS)) (v1 : Int64) (v3 : Int32) (v4 : Int32) (S : MS) : Option (Int32 × MS) :=
(if (64 : Int32) ≤ v4 then some (v3, S) else
(zGI v4 64
((zB1 (fX3_has v1 ((m_order S) v4.toNatClampNeg)) (fun r_21 =>
(if r_21 = 0 then fX3_leadOf_b38 k6 v1 v4 v3 S else
(zGI v4 64
(fX3_leadOf_b38 k6 v1 v4 ((m_order S) v4.toNatClampNeg) S))))))))
def fX3_leadOf_b6L : Nat → Int64 → Int32 → Int32 → MS → Option (Int32 × MS)
  | 0, _, _, _, _ => none
  | n + 1, v1, v3, v4, S => fX3_leadOf_b6 (fX3_leadOf_b6L n) v1 v3 v4 S

def fX3_leadOf (a1 : Int64) (S : MS) : Option (Int32 × MS) :=
fX3_leadOf_b6L zF a1 (-9 : Int32) (0 : Int32) S
set_option maxHeartbeats 4000000 in
set_option maxRecDepth 100000 in
theorem kX3_leadOf (l : Launch) (zq : Nat → Nat) (D : va_G) (cy : Nat → ClassId) (ad : Nat → Nat) (a1 : Int64) (S S' : MS) (r : Int32) (hf : fX3_leadOf a1 S = some (r, S')) : zMet l yX3_leadOf wsX3_leadOf 1 22 zq D (tM cy) (wM cy ad S) [.ref (ad 0), .long a1] (some (.int r)) (wM cy ad S') := by
  refine zMet.of cX3_leadOf 5 (some .int) (by decide) rfl (Nat.le_of_ble_eq_true rfl) ?_
  intro p e s m args below meth c A ls C hl hI
  have hl : lv_has ls 5 [(0, .ref (ad 0)), (1, .long a1)] := hl
  have C : zC p s m args meth c cX3_leadOf 5 (some .int) RX3 wsX3_leadOf D (tM cy) zq A := C
  obtain ⟨hx, hb, hml, hown, hts, hret, hlk, hK, hX, hA⟩ := id C
  have hiX3 : ∀ w ∈ wsX30, w ∈ wsX3_leadOf := by decide +kernel
  obtain ⟨Q, hQ⟩ : ∃ Q, Q = MQ below (zQ D (tM cy) (wM cy ad S') (some (.int r)) A) args s 0 0 A := ⟨_, rfl⟩
  rw [← hQ]
  have hb38 : ∀ (k6 : Int64 → Int32 → Int32 → MS → Option (Int32 × MS)) (hk6 : ∀ (v1 : Int64) (v3 : Int32) (v4 : Int32) (S : MS) (H : Heap) (locs : List Loc) (ls : Array Slot), k6 v1 v3 v4 S = some (r, S') → zI D A s H locs (wM cy ad S) → lv_has ls 5 [(0, .ref (ad 0)), (1, .long v1), (3, .int v3), (4, .int v4)] → W p l e { frames := 1, cells := 0, slots := 0, locals := 22 } s m args below meth c H locs 0 0 Q (F0 m 6 ls [])), ∀ (v1 : Int64) (v4 : Int32) (u0 : Int32) (S : MS) (H : Heap) (locs : List Loc) (ls : Array Slot), fX3_leadOf_b38 k6 v1 v4 u0 S = some (r, S') → zI D A s H locs (wM cy ad S) → lv_has ls 5 [(0, .ref (ad 0)), (1, .long v1), (4, .int v4)] → W p l e { frames := 1, cells := 0, slots := 0, locals := 22 } s m args below meth c H locs 0 0 Q (F0 m 38 ls [.int u0]) := by
    intro k6 hk6 v1 v4 u0 S H locs ls hf hI hl
    unfold fX3_leadOf_b38 at hf
    refine lv_istore_n (lv' := [(3, .int u0), (0, .ref (ad 0)), (1, .long v1), (4, .int v4)]) hx hb dX3_leadOf_38 rfl hl (by decide) rfl (fun ls hl => ?_)
    refine lv_iinc (v := (v4 + (1 : Int32))) (lv' := [(4, .int (v4 + (1 : Int32))), (3, .int u0), (0, .ref (ad 0)), (1, .long v1)]) hx hb dX3_leadOf_39 hl (k := 3) rfl rfl (by decide) rfl (fun ls hl => ?_)
    refine lv_goto (tgt := 6) hx hb dX3_leadOf_42 (by decide) ?_
    exact hk6 v1 u0 (v4 + (1 : Int32)) S _ _ _ hf hI (lv_sub hl [2, 3, 1, 0] rfl)
  have hb6 : ∀ (n : Nat), ∀ (v1 : Int64) (v3 : Int32) (v4 : Int32) (S : MS) (H : Heap) (locs : List Loc) (ls : Array Slot), fX3_leadOf_b6L n v1 v3 v4 S = some (r, S') → zI D A s H locs (wM cy ad S) → lv_has ls 5 [(0, .ref (ad 0)), (1, .long v1), (3, .int v3), (4, .int v4)] → W p l e { frames := 1, cells := 0, slots := 0, locals := 22 } s m args below meth c H locs 0 0 Q (F0 m 6 ls []) := by
    intro n
    induction n with
    | zero => intro v1 v3 v4 S H locs ls hf; cases (show (none : Option (Int32 × MS)) = some (r, S') from hf)
    | succ n ih =>
      intro v1 v3 v4 S H locs ls hf hI hl
      have hf : fX3_leadOf_b6 (fX3_leadOf_b6L n) v1 v3 v4 S = some (r, S') := hf
      unfold fX3_leadOf_b6 at hf
      refine lv_iload hx hb dX3_leadOf_6 (lv_at hl 3 rfl) ?_
      refine lv_bipush (v := 64) hx hb dX3_leadOf_8 (by decide) ?_
      refine lv_icmp_ge (tgt := 45) hx hb dX3_leadOf_10 (by decide) (fun c_10 => ?_) (fun c_10 => ?_)
      · replace hf := zIt c_10 hf
        refine lv_iload_n hx hb dX3_leadOf_45 rfl (lv_at hl 2 rfl) ?_
        obtain ⟨h1, h2⟩ := zP2 hf
        rw [hQ]
        exact z_iret C (by rw [h2]; exact hI) (by rw [h1]) dX3_leadOf_46
      · replace hf := zIf c_10 hf
        refine lv_lload_n hx hb dX3_leadOf_13 rfl (lv_at hl 1 rfl) ?_
        refine lv_aload_n hx hb dX3_leadOf_14 rfl (lv_at hl 0 rfl) ?_
        refine va_get (D := D) (ci := 3) (v := .ref (ad 1)) (C := RX3) (T := TX3) (N := 27) hx hb hts hiX3 hown hK hI.1 0 rfl rfl 2 (by decide) (hts (.fieldLink RX3 7 "NoughtSumsModel" "order" "[I") (by decide +kernel)) (fun _ h9 => h9) rfl dX3_leadOf_15 ?_
        refine lv_iload hx hb dX3_leadOf_18 (lv_at hl 3 rfl) ?_
        obtain ⟨g_20, hf⟩ := zGI_s hf
        refine va_iald (f := (m_order S)) hx hb hK hI.1 1 0 rfl rfl g_20 dX3_leadOf_20 ?_
        obtain ⟨r_21, hf_21, hf⟩ := zB1_s hf
        refine z_callS C 2 (kX3_has l zq D v1 ((m_order S) v4.toNatClampNeg) r_21 hf_21) gX3_leadOf_X3_has rfl (by decide +kernel) ⟨by decide, by decide⟩ hI rfl hl.1 rfl (Nat.le_of_ble_eq_true rfl) dX3_leadOf_21 ⟨by decide, by decide⟩ (st2 := [.int r_21]) rfl (fun H locs hI => ?_)
        refine lv_if_eq (tgt := 37) hx hb dX3_leadOf_24 (by decide) (fun c_24 => ?_) (fun c_24 => ?_)
        · replace hf := zIt c_24 hf
          refine lv_iload_n hx hb dX3_leadOf_37 rfl (lv_at hl 2 rfl) ?_
          exact hb38 (fX3_leadOf_b6L n) ih v1 v4 v3 S _ _ _ hf hI (lv_sub hl [0, 1, 3] rfl)
        · replace hf := zIf c_24 hf
          refine lv_aload_n hx hb dX3_leadOf_27 rfl (lv_at hl 0 rfl) ?_
          refine va_get (D := D) (ci := 3) (v := .ref (ad 1)) (C := RX3) (T := TX3) (N := 27) hx hb hts hiX3 hown hK hI.1 0 rfl rfl 2 (by decide) (hts (.fieldLink RX3 7 "NoughtSumsModel" "order" "[I") (by decide +kernel)) (fun _ h9 => h9) rfl dX3_leadOf_28 ?_
          refine lv_iload hx hb dX3_leadOf_31 (lv_at hl 3 rfl) ?_
          obtain ⟨g_33, hf⟩ := zGI_s hf
          refine va_iald (f := (m_order S)) hx hb hK hI.1 1 0 rfl rfl g_33 dX3_leadOf_33 ?_
          refine lv_goto (tgt := 38) hx hb dX3_leadOf_34 (by decide) ?_
          exact hb38 (fX3_leadOf_b6L n) ih v1 v4 ((m_order S) v4.toNatClampNeg) S _ _ _ hf hI (lv_sub hl [0, 1, 3] rfl)
  unfold fX3_leadOf at hf
  refine lv_bipush (v := -9) hx hb dX3_leadOf_0 (by decide) ?_
  refine lv_istore_n (lv' := [(3, .int (-9 : Int32)), (0, .ref (ad 0)), (1, .long a1)]) hx hb dX3_leadOf_2 rfl hl (by decide) rfl (fun ls hl => ?_)
  refine lv_iconst (v := 0) hx hb dX3_leadOf_3 (by decide) ?_
  refine lv_istore (lv' := [(4, .int (0 : Int32)), (3, .int (-9 : Int32)), (0, .ref (ad 0)), (1, .long a1)]) hx hb dX3_leadOf_4 hl (by decide) rfl (fun ls hl => ?_)
  exact hb6 zF a1 (-9 : Int32) (0 : Int32) S _ _ _ hf hI (lv_sub hl [2, 3, 1, 0] rfl)

def fX3_degreeOf (a1 : Int64) (S : MS) : Option (Int32 × MS) :=
(if (lg_cmp a1 (0 : Int64)) = 0 then some ((-9 : Int32), S) else
(zB2 (fX3_leadOf a1 S) (fun r_13 S_13 =>
(zB1 (fX3_letters r_13) (fun r_16 =>
some (r_16, S_13))))))
set_option maxHeartbeats 4000000 in
set_option maxRecDepth 100000 in
theorem kX3_degreeOf (l : Launch) (zq : Nat → Nat) (D : va_G) (cy : Nat → ClassId) (ad : Nat → Nat) (a1 : Int64) (S S' : MS) (r : Int32) (hf : fX3_degreeOf a1 S = some (r, S')) : zMet l yX3_degreeOf wsX3_degreeOf 2 46 zq D (tM cy) (wM cy ad S) [.ref (ad 0), .long a1] (some (.int r)) (wM cy ad S') := by
  refine zMet.of cX3_degreeOf 3 (some .int) (by decide) rfl (Nat.le_of_ble_eq_true rfl) ?_
  intro p e s m args below meth c A ls C hl hI
  have hl : lv_has ls 3 [(0, .ref (ad 0)), (1, .long a1)] := hl
  have C : zC p s m args meth c cX3_degreeOf 3 (some .int) RX3 wsX3_degreeOf D (tM cy) zq A := C
  obtain ⟨hx, hb, hml, hown, hts, hret, hlk, hK, hX, hA⟩ := id C
  obtain ⟨Q, hQ⟩ : ∃ Q, Q = MQ below (zQ D (tM cy) (wM cy ad S') (some (.int r)) A) args s 0 0 A := ⟨_, rfl⟩
  rw [← hQ]
  unfold fX3_degreeOf at hf
  refine lv_lload_n hx hb dX3_degreeOf_0 rfl (lv_at hl 1 rfl) ?_
  refine lv_lconst (v := 0) hx hb dX3_degreeOf_1 (by decide) ?_
  refine W.lcmp hx hb dX3_degreeOf_2 ?_
  refine lv_if_ne (tgt := 11) hx hb dX3_degreeOf_3 (by decide) (fun c_3 => ?_) (fun c_3 => ?_)
  · replace hf := zIf c_3 hf
    refine lv_aload_n hx hb dX3_degreeOf_11 rfl (lv_at hl 0 rfl) ?_
    refine lv_lload_n hx hb dX3_degreeOf_12 rfl (lv_at hl 1 rfl) ?_
    obtain ⟨r_13, S_13, hf_13, hf⟩ := zB2_s hf
    refine z_callV (w2 := (wM cy ad S_13)) C 1 (kX3_leadOf l zq D cy ad a1 S S_13 r_13 hf_13) gX3_degreeOf_X3_leadOf rfl (by decide +kernel) ⟨by decide, by decide⟩ hI 0 rfl rfl rfl hl.1 rfl (Nat.le_of_ble_eq_true rfl) dX3_degreeOf_13 ⟨by decide, by decide⟩ (st2 := [.int r_13]) rfl (fun H locs hI => ?_)
    obtain ⟨r_16, hf_16, hf⟩ := zB1_s hf
    refine z_callS C 1 (kX3_letters l zq D r_13 r_16 hf_16) gX3_degreeOf_X3_letters rfl (by decide +kernel) ⟨by decide, by decide⟩ hI rfl hl.1 rfl (Nat.le_of_ble_eq_true rfl) dX3_degreeOf_16 ⟨by decide, by decide⟩ (st2 := [.int r_16]) rfl (fun H locs hI => ?_)
    obtain ⟨h1, h2⟩ := zP2 hf
    rw [hQ]
    exact z_iret C (by rw [h2]; exact hI) (by rw [h1]) dX3_degreeOf_19
  · replace hf := zIt c_3 hf
    refine lv_bipush (v := -9) hx hb dX3_degreeOf_6 (by decide) ?_
    refine lv_goto (tgt := 19) hx hb dX3_degreeOf_8 (by decide) ?_
    obtain ⟨h1, h2⟩ := zP2 hf
    rw [hQ]
    exact z_iret C (by rw [h2]; exact hI) (by rw [h1]) dX3_degreeOf_19

def fX3_type_b37 (k37 : Int64 → Int32 → MS → Option (Int32 × MS)) (v1 : Int64) (v4 : Int32) (S : MS) : Option (Int32 × MS) :=
(if v4 < 0 then some ((m_typed S), S) else
(zGI (m_typed S) 400
(k37 v1 (v4 + (-1 : Int32)) (m_typed_u (m_text_u S (upd (m_text S) (m_typed S).toNatClampNeg ((((v1 >>> (((8 : Int32) * v4).toInt64 &&& 63)) &&& (255 : Int64))).toInt32))) ((m_typed S) + (1 : Int32))))))
def fX3_type_b37L : Nat → Int64 → Int32 → MS → Option (Int32 × MS)
  | 0, _, _, _ => none
  | n + 1, v1, v4, S => fX3_type_b37 (fX3_type_b37L n) v1 v4 S

def fX3_type (a1 : Int64) (a3 : Int32) (S : MS) : Option (Int32 × MS) :=
(zB1 (fX3_in a3 (1 : Int32) (8 : Int32)) (fun r_9 =>
(if r_9 = 0 then some ((-1 : Int32), (m_thrown_u S (0 : Int32))) else
(if ((m_typed S) + a3) ≤ (400 : Int32) then fX3_type_b37L zF a1 (a3 - (1 : Int32)) (m_thrown_u S (0 : Int32)) else
some ((-3 : Int32), (m_thrown_u S (0 : Int32)))))))
set_option maxHeartbeats 4000000 in
set_option maxRecDepth 100000 in
theorem kX3_type (l : Launch) (zq : Nat → Nat) (D : va_G) (cy : Nat → ClassId) (ad : Nat → Nat) (a1 : Int64) (a3 : Int32) (S S' : MS) (r : Int32) (hf : fX3_type a1 a3 S = some (r, S')) : zMet l yX3_type wsX3_type 1 22 zq D (tM cy) (wM cy ad S) [.ref (ad 0), .long a1, .int a3] (some (.int r)) (wM cy ad S') := by
  refine zMet.of cX3_type 5 (some .int) (by decide) rfl (Nat.le_of_ble_eq_true rfl) ?_
  intro p e s m args below meth c A ls C hl hI
  have hl : lv_has ls 5 [(0, .ref (ad 0)), (1, .long a1), (3, .int a3)] := hl
  have C : zC p s m args meth c cX3_type 5 (some .int) RX3 wsX3_type D (tM cy) zq A := C
  obtain ⟨hx, hb, hml, hown, hts, hret, hlk, hK, hX, hA⟩ := id C
  have hiX3 : ∀ w ∈ wsX30, w ∈ wsX3_type := by decide +kernel
  obtain ⟨Q, hQ⟩ : ∃ Q, Q = MQ below (zQ D (tM cy) (wM cy ad S') (some (.int r)) A) args s 0 0 A := ⟨_, rfl⟩
  rw [← hQ]
  have hb37 : ∀ (n : Nat), ∀ (v1 : Int64) (v4 : Int32) (S : MS) (H : Heap) (locs : List Loc) (ls : Array Slot), fX3_type_b37L n v1 v4 S = some (r, S') → zI D A s H locs (wM cy ad S) → lv_has ls 5 [(0, .ref (ad 0)), (1, .long v1), (4, .int v4)] → W p l e { frames := 1, cells := 0, slots := 0, locals := 22 } s m args below meth c H locs 0 0 Q (F0 m 37 ls []) := by
    intro n
    induction n with
    | zero => intro v1 v4 S H locs ls hf; cases (show (none : Option (Int32 × MS)) = some (r, S') from hf)
    | succ n ih =>
      intro v1 v4 S H locs ls hf hI hl
      have hf : fX3_type_b37 (fX3_type_b37L n) v1 v4 S = some (r, S') := hf
      unfold fX3_type_b37 at hf
      refine lv_iload hx hb dX3_type_37 (lv_at hl 2 rfl) ?_
      refine lv_if_lt (tgt := 79) hx hb dX3_type_39 (by decide) (fun c_39 => ?_) (fun c_39 => ?_)
      · replace hf := zIt c_39 hf
        refine lv_aload_n hx hb dX3_type_79 rfl (lv_at hl 0 rfl) ?_
        refine va_get (D := D) (ci := 3) (v := .int (m_typed S)) (C := RX3) (T := TX3) (N := 27) hx hb hts hiX3 hown hK hI.1 0 rfl rfl 4 (by decide) (hts (.fieldLink RX3 75 "NoughtSumsModel" "typed" "I") (by decide +kernel)) (fun _ h9 => h9) rfl dX3_type_80 ?_
        obtain ⟨h1, h2⟩ := zP2 hf
        rw [hQ]
        exact z_iret C (by rw [h2]; exact hI) (by rw [h1]) dX3_type_83
      · replace hf := zIf c_39 hf
        refine lv_aload_n hx hb dX3_type_42 rfl (lv_at hl 0 rfl) ?_
        refine va_get (D := D) (ci := 3) (v := .ref (ad 2)) (C := RX3) (T := TX3) (N := 27) hx hb hts hiX3 hown hK hI.1 0 rfl rfl 3 (by decide) (hts (.fieldLink RX3 13 "NoughtSumsModel" "text" "[I") (by decide +kernel)) (fun _ h9 => h9) rfl dX3_type_43 ?_
        refine lv_aload_n hx hb dX3_type_46 rfl (lv_at hl 0 rfl) ?_
        refine va_get (D := D) (ci := 3) (v := .int (m_typed S)) (C := RX3) (T := TX3) (N := 27) hx hb hts hiX3 hown hK hI.1 0 rfl rfl 4 (by decide) (hts (.fieldLink RX3 75 "NoughtSumsModel" "typed" "I") (by decide +kernel)) (fun _ h9 => h9) rfl dX3_type_47 ?_
        refine lv_lload_n hx hb dX3_type_50 rfl (lv_at hl 1 rfl) ?_
        refine lv_bipush (v := 8) hx hb dX3_type_51 (by decide) ?_
        refine lv_iload hx hb dX3_type_53 (lv_at hl 2 rfl) ?_
        refine lv_imul hx hb dX3_type_55 ?_
        refine lv_lshr hx hb dX3_type_56 rfl ?_
        refine lv_ldc2 hx hb hown (hts (.constantLong RX3 78 (255)) (by decide +kernel)) dX3_type_57 ?_
        refine lv_land hx hb dX3_type_60 ?_
        refine lv_l2i hx hb dX3_type_61 rfl ?_
        obtain ⟨g_62, hf⟩ := zGI_s hf
        refine z_iast (f := (m_text S)) (w2 := (wM cy ad (m_text_u S (upd (m_text S) (m_typed S).toNatClampNeg ((((v1 >>> (((8 : Int32) * v4).toInt64 &&& 63)) &&& (255 : Int64))).toInt32))))) hx hb hK hI 2 1 rfl rfl g_62 dX3_type_62 rfl (fun H locs hI => ?_)
        refine lv_aload_n hx hb dX3_type_63 rfl (lv_at hl 0 rfl) ?_
        refine lv_dup hx hb dX3_type_64 rfl ?_
        refine va_get (D := D) (ci := 3) (v := .int (m_typed S)) (C := RX3) (T := TX3) (N := 27) hx hb hts hiX3 hown hK hI.1 0 rfl rfl 4 (by decide) (hts (.fieldLink RX3 75 "NoughtSumsModel" "typed" "I") (by decide +kernel)) (fun _ h9 => h9) rfl dX3_type_65 ?_
        refine lv_iconst (v := 1) hx hb dX3_type_68 (by decide) ?_
        refine lv_iadd hx hb dX3_type_69 ?_
        refine z_put (D := D) (ci := 3) (v := .int ((m_typed S) + (1 : Int32))) (ty := .int) (C := RX3) (T := TX3) (N := 27) (w2 := (wM cy ad (m_typed_u (m_text_u S (upd (m_text S) (m_typed S).toNatClampNeg ((((v1 >>> (((8 : Int32) * v4).toInt64 &&& 63)) &&& (255 : Int64))).toInt32))) ((m_typed S) + (1 : Int32))))) hx hb hts hiX3 tyX3 tyX3_ok nmX3 hown hK hI 0 rfl rfl 4 (by decide) (hts (.fieldLink RX3 75 "NoughtSumsModel" "typed" "I") (by decide +kernel)) (fun _ h9 => h9) rfl (by decide +kernel) rfl rfl (Nat.le_of_ble_eq_true rfl) dX3_type_70 rfl (fun H locs hI => ?_)
        refine lv_iinc (v := (v4 + (-1 : Int32))) (lv' := [(4, .int (v4 + (-1 : Int32))), (0, .ref (ad 0)), (1, .long v1)]) hx hb dX3_type_73 hl (k := 2) rfl rfl (by decide) rfl (fun ls hl => ?_)
        refine lv_goto (tgt := 37) hx hb dX3_type_76 (by decide) ?_
        exact ih v1 (v4 + (-1 : Int32)) (m_typed_u (m_text_u S (upd (m_text S) (m_typed S).toNatClampNeg ((((v1 >>> (((8 : Int32) * v4).toInt64 &&& 63)) &&& (255 : Int64))).toInt32))) ((m_typed S) + (1 : Int32))) _ _ _ hf hI (lv_sub hl [1, 2, 0] rfl)
  unfold fX3_type at hf
  refine lv_aload_n hx hb dX3_type_0 rfl (lv_at hl 0 rfl) ?_
  refine lv_iconst (v := 0) hx hb dX3_type_1 (by decide) ?_
  refine z_put (D := D) (ci := 3) (v := .int (0 : Int32)) (ty := .int) (C := RX3) (T := TX3) (N := 27) (w2 := (wM cy ad (m_thrown_u S (0 : Int32)))) hx hb hts hiX3 tyX3 tyX3_ok nmX3 hown hK hI 0 rfl rfl 0 (by decide) (hts (.fieldLink RX3 56 "NoughtSumsModel" "thrown" "I") (by decide +kernel)) (fun _ h9 => h9) rfl (by decide +kernel) rfl rfl (Nat.le_of_ble_eq_true rfl) dX3_type_2 rfl (fun H locs hI => ?_)
  refine lv_iload_n hx hb dX3_type_5 rfl (lv_at hl 2 rfl) ?_
  refine lv_iconst (v := 1) hx hb dX3_type_6 (by decide) ?_
  refine lv_bipush (v := 8) hx hb dX3_type_7 (by decide) ?_
  obtain ⟨r_9, hf_9, hf⟩ := zB1_s hf
  refine z_callS C 3 (kX3_in l zq D a3 (1 : Int32) (8 : Int32) r_9 hf_9) gX3_type_X3_in rfl (by decide +kernel) ⟨by decide, by decide⟩ hI rfl hl.1 rfl (Nat.le_of_ble_eq_true rfl) dX3_type_9 ⟨by decide, by decide⟩ (st2 := [.int r_9]) rfl (fun H locs hI => ?_)
  refine lv_if_ne (tgt := 17) hx hb dX3_type_12 (by decide) (fun c_12 => ?_) (fun c_12 => ?_)
  · replace hf := zIf c_12 hf
    refine lv_aload_n hx hb dX3_type_17 rfl (lv_at hl 0 rfl) ?_
    refine va_get (D := D) (ci := 3) (v := .int (m_typed S)) (C := RX3) (T := TX3) (N := 27) hx hb hts hiX3 hown hK hI.1 0 rfl rfl 4 (by decide) (hts (.fieldLink RX3 75 "NoughtSumsModel" "typed" "I") (by decide +kernel)) (fun _ h9 => h9) rfl dX3_type_18 ?_
    refine lv_iload_n hx hb dX3_type_21 rfl (lv_at hl 2 rfl) ?_
    refine lv_iadd hx hb dX3_type_22 ?_
    refine lv_sipush (v := 400) hx hb dX3_type_23 (by decide) ?_
    refine lv_icmp_le (tgt := 32) hx hb dX3_type_26 (by decide) (fun c_26 => ?_) (fun c_26 => ?_)
    · replace hf := zIt c_26 hf
      refine lv_iload_n hx hb dX3_type_32 rfl (lv_at hl 2 rfl) ?_
      refine lv_iconst (v := 1) hx hb dX3_type_33 (by decide) ?_
      refine lv_isub hx hb dX3_type_34 ?_
      refine lv_istore (lv' := [(4, .int (a3 - (1 : Int32))), (0, .ref (ad 0)), (1, .long a1), (3, .int a3)]) hx hb dX3_type_35 hl (by decide) rfl (fun ls hl => ?_)
      exact hb37 zF a1 (a3 - (1 : Int32)) (m_thrown_u S (0 : Int32)) _ _ _ hf hI (lv_sub hl [1, 2, 0] rfl)
    · replace hf := zIf c_26 hf
      refine lv_bipush (v := -3) hx hb dX3_type_29 (by decide) ?_
      obtain ⟨h1, h2⟩ := zP2 hf
      rw [hQ]
      exact z_iret C (by rw [h2]; exact hI) (by rw [h1]) dX3_type_31
  · replace hf := zIt c_12 hf
    refine lv_iconst (v := -1) hx hb dX3_type_15 (by decide) ?_
    obtain ⟨h1, h2⟩ := zP2 hf
    rw [hQ]
    exact z_iret C (by rw [h2]; exact hI) (by rw [h1]) dX3_type_16

def fX3_clear  (S : MS) : Option (Int32 × MS) :=
some ((m_typed S), (m_typed_u (m_thrown_u S (0 : Int32)) (0 : Int32)))
set_option maxHeartbeats 4000000 in
set_option maxRecDepth 100000 in
theorem kX3_clear (l : Launch) (zq : Nat → Nat) (D : va_G) (cy : Nat → ClassId) (ad : Nat → Nat)  (S S' : MS) (r : Int32) (hf : fX3_clear S = some (r, S')) : zMet l yX3_clear wsX3_clear 0 0 zq D (tM cy) (wM cy ad S) [.ref (ad 0)] (some (.int r)) (wM cy ad S') := by
  refine zMet.of cX3_clear 2 (some .int) (by decide) rfl (Nat.le_of_ble_eq_true rfl) ?_
  intro p e s m args below meth c A ls C hl hI
  have hl : lv_has ls 2 [(0, .ref (ad 0))] := hl
  have C : zC p s m args meth c cX3_clear 2 (some .int) RX3 wsX3_clear D (tM cy) zq A := C
  obtain ⟨hx, hb, hml, hown, hts, hret, hlk, hK, hX, hA⟩ := id C
  have hiX3 : ∀ w ∈ wsX30, w ∈ wsX3_clear := by decide +kernel
  obtain ⟨Q, hQ⟩ : ∃ Q, Q = MQ below (zQ D (tM cy) (wM cy ad S') (some (.int r)) A) args s 0 0 A := ⟨_, rfl⟩
  rw [← hQ]
  unfold fX3_clear at hf
  refine lv_aload_n hx hb dX3_clear_0 rfl (lv_at hl 0 rfl) ?_
  refine lv_iconst (v := 0) hx hb dX3_clear_1 (by decide) ?_
  refine z_put (D := D) (ci := 3) (v := .int (0 : Int32)) (ty := .int) (C := RX3) (T := TX3) (N := 27) (w2 := (wM cy ad (m_thrown_u S (0 : Int32)))) hx hb hts hiX3 tyX3 tyX3_ok nmX3 hown hK hI 0 rfl rfl 0 (by decide) (hts (.fieldLink RX3 56 "NoughtSumsModel" "thrown" "I") (by decide +kernel)) (fun _ h9 => h9) rfl (by decide +kernel) rfl rfl (Nat.le_of_ble_eq_true rfl) dX3_clear_2 rfl (fun H locs hI => ?_)
  refine lv_aload_n hx hb dX3_clear_5 rfl (lv_at hl 0 rfl) ?_
  refine va_get (D := D) (ci := 3) (v := .int (m_typed S)) (C := RX3) (T := TX3) (N := 27) hx hb hts hiX3 hown hK hI.1 0 rfl rfl 4 (by decide) (hts (.fieldLink RX3 75 "NoughtSumsModel" "typed" "I") (by decide +kernel)) (fun _ h9 => h9) rfl dX3_clear_6 ?_
  refine lv_istore_n (lv' := [(1, .int (m_typed S)), (0, .ref (ad 0))]) hx hb dX3_clear_9 rfl hl (by decide) rfl (fun ls hl => ?_)
  refine lv_aload_n hx hb dX3_clear_10 rfl (lv_at hl 1 rfl) ?_
  refine lv_iconst (v := 0) hx hb dX3_clear_11 (by decide) ?_
  refine z_put (D := D) (ci := 3) (v := .int (0 : Int32)) (ty := .int) (C := RX3) (T := TX3) (N := 27) (w2 := (wM cy ad (m_typed_u (m_thrown_u S (0 : Int32)) (0 : Int32)))) hx hb hts hiX3 tyX3 tyX3_ok nmX3 hown hK hI 0 rfl rfl 4 (by decide) (hts (.fieldLink RX3 75 "NoughtSumsModel" "typed" "I") (by decide +kernel)) (fun _ h9 => h9) rfl (by decide +kernel) rfl rfl (Nat.le_of_ble_eq_true rfl) dX3_clear_12 rfl (fun H locs hI => ?_)
  refine lv_iload_n hx hb dX3_clear_15 rfl (lv_at hl 0 rfl) ?_
  obtain ⟨h1, h2⟩ := zP2 hf
  rw [hQ]
  exact z_iret C (by rw [h2]; exact hI) (by rw [h1]) dX3_clear_16

def fX3_byteAt (a1 : Int32) (S : MS) : Option (Int32 × MS) :=
(if (m_typed S) ≤ a1 then some ((-1 : Int32), S) else
(zGI a1 400
(some (((m_text S) a1.toNatClampNeg), S))))
set_option maxHeartbeats 4000000 in
set_option maxRecDepth 100000 in
theorem kX3_byteAt (l : Launch) (zq : Nat → Nat) (D : va_G) (cy : Nat → ClassId) (ad : Nat → Nat) (a1 : Int32) (S S' : MS) (r : Int32) (hf : fX3_byteAt a1 S = some (r, S')) : zMet l yX3_byteAt wsX3_byteAt 0 0 zq D (tM cy) (wM cy ad S) [.ref (ad 0), .int a1] (some (.int r)) (wM cy ad S') := by
  refine zMet.of cX3_byteAt 2 (some .int) (by decide) rfl (Nat.le_of_ble_eq_true rfl) ?_
  intro p e s m args below meth c A ls C hl hI
  have hl : lv_has ls 2 [(0, .ref (ad 0)), (1, .int a1)] := hl
  have C : zC p s m args meth c cX3_byteAt 2 (some .int) RX3 wsX3_byteAt D (tM cy) zq A := C
  obtain ⟨hx, hb, hml, hown, hts, hret, hlk, hK, hX, hA⟩ := id C
  have hiX3 : ∀ w ∈ wsX30, w ∈ wsX3_byteAt := by decide +kernel
  obtain ⟨Q, hQ⟩ : ∃ Q, Q = MQ below (zQ D (tM cy) (wM cy ad S') (some (.int r)) A) args s 0 0 A := ⟨_, rfl⟩
  rw [← hQ]
  unfold fX3_byteAt at hf
  refine lv_iload_n hx hb dX3_byteAt_0 rfl (lv_at hl 1 rfl) ?_
  refine lv_aload_n hx hb dX3_byteAt_1 rfl (lv_at hl 0 rfl) ?_
  refine va_get (D := D) (ci := 3) (v := .int (m_typed S)) (C := RX3) (T := TX3) (N := 27) hx hb hts hiX3 hown hK hI.1 0 rfl rfl 4 (by decide) (hts (.fieldLink RX3 75 "NoughtSumsModel" "typed" "I") (by decide +kernel)) (fun _ h9 => h9) rfl dX3_byteAt_2 ?_
  refine lv_icmp_ge (tgt := 17) hx hb dX3_byteAt_5 (by decide) (fun c_5 => ?_) (fun c_5 => ?_)
  · replace hf := zIt c_5 hf
    refine lv_iconst (v := -1) hx hb dX3_byteAt_17 (by decide) ?_
    obtain ⟨h1, h2⟩ := zP2 hf
    rw [hQ]
    exact z_iret C (by rw [h2]; exact hI) (by rw [h1]) dX3_byteAt_18
  · replace hf := zIf c_5 hf
    refine lv_aload_n hx hb dX3_byteAt_8 rfl (lv_at hl 0 rfl) ?_
    refine va_get (D := D) (ci := 3) (v := .ref (ad 2)) (C := RX3) (T := TX3) (N := 27) hx hb hts hiX3 hown hK hI.1 0 rfl rfl 3 (by decide) (hts (.fieldLink RX3 13 "NoughtSumsModel" "text" "[I") (by decide +kernel)) (fun _ h9 => h9) rfl dX3_byteAt_9 ?_
    refine lv_iload_n hx hb dX3_byteAt_12 rfl (lv_at hl 1 rfl) ?_
    obtain ⟨g_13, hf⟩ := zGI_s hf
    refine va_iald (f := (m_text S)) hx hb hK hI.1 2 1 rfl rfl g_13 dX3_byteAt_13 ?_
    refine lv_goto (tgt := 18) hx hb dX3_byteAt_14 (by decide) ?_
    obtain ⟨h1, h2⟩ := zP2 hf
    rw [hQ]
    exact z_iret C (by rw [h2]; exact hI) (by rw [h1]) dX3_byteAt_18

def fX3_add (a0 : Int64) (a2 : Int32) : Option Int64 :=
(if a2 = 0 then some a0 else
some (((256 : Int64) * a0) + ((a2).toInt64)))
set_option maxHeartbeats 4000000 in
set_option maxRecDepth 100000 in
theorem kX3_add (l : Launch) (zq : Nat → Nat) (D : va_G) (a0 : Int64) (a2 : Int32) (r : Int64) (hf : fX3_add a0 a2 = some r) : zMet l yX3_add wsX3_add 0 0 zq D [] [] [.long a0, .int a2] (some (.long r)) [] := by
  refine zMet.of cX3_add 3 (some .long) (by decide) rfl (Nat.le_of_ble_eq_true rfl) ?_
  intro p e s m args below meth c A ls C hl hI
  have hl : lv_has ls 3 [(0, .long a0), (2, .int a2)] := hl
  have C : zC p s m args meth c cX3_add 3 (some .long) RX3 wsX3_add D [] zq A := C
  obtain ⟨hx, hb, hml, hown, hts, hret, hlk, hK, hX, hA⟩ := id C
  obtain ⟨Q, hQ⟩ : ∃ Q, Q = MQ below (zQ D [] [] (some (.long r)) A) args s 0 0 A := ⟨_, rfl⟩
  rw [← hQ]
  unfold fX3_add at hf
  refine lv_iload_n hx hb dX3_add_0 rfl (lv_at hl 1 rfl) ?_
  refine lv_if_ne (tgt := 8) hx hb dX3_add_1 (by decide) (fun c_1 => ?_) (fun c_1 => ?_)
  · replace hf := zIf c_1 hf
    refine lv_ldc2 hx hb hown (hts (.constantLong RX3 80 (256)) (by decide +kernel)) dX3_add_8 ?_
    refine lv_lload_n hx hb dX3_add_11 rfl (lv_at hl 0 rfl) ?_
    refine lv_lmul hx hb dX3_add_12 ?_
    refine lv_iload_n hx hb dX3_add_13 rfl (lv_at hl 1 rfl) ?_
    refine lv_i2l hx hb dX3_add_14 rfl ?_
    refine lv_ladd hx hb dX3_add_15 ?_
    have h1 := zP1 hf
    rw [hQ]
    exact z_lret C hI (by rw [h1]) dX3_add_16
  · replace hf := zIt c_1 hf
    refine lv_lload_n hx hb dX3_add_4 rfl (lv_at hl 0 rfl) ?_
    refine lv_goto (tgt := 16) hx hb dX3_add_5 (by decide) ?_
    have h1 := zP1 hf
    rw [hQ]
    exact z_lret C hI (by rw [h1]) dX3_add_16

def fX3_word (a0 : Int32) (a1 : Int32) (a2 : Int32) (a3 : Int32) (a4 : Int32) : Option Int64 :=
(zB1 (fX3_add (0 : Int64) a0) (fun r_2 =>
(zB1 (fX3_add r_2 a1) (fun r_6 =>
(zB1 (fX3_add r_6 a2) (fun r_10 =>
(zB1 (fX3_add r_10 a3) (fun r_14 =>
(zB1 (fX3_add r_14 a4) (fun r_19 =>
some r_19))))))))))
set_option maxHeartbeats 4000000 in
set_option maxRecDepth 100000 in
theorem kX3_word (l : Launch) (zq : Nat → Nat) (D : va_G) (a0 : Int32) (a1 : Int32) (a2 : Int32) (a3 : Int32) (a4 : Int32) (r : Int64) (hf : fX3_word a0 a1 a2 a3 a4 = some r) : zMet l yX3_word wsX3_word 1 22 zq D [] [] [.int a0, .int a1, .int a2, .int a3, .int a4] (some (.long r)) [] := by
  refine zMet.of cX3_word 5 (some .long) (by decide) rfl (Nat.le_of_ble_eq_true rfl) ?_
  intro p e s m args below meth c A ls C hl hI
  have hl : lv_has ls 5 [(0, .int a0), (1, .int a1), (2, .int a2), (3, .int a3), (4, .int a4)] := hl
  have C : zC p s m args meth c cX3_word 5 (some .long) RX3 wsX3_word D [] zq A := C
  obtain ⟨hx, hb, hml, hown, hts, hret, hlk, hK, hX, hA⟩ := id C
  obtain ⟨Q, hQ⟩ : ∃ Q, Q = MQ below (zQ D [] [] (some (.long r)) A) args s 0 0 A := ⟨_, rfl⟩
  rw [← hQ]
  unfold fX3_word at hf
  refine lv_lconst (v := 0) hx hb dX3_word_0 (by decide) ?_
  refine lv_iload_n hx hb dX3_word_1 rfl (lv_at hl 0 rfl) ?_
  obtain ⟨r_2, hf_2, hf⟩ := zB1_s hf
  refine z_callS C 2 (kX3_add l zq D (0 : Int64) a0 r_2 hf_2) gX3_word_X3_add rfl (by decide +kernel) ⟨by decide, by decide⟩ hI rfl hl.1 rfl (Nat.le_of_ble_eq_true rfl) dX3_word_2 ⟨by decide, by decide⟩ (st2 := [.long r_2]) rfl (fun H locs hI => ?_)
  refine lv_iload_n hx hb dX3_word_5 rfl (lv_at hl 1 rfl) ?_
  obtain ⟨r_6, hf_6, hf⟩ := zB1_s hf
  refine z_callS C 2 (kX3_add l zq D r_2 a1 r_6 hf_6) gX3_word_X3_add rfl (by decide +kernel) ⟨by decide, by decide⟩ hI rfl hl.1 rfl (Nat.le_of_ble_eq_true rfl) dX3_word_6 ⟨by decide, by decide⟩ (st2 := [.long r_6]) rfl (fun H locs hI => ?_)
  refine lv_iload_n hx hb dX3_word_9 rfl (lv_at hl 2 rfl) ?_
  obtain ⟨r_10, hf_10, hf⟩ := zB1_s hf
  refine z_callS C 2 (kX3_add l zq D r_6 a2 r_10 hf_10) gX3_word_X3_add rfl (by decide +kernel) ⟨by decide, by decide⟩ hI rfl hl.1 rfl (Nat.le_of_ble_eq_true rfl) dX3_word_10 ⟨by decide, by decide⟩ (st2 := [.long r_10]) rfl (fun H locs hI => ?_)
  refine lv_iload_n hx hb dX3_word_13 rfl (lv_at hl 3 rfl) ?_
  obtain ⟨r_14, hf_14, hf⟩ := zB1_s hf
  refine z_callS C 2 (kX3_add l zq D r_10 a3 r_14 hf_14) gX3_word_X3_add rfl (by decide +kernel) ⟨by decide, by decide⟩ hI rfl hl.1 rfl (Nat.le_of_ble_eq_true rfl) dX3_word_14 ⟨by decide, by decide⟩ (st2 := [.long r_14]) rfl (fun H locs hI => ?_)
  refine lv_iload hx hb dX3_word_17 (lv_at hl 4 rfl) ?_
  obtain ⟨r_19, hf_19, hf⟩ := zB1_s hf
  refine z_callS C 2 (kX3_add l zq D r_14 a4 r_19 hf_19) gX3_word_X3_add rfl (by decide +kernel) ⟨by decide, by decide⟩ hI rfl hl.1 rfl (Nat.le_of_ble_eq_true rfl) dX3_word_19 ⟨by decide, by decide⟩ (st2 := [.long r_19]) rfl (fun H locs hI => ?_)
  have h1 := zP1 hf
  rw [hQ]
  exact z_lret C hI (by rw [h1]) dX3_word_22

def fX3_words_b211 (u0 : Int32) (S : MS) : Option MS :=
(if u0 = (-9 : Int32) then some (m_token_u (m_value_u S u0) (6 : Int32)) else
some (m_token_u (m_value_u S u0) (2 : Int32)))

def fX3_words_b99 (k11 : Int32 → Int64 → Int32 → Int32 → Int32 → MS → Option MS) (v1 : Int32) (v2 : Int64) (v5 : Int32) (v6 : Int32) (u0 : Int32) (u1 : Int32) (S : MS) : Option MS :=
k11 v1 v2 (u1 ||| u0) v5 (v6 + (1 : Int32)) S

def fX3_words_b79 (k11 : Int32 → Int64 → Int32 → Int32 → Int32 → MS → Option MS) (v1 : Int32) (v2 : Int64) (v4 : Int32) (v6 : Int32) (v7 : Int32) (u0 : Int32) (S : MS) : Option MS :=
(if u0 = 0 then fX3_words_b99 k11 v1 v2 u0 v6 (0 : Int32) v4 S else
fX3_words_b99 k11 v1 v2 u0 v6 ((1 : Int32) <<< ((v7 - (97 : Int32)) &&& 31)) v4 S)

def fX3_words_b78 (k11 : Int32 → Int64 → Int32 → Int32 → Int32 → MS → Option MS) (v1 : Int32) (v2 : Int64) (v4 : Int32) (v6 : Int32) (v7 : Int32) (S : MS) : Option MS :=
fX3_words_b79 k11 v1 v2 v4 v6 v7 (0 : Int32) S

def fX3_words_b48 (k11 : Int32 → Int64 → Int32 → Int32 → Int32 → MS → Option MS) (v1 : Int32) (v4 : Int32) (v5 : Int32) (v6 : Int32) (v7 : Int32) (u0 : Int64) (S : MS) : Option MS :=
(if v5 = 0 then fX3_words_b78 k11 v1 u0 v4 v6 v7 S else
(if (102 : Int32) < v7 then fX3_words_b78 k11 v1 u0 v4 v6 v7 S else
(if ((v4 >>> ((v7 - (97 : Int32)) &&& 31)) &&& (1 : Int32)) = 0 then fX3_words_b79 k11 v1 u0 v4 v6 v7 (1 : Int32) S else
fX3_words_b78 k11 v1 u0 v4 v6 v7 S)))

def fX3_words_b11 (k11 : Int32 → Int64 → Int32 → Int32 → Int32 → MS → Option MS) (v1 : Int32) (v2 : Int64) (v4 : Int32) (v5 : Int32) (v6 : Int32) (S : MS) : Option MS :=
(if v1 ≤ v6 then (if v5 = 0 then (zB1 (fX3_word (97 : Int32) (100 : Int32) (100 : Int32) (0 : Int32) (0 : Int32)) (fun r_135 =>
(if (lg_cmp v2 r_135) = 0 then fX3_words_b211 (0 : Int32) S else
(zB1 (fX3_word (98 : Int32) (121 : Int32) (0 : Int32) (0 : Int32) (0 : Int32)) (fun r_154 =>
(if (lg_cmp v2 r_154) = 0 then fX3_words_b211 (1 : Int32) S else
(zB1 (fX3_word (116 : Int32) (105 : Int32) (109 : Int32) (101 : Int32) (115 : Int32)) (fun r_176 =>
(if (lg_cmp v2 r_176) = 0 then fX3_words_b211 (2 : Int32) S else
(zB1 (fX3_word (99 : Int32) (108 : Int32) (97 : Int32) (105 : Int32) (109 : Int32)) (fun r_198 =>
(if (lg_cmp v2 r_198) = 0 then fX3_words_b211 (3 : Int32) S else
fX3_words_b211 (-9 : Int32) S)))))))))))) else
some (m_value_u (m_token_u S (1 : Int32)) v4)) else
(zGI ((m_place S) + v6) 400
((zL ((m_text S) ((m_place S) + v6).toNatClampNeg) (fun n_29 =>
(if (6 : Int32) ≤ v6 then fX3_words_b48 k11 v1 v4 v5 v6 n_29 v2 S else
(zB1 (fX3_add v2 n_29) (fun r_41 =>
fX3_words_b48 k11 v1 v4 v5 v6 n_29 r_41 S))))))))
def fX3_words_b11L : Nat → Int32 → Int64 → Int32 → Int32 → Int32 → MS → Option MS
  | 0, _, _, _, _, _, _ => none
  | n + 1, v1, v2, v4, v5, v6, S => fX3_words_b11 (fX3_words_b11L n) v1 v2 v4 v5 v6 S

def fX3_words (a1 : Int32) (S : MS) : Option MS :=
fX3_words_b11L zF a1 (0 : Int64) (0 : Int32) (1 : Int32) (0 : Int32) S
set_option maxHeartbeats 4000000 in
set_option maxRecDepth 100000 in
theorem kX3_words (l : Launch) (zq : Nat → Nat) (D : va_G) (cy : Nat → ClassId) (ad : Nat → Nat) (a1 : Int32) (S S' : MS) (hf : fX3_words a1 S = some S') : zMet l yX3_words wsX3_words 2 46 zq D (tM cy) (wM cy ad S) [.ref (ad 0), .int a1] none (wM cy ad S') := by
  refine zMet.of cX3_words 8 none (by decide) rfl (Nat.le_of_ble_eq_true rfl) ?_
  intro p e s m args below meth c A ls C hl hI
  have hl : lv_has ls 8 [(0, .ref (ad 0)), (1, .int a1)] := hl
  have C : zC p s m args meth c cX3_words 8 none RX3 wsX3_words D (tM cy) zq A := C
  obtain ⟨hx, hb, hml, hown, hts, hret, hlk, hK, hX, hA⟩ := id C
  have hiX3 : ∀ w ∈ wsX30, w ∈ wsX3_words := by decide +kernel
  obtain ⟨Q, hQ⟩ : ∃ Q, Q = MQ below (zQ D (tM cy) (wM cy ad S') none A) args s 0 0 A := ⟨_, rfl⟩
  rw [← hQ]
  have hb211 : ∀ (u0 : Int32) (S : MS) (H : Heap) (locs : List Loc) (ls : Array Slot), fX3_words_b211 u0 S = some S' → zI D A s H locs (wM cy ad S) → lv_has ls 8 [(0, .ref (ad 0))] → W p l e { frames := 2, cells := 0, slots := 0, locals := 46 } s m args below meth c H locs 0 0 Q (F0 m 211 ls [.int u0, .ref (ad 0)]) := by
    intro u0 S H locs ls hf hI hl
    unfold fX3_words_b211 at hf
    refine z_put (D := D) (ci := 3) (v := .int u0) (ty := .int) (C := RX3) (T := TX3) (N := 27) (w2 := (wM cy ad (m_value_u S u0))) hx hb hts hiX3 tyX3 tyX3_ok nmX3 hown hK hI 0 rfl rfl 8 (by decide) (hts (.fieldLink RX3 91 "NoughtSumsModel" "value" "I") (by decide +kernel)) (fun _ h9 => h9) rfl (by decide +kernel) rfl rfl (Nat.le_of_ble_eq_true rfl) dX3_words_211 rfl (fun H locs hI => ?_)
    refine lv_aload_n hx hb dX3_words_214 rfl (lv_at hl 0 rfl) ?_
    refine lv_aload_n hx hb dX3_words_215 rfl (lv_at hl 0 rfl) ?_
    refine va_get (D := D) (ci := 3) (v := .int u0) (C := RX3) (T := TX3) (N := 27) hx hb hts hiX3 hown hK hI.1 0 rfl rfl 8 (by decide) (hts (.fieldLink RX3 91 "NoughtSumsModel" "value" "I") (by decide +kernel)) (fun _ h9 => h9) rfl dX3_words_216 ?_
    refine lv_bipush (v := -9) hx hb dX3_words_219 (by decide) ?_
    refine lv_icmp_ne (tgt := 229) hx hb dX3_words_221 (by decide) (fun c_221 => ?_) (fun c_221 => ?_)
    · replace hf := zIf c_221 hf
      refine lv_iconst (v := 2) hx hb dX3_words_229 (by decide) ?_
      refine z_put (D := D) (ci := 3) (v := .int (2 : Int32)) (ty := .int) (C := RX3) (T := TX3) (N := 27) (w2 := (wM cy ad (m_token_u (m_value_u S u0) (2 : Int32)))) hx hb hts hiX3 tyX3 tyX3_ok nmX3 hown hK hI 0 rfl rfl 6 (by decide) (hts (.fieldLink RX3 88 "NoughtSumsModel" "token" "I") (by decide +kernel)) (fun _ h9 => h9) rfl (by decide +kernel) rfl rfl (Nat.le_of_ble_eq_true rfl) dX3_words_230 rfl (fun H locs hI => ?_)
      have h2 := zP1 hf
      rw [hQ]
      exact z_vret C (by rw [h2]; exact hI) rfl dX3_words_233
    · replace hf := zIt c_221 hf
      refine lv_bipush (v := 6) hx hb dX3_words_224 (by decide) ?_
      refine lv_goto (tgt := 230) hx hb dX3_words_226 (by decide) ?_
      refine z_put (D := D) (ci := 3) (v := .int (6 : Int32)) (ty := .int) (C := RX3) (T := TX3) (N := 27) (w2 := (wM cy ad (m_token_u (m_value_u S u0) (6 : Int32)))) hx hb hts hiX3 tyX3 tyX3_ok nmX3 hown hK hI 0 rfl rfl 6 (by decide) (hts (.fieldLink RX3 88 "NoughtSumsModel" "token" "I") (by decide +kernel)) (fun _ h9 => h9) rfl (by decide +kernel) rfl rfl (Nat.le_of_ble_eq_true rfl) dX3_words_230 rfl (fun H locs hI => ?_)
      have h2 := zP1 hf
      rw [hQ]
      exact z_vret C (by rw [h2]; exact hI) rfl dX3_words_233
  have hb99 : ∀ (k11 : Int32 → Int64 → Int32 → Int32 → Int32 → MS → Option MS) (hk11 : ∀ (v1 : Int32) (v2 : Int64) (v4 : Int32) (v5 : Int32) (v6 : Int32) (S : MS) (H : Heap) (locs : List Loc) (ls : Array Slot), k11 v1 v2 v4 v5 v6 S = some S' → zI D A s H locs (wM cy ad S) → lv_has ls 8 [(0, .ref (ad 0)), (1, .int v1), (2, .long v2), (4, .int v4), (5, .int v5), (6, .int v6)] → W p l e { frames := 2, cells := 0, slots := 0, locals := 46 } s m args below meth c H locs 0 0 Q (F0 m 11 ls [])), ∀ (v1 : Int32) (v2 : Int64) (v5 : Int32) (v6 : Int32) (u0 : Int32) (u1 : Int32) (S : MS) (H : Heap) (locs : List Loc) (ls : Array Slot), fX3_words_b99 k11 v1 v2 v5 v6 u0 u1 S = some S' → zI D A s H locs (wM cy ad S) → lv_has ls 8 [(0, .ref (ad 0)), (1, .int v1), (2, .long v2), (5, .int v5), (6, .int v6)] → W p l e { frames := 2, cells := 0, slots := 0, locals := 46 } s m args below meth c H locs 0 0 Q (F0 m 99 ls [.int u0, .int u1]) := by
    intro k11 hk11 v1 v2 v5 v6 u0 u1 S H locs ls hf hI hl
    unfold fX3_words_b99 at hf
    refine lv_ior hx hb dX3_words_99 ?_
    refine lv_istore (lv' := [(4, .int (u1 ||| u0)), (0, .ref (ad 0)), (1, .int v1), (2, .long v2), (5, .int v5), (6, .int v6)]) hx hb dX3_words_100 hl (by decide) rfl (fun ls hl => ?_)
    refine lv_iinc (v := (v6 + (1 : Int32))) (lv' := [(6, .int (v6 + (1 : Int32))), (4, .int (u1 ||| u0)), (0, .ref (ad 0)), (1, .int v1), (2, .long v2), (5, .int v5)]) hx hb dX3_words_102 hl (k := 5) rfl rfl (by decide) rfl (fun ls hl => ?_)
    refine lv_goto (tgt := 11) hx hb dX3_words_105 (by decide) ?_
    exact hk11 v1 v2 (u1 ||| u0) v5 (v6 + (1 : Int32)) S _ _ _ hf hI (lv_sub hl [2, 3, 4, 1, 5, 0] rfl)
  have hb79 : ∀ (k11 : Int32 → Int64 → Int32 → Int32 → Int32 → MS → Option MS) (hk11 : ∀ (v1 : Int32) (v2 : Int64) (v4 : Int32) (v5 : Int32) (v6 : Int32) (S : MS) (H : Heap) (locs : List Loc) (ls : Array Slot), k11 v1 v2 v4 v5 v6 S = some S' → zI D A s H locs (wM cy ad S) → lv_has ls 8 [(0, .ref (ad 0)), (1, .int v1), (2, .long v2), (4, .int v4), (5, .int v5), (6, .int v6)] → W p l e { frames := 2, cells := 0, slots := 0, locals := 46 } s m args below meth c H locs 0 0 Q (F0 m 11 ls [])), ∀ (v1 : Int32) (v2 : Int64) (v4 : Int32) (v6 : Int32) (v7 : Int32) (u0 : Int32) (S : MS) (H : Heap) (locs : List Loc) (ls : Array Slot), fX3_words_b79 k11 v1 v2 v4 v6 v7 u0 S = some S' → zI D A s H locs (wM cy ad S) → lv_has ls 8 [(0, .ref (ad 0)), (1, .int v1), (2, .long v2), (4, .int v4), (6, .int v6), (7, .int v7)] → W p l e { frames := 2, cells := 0, slots := 0, locals := 46 } s m args below meth c H locs 0 0 Q (F0 m 79 ls [.int u0]) := by
    intro k11 hk11 v1 v2 v4 v6 v7 u0 S H locs ls hf hI hl
    unfold fX3_words_b79 at hf
    refine lv_istore (lv' := [(5, .int u0), (0, .ref (ad 0)), (1, .int v1), (2, .long v2), (4, .int v4), (6, .int v6), (7, .int v7)]) hx hb dX3_words_79 hl (by decide) rfl (fun ls hl => ?_)
    refine lv_iload hx hb dX3_words_81 (lv_at hl 4 rfl) ?_
    refine lv_iload hx hb dX3_words_83 (lv_at hl 0 rfl) ?_
    refine lv_if_eq (tgt := 98) hx hb dX3_words_85 (by decide) (fun c_85 => ?_) (fun c_85 => ?_)
    · replace hf := zIt c_85 hf
      refine lv_iconst (v := 0) hx hb dX3_words_98 (by decide) ?_
      exact hb99 k11 hk11 v1 v2 u0 v6 (0 : Int32) v4 S _ _ _ hf hI (lv_sub hl [1, 2, 3, 0, 5] rfl)
    · replace hf := zIf c_85 hf
      refine lv_iconst (v := 1) hx hb dX3_words_88 (by decide) ?_
      refine lv_iload hx hb dX3_words_89 (lv_at hl 6 rfl) ?_
      refine lv_bipush (v := 97) hx hb dX3_words_91 (by decide) ?_
      refine lv_isub hx hb dX3_words_93 ?_
      refine lv_ishl hx hb dX3_words_94 ?_
      refine lv_goto (tgt := 99) hx hb dX3_words_95 (by decide) ?_
      exact hb99 k11 hk11 v1 v2 u0 v6 ((1 : Int32) <<< ((v7 - (97 : Int32)) &&& 31)) v4 S _ _ _ hf hI (lv_sub hl [1, 2, 3, 0, 5] rfl)
  have hb78 : ∀ (k11 : Int32 → Int64 → Int32 → Int32 → Int32 → MS → Option MS) (hk11 : ∀ (v1 : Int32) (v2 : Int64) (v4 : Int32) (v5 : Int32) (v6 : Int32) (S : MS) (H : Heap) (locs : List Loc) (ls : Array Slot), k11 v1 v2 v4 v5 v6 S = some S' → zI D A s H locs (wM cy ad S) → lv_has ls 8 [(0, .ref (ad 0)), (1, .int v1), (2, .long v2), (4, .int v4), (5, .int v5), (6, .int v6)] → W p l e { frames := 2, cells := 0, slots := 0, locals := 46 } s m args below meth c H locs 0 0 Q (F0 m 11 ls [])), ∀ (v1 : Int32) (v2 : Int64) (v4 : Int32) (v6 : Int32) (v7 : Int32) (S : MS) (H : Heap) (locs : List Loc) (ls : Array Slot), fX3_words_b78 k11 v1 v2 v4 v6 v7 S = some S' → zI D A s H locs (wM cy ad S) → lv_has ls 8 [(0, .ref (ad 0)), (1, .int v1), (2, .long v2), (4, .int v4), (6, .int v6), (7, .int v7)] → W p l e { frames := 2, cells := 0, slots := 0, locals := 46 } s m args below meth c H locs 0 0 Q (F0 m 78 ls []) := by
    intro k11 hk11 v1 v2 v4 v6 v7 S H locs ls hf hI hl
    unfold fX3_words_b78 at hf
    refine lv_iconst (v := 0) hx hb dX3_words_78 (by decide) ?_
    exact hb79 k11 hk11 v1 v2 v4 v6 v7 (0 : Int32) S _ _ _ hf hI (lv_sub hl [0, 1, 2, 3, 4, 5] rfl)
  have hb48 : ∀ (k11 : Int32 → Int64 → Int32 → Int32 → Int32 → MS → Option MS) (hk11 : ∀ (v1 : Int32) (v2 : Int64) (v4 : Int32) (v5 : Int32) (v6 : Int32) (S : MS) (H : Heap) (locs : List Loc) (ls : Array Slot), k11 v1 v2 v4 v5 v6 S = some S' → zI D A s H locs (wM cy ad S) → lv_has ls 8 [(0, .ref (ad 0)), (1, .int v1), (2, .long v2), (4, .int v4), (5, .int v5), (6, .int v6)] → W p l e { frames := 2, cells := 0, slots := 0, locals := 46 } s m args below meth c H locs 0 0 Q (F0 m 11 ls [])), ∀ (v1 : Int32) (v4 : Int32) (v5 : Int32) (v6 : Int32) (v7 : Int32) (u0 : Int64) (S : MS) (H : Heap) (locs : List Loc) (ls : Array Slot), fX3_words_b48 k11 v1 v4 v5 v6 v7 u0 S = some S' → zI D A s H locs (wM cy ad S) → lv_has ls 8 [(0, .ref (ad 0)), (1, .int v1), (4, .int v4), (5, .int v5), (6, .int v6), (7, .int v7)] → W p l e { frames := 2, cells := 0, slots := 0, locals := 46 } s m args below meth c H locs 0 0 Q (F0 m 48 ls [.long u0]) := by
    intro k11 hk11 v1 v4 v5 v6 v7 u0 S H locs ls hf hI hl
    unfold fX3_words_b48 at hf
    refine lv_lstore_n (lv' := [(2, .long u0), (0, .ref (ad 0)), (1, .int v1), (4, .int v4), (5, .int v5), (6, .int v6), (7, .int v7)]) hx hb dX3_words_48 rfl hl (by decide) rfl (fun ls hl => ?_)
    refine lv_iload hx hb dX3_words_49 (lv_at hl 4 rfl) ?_
    refine lv_if_eq (tgt := 78) hx hb dX3_words_51 (by decide) (fun c_51 => ?_) (fun c_51 => ?_)
    · replace hf := zIt c_51 hf
      exact hb78 k11 hk11 v1 u0 v4 v6 v7 S _ _ _ hf hI (lv_sub hl [1, 2, 0, 3, 5, 6] rfl)
    · replace hf := zIf c_51 hf
      refine lv_iload hx hb dX3_words_54 (lv_at hl 6 rfl) ?_
      refine lv_bipush (v := 102) hx hb dX3_words_56 (by decide) ?_
      refine lv_icmp_gt (tgt := 78) hx hb dX3_words_58 (by decide) (fun c_58 => ?_) (fun c_58 => ?_)
      · replace hf := zIt c_58 hf
        exact hb78 k11 hk11 v1 u0 v4 v6 v7 S _ _ _ hf hI (lv_sub hl [1, 2, 0, 3, 5, 6] rfl)
      · replace hf := zIf c_58 hf
        refine lv_iload hx hb dX3_words_61 (lv_at hl 3 rfl) ?_
        refine lv_iload hx hb dX3_words_63 (lv_at hl 6 rfl) ?_
        refine lv_bipush (v := 97) hx hb dX3_words_65 (by decide) ?_
        refine lv_isub hx hb dX3_words_67 ?_
        refine lv_ishr hx hb dX3_words_68 ?_
        refine lv_iconst (v := 1) hx hb dX3_words_69 (by decide) ?_
        refine lv_iand hx hb dX3_words_70 ?_
        refine lv_if_ne (tgt := 78) hx hb dX3_words_71 (by decide) (fun c_71 => ?_) (fun c_71 => ?_)
        · replace hf := zIf c_71 hf
          exact hb78 k11 hk11 v1 u0 v4 v6 v7 S _ _ _ hf hI (lv_sub hl [1, 2, 0, 3, 5, 6] rfl)
        · replace hf := zIt c_71 hf
          refine lv_iconst (v := 1) hx hb dX3_words_74 (by decide) ?_
          refine lv_goto (tgt := 79) hx hb dX3_words_75 (by decide) ?_
          exact hb79 k11 hk11 v1 u0 v4 v6 v7 (1 : Int32) S _ _ _ hf hI (lv_sub hl [1, 2, 0, 3, 5, 6] rfl)
  have hb11 : ∀ (n : Nat), ∀ (v1 : Int32) (v2 : Int64) (v4 : Int32) (v5 : Int32) (v6 : Int32) (S : MS) (H : Heap) (locs : List Loc) (ls : Array Slot), fX3_words_b11L n v1 v2 v4 v5 v6 S = some S' → zI D A s H locs (wM cy ad S) → lv_has ls 8 [(0, .ref (ad 0)), (1, .int v1), (2, .long v2), (4, .int v4), (5, .int v5), (6, .int v6)] → W p l e { frames := 2, cells := 0, slots := 0, locals := 46 } s m args below meth c H locs 0 0 Q (F0 m 11 ls []) := by
    intro n
    induction n with
    | zero => intro v1 v2 v4 v5 v6 S H locs ls hf; cases (show (none : Option MS) = some S' from hf)
    | succ n ih =>
      intro v1 v2 v4 v5 v6 S H locs ls hf hI hl
      have hf : fX3_words_b11 (fX3_words_b11L n) v1 v2 v4 v5 v6 S = some S' := hf
      unfold fX3_words_b11 at hf
      refine lv_iload hx hb dX3_words_11 (lv_at hl 5 rfl) ?_
      refine lv_iload_n hx hb dX3_words_13 rfl (lv_at hl 1 rfl) ?_
      refine lv_icmp_ge (tgt := 108) hx hb dX3_words_14 (by decide) (fun c_14 => ?_) (fun c_14 => ?_)
      · replace hf := zIt c_14 hf
        refine lv_iload hx hb dX3_words_108 (lv_at hl 4 rfl) ?_
        refine lv_if_eq (tgt := 125) hx hb dX3_words_110 (by decide) (fun c_110 => ?_) (fun c_110 => ?_)
        · replace hf := zIt c_110 hf
          refine lv_aload_n hx hb dX3_words_125 rfl (lv_at hl 0 rfl) ?_
          refine lv_lload_n hx hb dX3_words_126 rfl (lv_at hl 2 rfl) ?_
          refine lv_bipush (v := 97) hx hb dX3_words_127 (by decide) ?_
          refine lv_bipush (v := 100) hx hb dX3_words_129 (by decide) ?_
          refine lv_bipush (v := 100) hx hb dX3_words_131 (by decide) ?_
          refine lv_iconst (v := 0) hx hb dX3_words_133 (by decide) ?_
          refine lv_iconst (v := 0) hx hb dX3_words_134 (by decide) ?_
          obtain ⟨r_135, hf_135, hf⟩ := zB1_s hf
          refine z_callS C 5 (kX3_word l zq D (97 : Int32) (100 : Int32) (100 : Int32) (0 : Int32) (0 : Int32) r_135 hf_135) gX3_words_X3_word rfl (by decide +kernel) ⟨by decide, by decide⟩ hI rfl hl.1 rfl (Nat.le_of_ble_eq_true rfl) dX3_words_135 ⟨by decide, by decide⟩ (st2 := [.long r_135, .long v2, .ref (ad 0)]) rfl (fun H locs hI => ?_)
          refine W.lcmp hx hb dX3_words_138 ?_
          refine lv_if_ne (tgt := 146) hx hb dX3_words_139 (by decide) (fun c_139 => ?_) (fun c_139 => ?_)
          · replace hf := zIf c_139 hf
            refine lv_lload_n hx hb dX3_words_146 rfl (lv_at hl 2 rfl) ?_
            refine lv_bipush (v := 98) hx hb dX3_words_147 (by decide) ?_
            refine lv_bipush (v := 121) hx hb dX3_words_149 (by decide) ?_
            refine lv_iconst (v := 0) hx hb dX3_words_151 (by decide) ?_
            refine lv_iconst (v := 0) hx hb dX3_words_152 (by decide) ?_
            refine lv_iconst (v := 0) hx hb dX3_words_153 (by decide) ?_
            obtain ⟨r_154, hf_154, hf⟩ := zB1_s hf
            refine z_callS C 5 (kX3_word l zq D (98 : Int32) (121 : Int32) (0 : Int32) (0 : Int32) (0 : Int32) r_154 hf_154) gX3_words_X3_word rfl (by decide +kernel) ⟨by decide, by decide⟩ hI rfl hl.1 rfl (Nat.le_of_ble_eq_true rfl) dX3_words_154 ⟨by decide, by decide⟩ (st2 := [.long r_154, .long v2, .ref (ad 0)]) rfl (fun H locs hI => ?_)
            refine W.lcmp hx hb dX3_words_157 ?_
            refine lv_if_ne (tgt := 165) hx hb dX3_words_158 (by decide) (fun c_158 => ?_) (fun c_158 => ?_)
            · replace hf := zIf c_158 hf
              refine lv_lload_n hx hb dX3_words_165 rfl (lv_at hl 2 rfl) ?_
              refine lv_bipush (v := 116) hx hb dX3_words_166 (by decide) ?_
              refine lv_bipush (v := 105) hx hb dX3_words_168 (by decide) ?_
              refine lv_bipush (v := 109) hx hb dX3_words_170 (by decide) ?_
              refine lv_bipush (v := 101) hx hb dX3_words_172 (by decide) ?_
              refine lv_bipush (v := 115) hx hb dX3_words_174 (by decide) ?_
              obtain ⟨r_176, hf_176, hf⟩ := zB1_s hf
              refine z_callS C 5 (kX3_word l zq D (116 : Int32) (105 : Int32) (109 : Int32) (101 : Int32) (115 : Int32) r_176 hf_176) gX3_words_X3_word rfl (by decide +kernel) ⟨by decide, by decide⟩ hI rfl hl.1 rfl (Nat.le_of_ble_eq_true rfl) dX3_words_176 ⟨by decide, by decide⟩ (st2 := [.long r_176, .long v2, .ref (ad 0)]) rfl (fun H locs hI => ?_)
              refine W.lcmp hx hb dX3_words_179 ?_
              refine lv_if_ne (tgt := 187) hx hb dX3_words_180 (by decide) (fun c_180 => ?_) (fun c_180 => ?_)
              · replace hf := zIf c_180 hf
                refine lv_lload_n hx hb dX3_words_187 rfl (lv_at hl 2 rfl) ?_
                refine lv_bipush (v := 99) hx hb dX3_words_188 (by decide) ?_
                refine lv_bipush (v := 108) hx hb dX3_words_190 (by decide) ?_
                refine lv_bipush (v := 97) hx hb dX3_words_192 (by decide) ?_
                refine lv_bipush (v := 105) hx hb dX3_words_194 (by decide) ?_
                refine lv_bipush (v := 109) hx hb dX3_words_196 (by decide) ?_
                obtain ⟨r_198, hf_198, hf⟩ := zB1_s hf
                refine z_callS C 5 (kX3_word l zq D (99 : Int32) (108 : Int32) (97 : Int32) (105 : Int32) (109 : Int32) r_198 hf_198) gX3_words_X3_word rfl (by decide +kernel) ⟨by decide, by decide⟩ hI rfl hl.1 rfl (Nat.le_of_ble_eq_true rfl) dX3_words_198 ⟨by decide, by decide⟩ (st2 := [.long r_198, .long v2, .ref (ad 0)]) rfl (fun H locs hI => ?_)
                refine W.lcmp hx hb dX3_words_201 ?_
                refine lv_if_ne (tgt := 209) hx hb dX3_words_202 (by decide) (fun c_202 => ?_) (fun c_202 => ?_)
                · replace hf := zIf c_202 hf
                  refine lv_bipush (v := -9) hx hb dX3_words_209 (by decide) ?_
                  exact hb211 (-9 : Int32) S _ _ _ hf hI (lv_sub hl [0] rfl)
                · replace hf := zIt c_202 hf
                  refine lv_iconst (v := 3) hx hb dX3_words_205 (by decide) ?_
                  refine lv_goto (tgt := 211) hx hb dX3_words_206 (by decide) ?_
                  exact hb211 (3 : Int32) S _ _ _ hf hI (lv_sub hl [0] rfl)
              · replace hf := zIt c_180 hf
                refine lv_iconst (v := 2) hx hb dX3_words_183 (by decide) ?_
                refine lv_goto (tgt := 211) hx hb dX3_words_184 (by decide) ?_
                exact hb211 (2 : Int32) S _ _ _ hf hI (lv_sub hl [0] rfl)
            · replace hf := zIt c_158 hf
              refine lv_iconst (v := 1) hx hb dX3_words_161 (by decide) ?_
              refine lv_goto (tgt := 211) hx hb dX3_words_162 (by decide) ?_
              exact hb211 (1 : Int32) S _ _ _ hf hI (lv_sub hl [0] rfl)
          · replace hf := zIt c_139 hf
            refine lv_iconst (v := 0) hx hb dX3_words_142 (by decide) ?_
            refine lv_goto (tgt := 211) hx hb dX3_words_143 (by decide) ?_
            exact hb211 (0 : Int32) S _ _ _ hf hI (lv_sub hl [0] rfl)
        · replace hf := zIf c_110 hf
          refine lv_aload_n hx hb dX3_words_113 rfl (lv_at hl 0 rfl) ?_
          refine lv_iconst (v := 1) hx hb dX3_words_114 (by decide) ?_
          refine z_put (D := D) (ci := 3) (v := .int (1 : Int32)) (ty := .int) (C := RX3) (T := TX3) (N := 27) (w2 := (wM cy ad (m_token_u S (1 : Int32)))) hx hb hts hiX3 tyX3 tyX3_ok nmX3 hown hK hI 0 rfl rfl 6 (by decide) (hts (.fieldLink RX3 88 "NoughtSumsModel" "token" "I") (by decide +kernel)) (fun _ h9 => h9) rfl (by decide +kernel) rfl rfl (Nat.le_of_ble_eq_true rfl) dX3_words_115 rfl (fun H locs hI => ?_)
          refine lv_aload_n hx hb dX3_words_118 rfl (lv_at hl 0 rfl) ?_
          refine lv_iload hx hb dX3_words_119 (lv_at hl 3 rfl) ?_
          refine z_put (D := D) (ci := 3) (v := .int v4) (ty := .int) (C := RX3) (T := TX3) (N := 27) (w2 := (wM cy ad (m_value_u (m_token_u S (1 : Int32)) v4))) hx hb hts hiX3 tyX3 tyX3_ok nmX3 hown hK hI 0 rfl rfl 8 (by decide) (hts (.fieldLink RX3 91 "NoughtSumsModel" "value" "I") (by decide +kernel)) (fun _ h9 => h9) rfl (by decide +kernel) rfl rfl (Nat.le_of_ble_eq_true rfl) dX3_words_121 rfl (fun H locs hI => ?_)
          have h2 := zP1 hf
          rw [hQ]
          exact z_vret C (by rw [h2]; exact hI) rfl dX3_words_124
      · replace hf := zIf c_14 hf
        refine lv_aload_n hx hb dX3_words_17 rfl (lv_at hl 0 rfl) ?_
        refine va_get (D := D) (ci := 3) (v := .ref (ad 2)) (C := RX3) (T := TX3) (N := 27) hx hb hts hiX3 hown hK hI.1 0 rfl rfl 3 (by decide) (hts (.fieldLink RX3 13 "NoughtSumsModel" "text" "[I") (by decide +kernel)) (fun _ h9 => h9) rfl dX3_words_18 ?_
        refine lv_aload_n hx hb dX3_words_21 rfl (lv_at hl 0 rfl) ?_
        refine va_get (D := D) (ci := 3) (v := .int (m_place S)) (C := RX3) (T := TX3) (N := 27) hx hb hts hiX3 hown hK hI.1 0 rfl rfl 7 (by decide) (hts (.fieldLink RX3 85 "NoughtSumsModel" "place" "I") (by decide +kernel)) (fun _ h9 => h9) rfl dX3_words_22 ?_
        refine lv_iload hx hb dX3_words_25 (lv_at hl 5 rfl) ?_
        refine lv_iadd hx hb dX3_words_27 ?_
        obtain ⟨g_28, hf⟩ := zGI_s hf
        refine va_iald (f := (m_text S)) hx hb hK hI.1 2 1 rfl rfl g_28 dX3_words_28 ?_
        refine lv_topi (fun n_29 e_29 => ?_)
        replace hf := zL_s hf e_29
        refine lv_istore (lv' := [(7, .int n_29), (0, .ref (ad 0)), (1, .int v1), (2, .long v2), (4, .int v4), (5, .int v5), (6, .int v6)]) hx hb dX3_words_29 hl (by decide) rfl (fun ls hl => ?_)
        refine lv_iload hx hb dX3_words_31 (lv_at hl 6 rfl) ?_
        refine lv_bipush (v := 6) hx hb dX3_words_33 (by decide) ?_
        refine lv_icmp_ge (tgt := 47) hx hb dX3_words_35 (by decide) (fun c_35 => ?_) (fun c_35 => ?_)
        · replace hf := zIt c_35 hf
          refine lv_lload_n hx hb dX3_words_47 rfl (lv_at hl 3 rfl) ?_
          exact hb48 (fX3_words_b11L n) ih v1 v4 v5 v6 n_29 v2 S _ _ _ hf hI (lv_sub hl [1, 2, 4, 5, 6, 0] rfl)
        · replace hf := zIf c_35 hf
          refine lv_lload_n hx hb dX3_words_38 rfl (lv_at hl 3 rfl) ?_
          refine lv_iload hx hb dX3_words_39 (lv_at hl 0 rfl) ?_
          obtain ⟨r_41, hf_41, hf⟩ := zB1_s hf
          refine z_callS C 2 (kX3_add l zq D v2 n_29 r_41 hf_41) gX3_words_X3_add rfl (by decide +kernel) ⟨by decide, by decide⟩ hI rfl hl.1 rfl (Nat.le_of_ble_eq_true rfl) dX3_words_41 ⟨by decide, by decide⟩ (st2 := [.long r_41]) rfl (fun H locs hI => ?_)
          refine lv_goto (tgt := 48) hx hb dX3_words_44 (by decide) ?_
          exact hb48 (fX3_words_b11L n) ih v1 v4 v5 v6 n_29 r_41 S _ _ _ hf hI (lv_sub hl [1, 2, 4, 5, 6, 0] rfl)
  unfold fX3_words at hf
  refine lv_lconst (v := 0) hx hb dX3_words_0 (by decide) ?_
  refine lv_lstore_n (lv' := [(2, .long (0 : Int64)), (0, .ref (ad 0)), (1, .int a1)]) hx hb dX3_words_1 rfl hl (by decide) rfl (fun ls hl => ?_)
  refine lv_iconst (v := 0) hx hb dX3_words_2 (by decide) ?_
  refine lv_istore (lv' := [(4, .int (0 : Int32)), (2, .long (0 : Int64)), (0, .ref (ad 0)), (1, .int a1)]) hx hb dX3_words_3 hl (by decide) rfl (fun ls hl => ?_)
  refine lv_iconst (v := 1) hx hb dX3_words_5 (by decide) ?_
  refine lv_istore (lv' := [(5, .int (1 : Int32)), (4, .int (0 : Int32)), (2, .long (0 : Int64)), (0, .ref (ad 0)), (1, .int a1)]) hx hb dX3_words_6 hl (by decide) rfl (fun ls hl => ?_)
  refine lv_iconst (v := 0) hx hb dX3_words_8 (by decide) ?_
  refine lv_istore (lv' := [(6, .int (0 : Int32)), (5, .int (1 : Int32)), (4, .int (0 : Int32)), (2, .long (0 : Int64)), (0, .ref (ad 0)), (1, .int a1)]) hx hb dX3_words_9 hl (by decide) rfl (fun ls hl => ?_)
  exact hb11 zF a1 (0 : Int64) (0 : Int32) (1 : Int32) (0 : Int32) S _ _ _ hf hI (lv_sub hl [4, 5, 3, 2, 1, 0] rfl)

def fX3_advances_b228 (S : MS) : Option MS :=
some (m_token_u S (6 : Int32))

def fX3_advances_b183 (k129 : Int32 → MS → Option MS) (v1 : Int32) (u0 : Int32) (S : MS) : Option MS :=
k129 v1 (m_next_u (m_value_u S u0) ((m_next S) + (1 : Int32)))

def fX3_advances_b129 (k129 : Int32 → MS → Option MS) (v1 : Int32) (S : MS) : Option MS :=
(zB2 (fX3_byteAt (m_next S) S) (fun r_134 S_134 =>
(zB1 (fX3_in r_134 (48 : Int32) (57 : Int32)) (fun r_141 =>
(if r_141 = 0 then (if (99 : Int32) < (m_value S_134) then fX3_advances_b228 S_134 else
(if v1 = (48 : Int32) then (if ((m_next S_134) - (m_place S_134)) ≤ (1 : Int32) then some (m_token_u S_134 (3 : Int32)) else
fX3_advances_b228 S_134) else
some (m_token_u S_134 (3 : Int32)))) else
(if (m_value S_134) ≤ (99 : Int32) then (zB2 (fX3_byteAt (m_next S_134) S_134) (fun r_176 S_176 =>
fX3_advances_b183 k129 v1 ((((10 : Int32) * (m_value S_134)) + r_176) - (48 : Int32)) S_176)) else
fX3_advances_b183 k129 v1 (m_value S_134) S_134))))))
def fX3_advances_b129L : Nat → Int32 → MS → Option MS
  | 0, _, _ => none
  | n + 1, v1, S => fX3_advances_b129 (fX3_advances_b129L n) v1 S

def fX3_advances_b66 (k66 : MS → Option MS) (S : MS) : Option MS :=
(zB2 (fX3_byteAt (m_next S) S) (fun r_71 S_71 =>
(zB1 (fX3_in r_71 (97 : Int32) (122 : Int32)) (fun r_78 =>
(if r_78 = 0 then (zB1 (fX3_words ((m_next S_71) - (m_place S_71)) S_71) (fun S_107 =>
some S_107)) else
k66 (m_next_u S_71 ((m_next S_71) + (1 : Int32))))))))
def fX3_advances_b66L : Nat → MS → Option MS
  | 0, _ => none
  | n + 1, S => fX3_advances_b66 (fX3_advances_b66L n) S

def fX3_advances_b0 (k0 : MS → Option MS) (S : MS) : Option MS :=
(zB2 (fX3_byteAt (m_next S) S) (fun r_5 S_5 =>
(if r_5 = (32 : Int32) then k0 (m_next_u S_5 ((m_next S_5) + (1 : Int32))) else
(zB2 (fX3_byteAt (m_next S_5) (m_place_u S_5 (m_next S_5))) (fun r_39 S_39 =>
(if 0 ≤ r_39 then (zB1 (fX3_in r_39 (97 : Int32) (122 : Int32)) (fun r_60 =>
(if r_60 = 0 then (zB1 (fX3_in r_39 (48 : Int32) (57 : Int32)) (fun r_118 =>
(if r_118 = 0 then (if r_39 = (43 : Int32) then some (m_token_u (m_next_u S_39 ((m_next S_39) + (1 : Int32))) (4 : Int32)) else
(if r_39 = (59 : Int32) then some (m_token_u (m_next_u S_39 ((m_next S_39) + (1 : Int32))) (5 : Int32)) else
some (m_token_u (m_next_u S_39 ((m_next S_39) + (1 : Int32))) (6 : Int32)))) else
fX3_advances_b129L zF r_39 (m_value_u S_39 (0 : Int32))))) else
fX3_advances_b66L zF S_39))) else
some (m_token_u S_39 (0 : Int32))))))))
def fX3_advances_b0L : Nat → MS → Option MS
  | 0, _ => none
  | n + 1, S => fX3_advances_b0 (fX3_advances_b0L n) S

def fX3_advances  (S : MS) : Option MS :=
(zB2 (fX3_byteAt (m_next S) S) (fun r_5 S_5 =>
(if r_5 = (32 : Int32) then fX3_advances_b0L zF (m_next_u S_5 ((m_next S_5) + (1 : Int32))) else
(zB2 (fX3_byteAt (m_next S_5) (m_place_u S_5 (m_next S_5))) (fun r_39 S_39 =>
(if 0 ≤ r_39 then (zB1 (fX3_in r_39 (97 : Int32) (122 : Int32)) (fun r_60 =>
(if r_60 = 0 then (zB1 (fX3_in r_39 (48 : Int32) (57 : Int32)) (fun r_118 =>
(if r_118 = 0 then (if r_39 = (43 : Int32) then some (m_token_u (m_next_u S_39 ((m_next S_39) + (1 : Int32))) (4 : Int32)) else
(if r_39 = (59 : Int32) then some (m_token_u (m_next_u S_39 ((m_next S_39) + (1 : Int32))) (5 : Int32)) else
some (m_token_u (m_next_u S_39 ((m_next S_39) + (1 : Int32))) (6 : Int32)))) else
fX3_advances_b129L zF r_39 (m_value_u S_39 (0 : Int32))))) else
fX3_advances_b66L zF S_39))) else
some (m_token_u S_39 (0 : Int32))))))))
set_option maxHeartbeats 4000000 in
set_option maxRecDepth 100000 in
theorem kX3_advances (l : Launch) (zq : Nat → Nat) (D : va_G) (cy : Nat → ClassId) (ad : Nat → Nat)  (S S' : MS) (hf : fX3_advances S = some S') : zMet l yX3_advances wsX3_advances 3 73 zq D (tM cy) (wM cy ad S) [.ref (ad 0)] none (wM cy ad S') := by
  refine zMet.of cX3_advances 2 none (by decide) rfl (Nat.le_of_ble_eq_true rfl) ?_
  intro p e s m args below meth c A ls C hl hI
  have hl : lv_has ls 2 [(0, .ref (ad 0))] := hl
  have C : zC p s m args meth c cX3_advances 2 none RX3 wsX3_advances D (tM cy) zq A := C
  obtain ⟨hx, hb, hml, hown, hts, hret, hlk, hK, hX, hA⟩ := id C
  have hiX3 : ∀ w ∈ wsX30, w ∈ wsX3_advances := by decide +kernel
  obtain ⟨Q, hQ⟩ : ∃ Q, Q = MQ below (zQ D (tM cy) (wM cy ad S') none A) args s 0 0 A := ⟨_, rfl⟩
  rw [← hQ]
  have hb228 : ∀ (S : MS) (H : Heap) (locs : List Loc) (ls : Array Slot), fX3_advances_b228 S = some S' → zI D A s H locs (wM cy ad S) → lv_has ls 2 [] → W p l e { frames := 3, cells := 0, slots := 0, locals := 73 } s m args below meth c H locs 0 0 Q (F0 m 228 ls [.ref (ad 0)]) := by
    intro S H locs ls hf hI hl
    unfold fX3_advances_b228 at hf
    refine lv_bipush (v := 6) hx hb dX3_advances_228 (by decide) ?_
    refine lv_goto (tgt := 234) hx hb dX3_advances_230 (by decide) ?_
    refine z_put (D := D) (ci := 3) (v := .int (6 : Int32)) (ty := .int) (C := RX3) (T := TX3) (N := 27) (w2 := (wM cy ad (m_token_u S (6 : Int32)))) hx hb hts hiX3 tyX3 tyX3_ok nmX3 hown hK hI 0 rfl rfl 6 (by decide) (hts (.fieldLink RX3 88 "NoughtSumsModel" "token" "I") (by decide +kernel)) (fun _ h9 => h9) rfl (by decide +kernel) rfl rfl (Nat.le_of_ble_eq_true rfl) dX3_advances_234 rfl (fun H locs hI => ?_)
    refine lv_goto (tgt := 276) hx hb dX3_advances_237 (by decide) ?_
    have h2 := zP1 hf
    rw [hQ]
    exact z_vret C (by rw [h2]; exact hI) rfl dX3_advances_276
  have hb183 : ∀ (k129 : Int32 → MS → Option MS) (hk129 : ∀ (v1 : Int32) (S : MS) (H : Heap) (locs : List Loc) (ls : Array Slot), k129 v1 S = some S' → zI D A s H locs (wM cy ad S) → lv_has ls 2 [(0, .ref (ad 0)), (1, .int v1)] → W p l e { frames := 3, cells := 0, slots := 0, locals := 73 } s m args below meth c H locs 0 0 Q (F0 m 129 ls [])), ∀ (v1 : Int32) (u0 : Int32) (S : MS) (H : Heap) (locs : List Loc) (ls : Array Slot), fX3_advances_b183 k129 v1 u0 S = some S' → zI D A s H locs (wM cy ad S) → lv_has ls 2 [(0, .ref (ad 0)), (1, .int v1)] → W p l e { frames := 3, cells := 0, slots := 0, locals := 73 } s m args below meth c H locs 0 0 Q (F0 m 183 ls [.int u0, .ref (ad 0)]) := by
    intro k129 hk129 v1 u0 S H locs ls hf hI hl
    unfold fX3_advances_b183 at hf
    refine z_put (D := D) (ci := 3) (v := .int u0) (ty := .int) (C := RX3) (T := TX3) (N := 27) (w2 := (wM cy ad (m_value_u S u0))) hx hb hts hiX3 tyX3 tyX3_ok nmX3 hown hK hI 0 rfl rfl 8 (by decide) (hts (.fieldLink RX3 91 "NoughtSumsModel" "value" "I") (by decide +kernel)) (fun _ h9 => h9) rfl (by decide +kernel) rfl rfl (Nat.le_of_ble_eq_true rfl) dX3_advances_183 rfl (fun H locs hI => ?_)
    refine lv_aload_n hx hb dX3_advances_186 rfl (lv_at hl 0 rfl) ?_
    refine lv_dup hx hb dX3_advances_187 rfl ?_
    refine va_get (D := D) (ci := 3) (v := .int (m_next S)) (C := RX3) (T := TX3) (N := 27) hx hb hts hiX3 hown hK hI.1 0 rfl rfl 5 (by decide) (hts (.fieldLink RX3 98 "NoughtSumsModel" "next" "I") (by decide +kernel)) (fun _ h9 => h9) rfl dX3_advances_188 ?_
    refine lv_iconst (v := 1) hx hb dX3_advances_191 (by decide) ?_
    refine lv_iadd hx hb dX3_advances_192 ?_
    refine z_put (D := D) (ci := 3) (v := .int ((m_next S) + (1 : Int32))) (ty := .int) (C := RX3) (T := TX3) (N := 27) (w2 := (wM cy ad (m_next_u (m_value_u S u0) ((m_next S) + (1 : Int32))))) hx hb hts hiX3 tyX3 tyX3_ok nmX3 hown hK hI 0 rfl rfl 5 (by decide) (hts (.fieldLink RX3 98 "NoughtSumsModel" "next" "I") (by decide +kernel)) (fun _ h9 => h9) rfl (by decide +kernel) rfl rfl (Nat.le_of_ble_eq_true rfl) dX3_advances_193 rfl (fun H locs hI => ?_)
    refine lv_goto (tgt := 129) hx hb dX3_advances_196 (by decide) ?_
    exact hk129 v1 (m_next_u (m_value_u S u0) ((m_next S) + (1 : Int32))) _ _ _ hf hI (lv_sub hl [0, 1] rfl)
  have hb129 : ∀ (n : Nat), ∀ (v1 : Int32) (S : MS) (H : Heap) (locs : List Loc) (ls : Array Slot), fX3_advances_b129L n v1 S = some S' → zI D A s H locs (wM cy ad S) → lv_has ls 2 [(0, .ref (ad 0)), (1, .int v1)] → W p l e { frames := 3, cells := 0, slots := 0, locals := 73 } s m args below meth c H locs 0 0 Q (F0 m 129 ls []) := by
    intro n
    induction n with
    | zero => intro v1 S H locs ls hf; cases (show (none : Option MS) = some S' from hf)
    | succ n ih =>
      intro v1 S H locs ls hf hI hl
      have hf : fX3_advances_b129 (fX3_advances_b129L n) v1 S = some S' := hf
      unfold fX3_advances_b129 at hf
      refine lv_aload_n hx hb dX3_advances_129 rfl (lv_at hl 0 rfl) ?_
      refine lv_aload_n hx hb dX3_advances_130 rfl (lv_at hl 0 rfl) ?_
      refine va_get (D := D) (ci := 3) (v := .int (m_next S)) (C := RX3) (T := TX3) (N := 27) hx hb hts hiX3 hown hK hI.1 0 rfl rfl 5 (by decide) (hts (.fieldLink RX3 98 "NoughtSumsModel" "next" "I") (by decide +kernel)) (fun _ h9 => h9) rfl dX3_advances_131 ?_
      obtain ⟨r_134, S_134, hf_134, hf⟩ := zB2_s hf
      refine z_callV (w2 := (wM cy ad S_134)) C 1 (kX3_byteAt l zq D cy ad (m_next S) S S_134 r_134 hf_134) gX3_advances_X3_byteAt rfl (by decide +kernel) ⟨by decide, by decide⟩ hI 0 rfl rfl rfl hl.1 rfl (Nat.le_of_ble_eq_true rfl) dX3_advances_134 ⟨by decide, by decide⟩ (st2 := [.int r_134]) rfl (fun H locs hI => ?_)
      refine lv_bipush (v := 48) hx hb dX3_advances_137 (by decide) ?_
      refine lv_bipush (v := 57) hx hb dX3_advances_139 (by decide) ?_
      obtain ⟨r_141, hf_141, hf⟩ := zB1_s hf
      refine z_callS C 3 (kX3_in l zq D r_134 (48 : Int32) (57 : Int32) r_141 hf_141) gX3_advances_X3_in rfl (by decide +kernel) ⟨by decide, by decide⟩ hI rfl hl.1 rfl (Nat.le_of_ble_eq_true rfl) dX3_advances_141 ⟨by decide, by decide⟩ (st2 := [.int r_141]) rfl (fun H locs hI => ?_)
      refine lv_if_eq (tgt := 199) hx hb dX3_advances_144 (by decide) (fun c_144 => ?_) (fun c_144 => ?_)
      · replace hf := zIt c_144 hf
        refine lv_aload_n hx hb dX3_advances_199 rfl (lv_at hl 0 rfl) ?_
        refine lv_aload_n hx hb dX3_advances_200 rfl (lv_at hl 0 rfl) ?_
        refine va_get (D := D) (ci := 3) (v := .int (m_value S_134)) (C := RX3) (T := TX3) (N := 27) hx hb hts hiX3 hown hK hI.1 0 rfl rfl 8 (by decide) (hts (.fieldLink RX3 91 "NoughtSumsModel" "value" "I") (by decide +kernel)) (fun _ h9 => h9) rfl dX3_advances_201 ?_
        refine lv_bipush (v := 99) hx hb dX3_advances_204 (by decide) ?_
        refine lv_icmp_gt (tgt := 228) hx hb dX3_advances_206 (by decide) (fun c_206 => ?_) (fun c_206 => ?_)
        · replace hf := zIt c_206 hf
          exact hb228 S_134 _ _ _ hf hI (lv_sub hl [] rfl)
        · replace hf := zIf c_206 hf
          refine lv_iload_n hx hb dX3_advances_209 rfl (lv_at hl 1 rfl) ?_
          refine lv_bipush (v := 48) hx hb dX3_advances_210 (by decide) ?_
          refine lv_icmp_ne (tgt := 233) hx hb dX3_advances_212 (by decide) (fun c_212 => ?_) (fun c_212 => ?_)
          · replace hf := zIf c_212 hf
            refine lv_iconst (v := 3) hx hb dX3_advances_233 (by decide) ?_
            refine z_put (D := D) (ci := 3) (v := .int (3 : Int32)) (ty := .int) (C := RX3) (T := TX3) (N := 27) (w2 := (wM cy ad (m_token_u S_134 (3 : Int32)))) hx hb hts hiX3 tyX3 tyX3_ok nmX3 hown hK hI 0 rfl rfl 6 (by decide) (hts (.fieldLink RX3 88 "NoughtSumsModel" "token" "I") (by decide +kernel)) (fun _ h9 => h9) rfl (by decide +kernel) rfl rfl (Nat.le_of_ble_eq_true rfl) dX3_advances_234 rfl (fun H locs hI => ?_)
            refine lv_goto (tgt := 276) hx hb dX3_advances_237 (by decide) ?_
            have h2 := zP1 hf
            rw [hQ]
            exact z_vret C (by rw [h2]; exact hI) rfl dX3_advances_276
          · replace hf := zIt c_212 hf
            refine lv_aload_n hx hb dX3_advances_215 rfl (lv_at hl 0 rfl) ?_
            refine va_get (D := D) (ci := 3) (v := .int (m_next S_134)) (C := RX3) (T := TX3) (N := 27) hx hb hts hiX3 hown hK hI.1 0 rfl rfl 5 (by decide) (hts (.fieldLink RX3 98 "NoughtSumsModel" "next" "I") (by decide +kernel)) (fun _ h9 => h9) rfl dX3_advances_216 ?_
            refine lv_aload_n hx hb dX3_advances_219 rfl (lv_at hl 0 rfl) ?_
            refine va_get (D := D) (ci := 3) (v := .int (m_place S_134)) (C := RX3) (T := TX3) (N := 27) hx hb hts hiX3 hown hK hI.1 0 rfl rfl 7 (by decide) (hts (.fieldLink RX3 85 "NoughtSumsModel" "place" "I") (by decide +kernel)) (fun _ h9 => h9) rfl dX3_advances_220 ?_
            refine lv_isub hx hb dX3_advances_223 ?_
            refine lv_iconst (v := 1) hx hb dX3_advances_224 (by decide) ?_
            refine lv_icmp_le (tgt := 233) hx hb dX3_advances_225 (by decide) (fun c_225 => ?_) (fun c_225 => ?_)
            · replace hf := zIt c_225 hf
              refine lv_iconst (v := 3) hx hb dX3_advances_233 (by decide) ?_
              refine z_put (D := D) (ci := 3) (v := .int (3 : Int32)) (ty := .int) (C := RX3) (T := TX3) (N := 27) (w2 := (wM cy ad (m_token_u S_134 (3 : Int32)))) hx hb hts hiX3 tyX3 tyX3_ok nmX3 hown hK hI 0 rfl rfl 6 (by decide) (hts (.fieldLink RX3 88 "NoughtSumsModel" "token" "I") (by decide +kernel)) (fun _ h9 => h9) rfl (by decide +kernel) rfl rfl (Nat.le_of_ble_eq_true rfl) dX3_advances_234 rfl (fun H locs hI => ?_)
              refine lv_goto (tgt := 276) hx hb dX3_advances_237 (by decide) ?_
              have h2 := zP1 hf
              rw [hQ]
              exact z_vret C (by rw [h2]; exact hI) rfl dX3_advances_276
            · replace hf := zIf c_225 hf
              exact hb228 S_134 _ _ _ hf hI (lv_sub hl [] rfl)
      · replace hf := zIf c_144 hf
        refine lv_aload_n hx hb dX3_advances_147 rfl (lv_at hl 0 rfl) ?_
        refine lv_aload_n hx hb dX3_advances_148 rfl (lv_at hl 0 rfl) ?_
        refine va_get (D := D) (ci := 3) (v := .int (m_value S_134)) (C := RX3) (T := TX3) (N := 27) hx hb hts hiX3 hown hK hI.1 0 rfl rfl 8 (by decide) (hts (.fieldLink RX3 91 "NoughtSumsModel" "value" "I") (by decide +kernel)) (fun _ h9 => h9) rfl dX3_advances_149 ?_
        refine lv_bipush (v := 99) hx hb dX3_advances_152 (by decide) ?_
        refine lv_icmp_le (tgt := 164) hx hb dX3_advances_154 (by decide) (fun c_154 => ?_) (fun c_154 => ?_)
        · replace hf := zIt c_154 hf
          refine lv_bipush (v := 10) hx hb dX3_advances_164 (by decide) ?_
          refine lv_aload_n hx hb dX3_advances_166 rfl (lv_at hl 0 rfl) ?_
          refine va_get (D := D) (ci := 3) (v := .int (m_value S_134)) (C := RX3) (T := TX3) (N := 27) hx hb hts hiX3 hown hK hI.1 0 rfl rfl 8 (by decide) (hts (.fieldLink RX3 91 "NoughtSumsModel" "value" "I") (by decide +kernel)) (fun _ h9 => h9) rfl dX3_advances_167 ?_
          refine lv_imul hx hb dX3_advances_170 ?_
          refine lv_aload_n hx hb dX3_advances_171 rfl (lv_at hl 0 rfl) ?_
          refine lv_aload_n hx hb dX3_advances_172 rfl (lv_at hl 0 rfl) ?_
          refine va_get (D := D) (ci := 3) (v := .int (m_next S_134)) (C := RX3) (T := TX3) (N := 27) hx hb hts hiX3 hown hK hI.1 0 rfl rfl 5 (by decide) (hts (.fieldLink RX3 98 "NoughtSumsModel" "next" "I") (by decide +kernel)) (fun _ h9 => h9) rfl dX3_advances_173 ?_
          obtain ⟨r_176, S_176, hf_176, hf⟩ := zB2_s hf
          refine z_callV (w2 := (wM cy ad S_176)) C 1 (kX3_byteAt l zq D cy ad (m_next S_134) S_134 S_176 r_176 hf_176) gX3_advances_X3_byteAt rfl (by decide +kernel) ⟨by decide, by decide⟩ hI 0 rfl rfl rfl hl.1 rfl (Nat.le_of_ble_eq_true rfl) dX3_advances_176 ⟨by decide, by decide⟩ (st2 := [.int r_176, .int ((10 : Int32) * (m_value S_134)), .ref (ad 0)]) rfl (fun H locs hI => ?_)
          refine lv_iadd hx hb dX3_advances_179 ?_
          refine lv_bipush (v := 48) hx hb dX3_advances_180 (by decide) ?_
          refine lv_isub hx hb dX3_advances_182 ?_
          exact hb183 (fX3_advances_b129L n) ih v1 ((((10 : Int32) * (m_value S_134)) + r_176) - (48 : Int32)) S_176 _ _ _ hf hI (lv_sub hl [0, 1] rfl)
        · replace hf := zIf c_154 hf
          refine lv_aload_n hx hb dX3_advances_157 rfl (lv_at hl 0 rfl) ?_
          refine va_get (D := D) (ci := 3) (v := .int (m_value S_134)) (C := RX3) (T := TX3) (N := 27) hx hb hts hiX3 hown hK hI.1 0 rfl rfl 8 (by decide) (hts (.fieldLink RX3 91 "NoughtSumsModel" "value" "I") (by decide +kernel)) (fun _ h9 => h9) rfl dX3_advances_158 ?_
          refine lv_goto (tgt := 183) hx hb dX3_advances_161 (by decide) ?_
          exact hb183 (fX3_advances_b129L n) ih v1 (m_value S_134) S_134 _ _ _ hf hI (lv_sub hl [0, 1] rfl)
  have hb66 : ∀ (n : Nat), ∀ (S : MS) (H : Heap) (locs : List Loc) (ls : Array Slot), fX3_advances_b66L n S = some S' → zI D A s H locs (wM cy ad S) → lv_has ls 2 [(0, .ref (ad 0))] → W p l e { frames := 3, cells := 0, slots := 0, locals := 73 } s m args below meth c H locs 0 0 Q (F0 m 66 ls []) := by
    intro n
    induction n with
    | zero => intro S H locs ls hf; cases (show (none : Option MS) = some S' from hf)
    | succ n ih =>
      intro S H locs ls hf hI hl
      have hf : fX3_advances_b66 (fX3_advances_b66L n) S = some S' := hf
      unfold fX3_advances_b66 at hf
      refine lv_aload_n hx hb dX3_advances_66 rfl (lv_at hl 0 rfl) ?_
      refine lv_aload_n hx hb dX3_advances_67 rfl (lv_at hl 0 rfl) ?_
      refine va_get (D := D) (ci := 3) (v := .int (m_next S)) (C := RX3) (T := TX3) (N := 27) hx hb hts hiX3 hown hK hI.1 0 rfl rfl 5 (by decide) (hts (.fieldLink RX3 98 "NoughtSumsModel" "next" "I") (by decide +kernel)) (fun _ h9 => h9) rfl dX3_advances_68 ?_
      obtain ⟨r_71, S_71, hf_71, hf⟩ := zB2_s hf
      refine z_callV (w2 := (wM cy ad S_71)) C 1 (kX3_byteAt l zq D cy ad (m_next S) S S_71 r_71 hf_71) gX3_advances_X3_byteAt rfl (by decide +kernel) ⟨by decide, by decide⟩ hI 0 rfl rfl rfl hl.1 rfl (Nat.le_of_ble_eq_true rfl) dX3_advances_71 ⟨by decide, by decide⟩ (st2 := [.int r_71]) rfl (fun H locs hI => ?_)
      refine lv_bipush (v := 97) hx hb dX3_advances_74 (by decide) ?_
      refine lv_bipush (v := 122) hx hb dX3_advances_76 (by decide) ?_
      obtain ⟨r_78, hf_78, hf⟩ := zB1_s hf
      refine z_callS C 3 (kX3_in l zq D r_71 (97 : Int32) (122 : Int32) r_78 hf_78) gX3_advances_X3_in rfl (by decide +kernel) ⟨by decide, by decide⟩ hI rfl hl.1 rfl (Nat.le_of_ble_eq_true rfl) dX3_advances_78 ⟨by decide, by decide⟩ (st2 := [.int r_78]) rfl (fun H locs hI => ?_)
      refine lv_if_eq (tgt := 97) hx hb dX3_advances_81 (by decide) (fun c_81 => ?_) (fun c_81 => ?_)
      · replace hf := zIt c_81 hf
        refine lv_aload_n hx hb dX3_advances_97 rfl (lv_at hl 0 rfl) ?_
        refine lv_aload_n hx hb dX3_advances_98 rfl (lv_at hl 0 rfl) ?_
        refine va_get (D := D) (ci := 3) (v := .int (m_next S_71)) (C := RX3) (T := TX3) (N := 27) hx hb hts hiX3 hown hK hI.1 0 rfl rfl 5 (by decide) (hts (.fieldLink RX3 98 "NoughtSumsModel" "next" "I") (by decide +kernel)) (fun _ h9 => h9) rfl dX3_advances_99 ?_
        refine lv_aload_n hx hb dX3_advances_102 rfl (lv_at hl 0 rfl) ?_
        refine va_get (D := D) (ci := 3) (v := .int (m_place S_71)) (C := RX3) (T := TX3) (N := 27) hx hb hts hiX3 hown hK hI.1 0 rfl rfl 7 (by decide) (hts (.fieldLink RX3 85 "NoughtSumsModel" "place" "I") (by decide +kernel)) (fun _ h9 => h9) rfl dX3_advances_103 ?_
        refine lv_isub hx hb dX3_advances_106 ?_
        obtain ⟨S_107, hf_107, hf⟩ := zB1_s hf
        refine z_callV (w2 := (wM cy ad S_107)) C 1 (kX3_words l zq D cy ad ((m_next S_71) - (m_place S_71)) S_71 S_107 hf_107) gX3_advances_X3_words rfl (by decide +kernel) ⟨by decide, by decide⟩ hI 0 rfl rfl rfl hl.1 rfl (Nat.le_of_ble_eq_true rfl) dX3_advances_107 ⟨by decide, by decide⟩ (st2 := []) rfl (fun H locs hI => ?_)
        refine lv_goto (tgt := 276) hx hb dX3_advances_110 (by decide) ?_
        have h2 := zP1 hf
        rw [hQ]
        exact z_vret C (by rw [h2]; exact hI) rfl dX3_advances_276
      · replace hf := zIf c_81 hf
        refine lv_aload_n hx hb dX3_advances_84 rfl (lv_at hl 0 rfl) ?_
        refine lv_dup hx hb dX3_advances_85 rfl ?_
        refine va_get (D := D) (ci := 3) (v := .int (m_next S_71)) (C := RX3) (T := TX3) (N := 27) hx hb hts hiX3 hown hK hI.1 0 rfl rfl 5 (by decide) (hts (.fieldLink RX3 98 "NoughtSumsModel" "next" "I") (by decide +kernel)) (fun _ h9 => h9) rfl dX3_advances_86 ?_
        refine lv_iconst (v := 1) hx hb dX3_advances_89 (by decide) ?_
        refine lv_iadd hx hb dX3_advances_90 ?_
        refine z_put (D := D) (ci := 3) (v := .int ((m_next S_71) + (1 : Int32))) (ty := .int) (C := RX3) (T := TX3) (N := 27) (w2 := (wM cy ad (m_next_u S_71 ((m_next S_71) + (1 : Int32))))) hx hb hts hiX3 tyX3 tyX3_ok nmX3 hown hK hI 0 rfl rfl 5 (by decide) (hts (.fieldLink RX3 98 "NoughtSumsModel" "next" "I") (by decide +kernel)) (fun _ h9 => h9) rfl (by decide +kernel) rfl rfl (Nat.le_of_ble_eq_true rfl) dX3_advances_91 rfl (fun H locs hI => ?_)
        refine lv_goto (tgt := 66) hx hb dX3_advances_94 (by decide) ?_
        exact ih (m_next_u S_71 ((m_next S_71) + (1 : Int32))) _ _ _ hf hI (lv_sub hl [0] rfl)
  have hb0 : ∀ (n : Nat), ∀ (S : MS) (H : Heap) (locs : List Loc) (ls : Array Slot), fX3_advances_b0L n S = some S' → zI D A s H locs (wM cy ad S) → lv_has ls 2 [(0, .ref (ad 0))] → W p l e { frames := 3, cells := 0, slots := 0, locals := 73 } s m args below meth c H locs 0 0 Q (F0 m 0 ls []) := by
    intro n
    induction n with
    | zero => intro S H locs ls hf; cases (show (none : Option MS) = some S' from hf)
    | succ n ih =>
      intro S H locs ls hf hI hl
      have hf : fX3_advances_b0 (fX3_advances_b0L n) S = some S' := hf
      unfold fX3_advances_b0 at hf
      refine lv_aload_n hx hb dX3_advances_0 rfl (lv_at hl 0 rfl) ?_
      refine lv_aload_n hx hb dX3_advances_1 rfl (lv_at hl 0 rfl) ?_
      refine va_get (D := D) (ci := 3) (v := .int (m_next S)) (C := RX3) (T := TX3) (N := 27) hx hb hts hiX3 hown hK hI.1 0 rfl rfl 5 (by decide) (hts (.fieldLink RX3 98 "NoughtSumsModel" "next" "I") (by decide +kernel)) (fun _ h9 => h9) rfl dX3_advances_2 ?_
      obtain ⟨r_5, S_5, hf_5, hf⟩ := zB2_s hf
      refine z_callV (w2 := (wM cy ad S_5)) C 1 (kX3_byteAt l zq D cy ad (m_next S) S S_5 r_5 hf_5) gX3_advances_X3_byteAt rfl (by decide +kernel) ⟨by decide, by decide⟩ hI 0 rfl rfl rfl hl.1 rfl (Nat.le_of_ble_eq_true rfl) dX3_advances_5 ⟨by decide, by decide⟩ (st2 := [.int r_5]) rfl (fun H locs hI => ?_)
      refine lv_bipush (v := 32) hx hb dX3_advances_8 (by decide) ?_
      refine lv_icmp_ne (tgt := 26) hx hb dX3_advances_10 (by decide) (fun c_10 => ?_) (fun c_10 => ?_)
      · replace hf := zIf c_10 hf
        refine lv_aload_n hx hb dX3_advances_26 rfl (lv_at hl 0 rfl) ?_
        refine lv_aload_n hx hb dX3_advances_27 rfl (lv_at hl 0 rfl) ?_
        refine va_get (D := D) (ci := 3) (v := .int (m_next S_5)) (C := RX3) (T := TX3) (N := 27) hx hb hts hiX3 hown hK hI.1 0 rfl rfl 5 (by decide) (hts (.fieldLink RX3 98 "NoughtSumsModel" "next" "I") (by decide +kernel)) (fun _ h9 => h9) rfl dX3_advances_28 ?_
        refine z_put (D := D) (ci := 3) (v := .int (m_next S_5)) (ty := .int) (C := RX3) (T := TX3) (N := 27) (w2 := (wM cy ad (m_place_u S_5 (m_next S_5)))) hx hb hts hiX3 tyX3 tyX3_ok nmX3 hown hK hI 0 rfl rfl 7 (by decide) (hts (.fieldLink RX3 85 "NoughtSumsModel" "place" "I") (by decide +kernel)) (fun _ h9 => h9) rfl (by decide +kernel) rfl rfl (Nat.le_of_ble_eq_true rfl) dX3_advances_31 rfl (fun H locs hI => ?_)
        refine lv_aload_n hx hb dX3_advances_34 rfl (lv_at hl 0 rfl) ?_
        refine lv_aload_n hx hb dX3_advances_35 rfl (lv_at hl 0 rfl) ?_
        refine va_get (D := D) (ci := 3) (v := .int (m_next S_5)) (C := RX3) (T := TX3) (N := 27) hx hb hts hiX3 hown hK hI.1 0 rfl rfl 5 (by decide) (hts (.fieldLink RX3 98 "NoughtSumsModel" "next" "I") (by decide +kernel)) (fun _ h9 => h9) rfl dX3_advances_36 ?_
        obtain ⟨r_39, S_39, hf_39, hf⟩ := zB2_s hf
        refine z_callV (w2 := (wM cy ad S_39)) C 1 (kX3_byteAt l zq D cy ad (m_next S_5) (m_place_u S_5 (m_next S_5)) S_39 r_39 hf_39) gX3_advances_X3_byteAt rfl (by decide +kernel) ⟨by decide, by decide⟩ hI 0 rfl rfl rfl hl.1 rfl (Nat.le_of_ble_eq_true rfl) dX3_advances_39 ⟨by decide, by decide⟩ (st2 := [.int r_39]) rfl (fun H locs hI => ?_)
        refine lv_istore_n (lv' := [(1, .int r_39), (0, .ref (ad 0))]) hx hb dX3_advances_42 rfl hl (by decide) rfl (fun ls hl => ?_)
        refine lv_iload_n hx hb dX3_advances_43 rfl (lv_at hl 0 rfl) ?_
        refine lv_if_ge (tgt := 55) hx hb dX3_advances_44 (by decide) (fun c_44 => ?_) (fun c_44 => ?_)
        · replace hf := zIt c_44 hf
          refine lv_iload_n hx hb dX3_advances_55 rfl (lv_at hl 0 rfl) ?_
          refine lv_bipush (v := 97) hx hb dX3_advances_56 (by decide) ?_
          refine lv_bipush (v := 122) hx hb dX3_advances_58 (by decide) ?_
          obtain ⟨r_60, hf_60, hf⟩ := zB1_s hf
          refine z_callS C 3 (kX3_in l zq D r_39 (97 : Int32) (122 : Int32) r_60 hf_60) gX3_advances_X3_in rfl (by decide +kernel) ⟨by decide, by decide⟩ hI rfl hl.1 rfl (Nat.le_of_ble_eq_true rfl) dX3_advances_60 ⟨by decide, by decide⟩ (st2 := [.int r_60]) rfl (fun H locs hI => ?_)
          refine lv_if_eq (tgt := 113) hx hb dX3_advances_63 (by decide) (fun c_63 => ?_) (fun c_63 => ?_)
          · replace hf := zIt c_63 hf
            refine lv_iload_n hx hb dX3_advances_113 rfl (lv_at hl 0 rfl) ?_
            refine lv_bipush (v := 48) hx hb dX3_advances_114 (by decide) ?_
            refine lv_bipush (v := 57) hx hb dX3_advances_116 (by decide) ?_
            obtain ⟨r_118, hf_118, hf⟩ := zB1_s hf
            refine z_callS C 3 (kX3_in l zq D r_39 (48 : Int32) (57 : Int32) r_118 hf_118) gX3_advances_X3_in rfl (by decide +kernel) ⟨by decide, by decide⟩ hI rfl hl.1 rfl (Nat.le_of_ble_eq_true rfl) dX3_advances_118 ⟨by decide, by decide⟩ (st2 := [.int r_118]) rfl (fun H locs hI => ?_)
            refine lv_if_eq (tgt := 240) hx hb dX3_advances_121 (by decide) (fun c_121 => ?_) (fun c_121 => ?_)
            · replace hf := zIt c_121 hf
              refine lv_aload_n hx hb dX3_advances_240 rfl (lv_at hl 1 rfl) ?_
              refine lv_dup hx hb dX3_advances_241 rfl ?_
              refine va_get (D := D) (ci := 3) (v := .int (m_next S_39)) (C := RX3) (T := TX3) (N := 27) hx hb hts hiX3 hown hK hI.1 0 rfl rfl 5 (by decide) (hts (.fieldLink RX3 98 "NoughtSumsModel" "next" "I") (by decide +kernel)) (fun _ h9 => h9) rfl dX3_advances_242 ?_
              refine lv_iconst (v := 1) hx hb dX3_advances_245 (by decide) ?_
              refine lv_iadd hx hb dX3_advances_246 ?_
              refine z_put (D := D) (ci := 3) (v := .int ((m_next S_39) + (1 : Int32))) (ty := .int) (C := RX3) (T := TX3) (N := 27) (w2 := (wM cy ad (m_next_u S_39 ((m_next S_39) + (1 : Int32))))) hx hb hts hiX3 tyX3 tyX3_ok nmX3 hown hK hI 0 rfl rfl 5 (by decide) (hts (.fieldLink RX3 98 "NoughtSumsModel" "next" "I") (by decide +kernel)) (fun _ h9 => h9) rfl (by decide +kernel) rfl rfl (Nat.le_of_ble_eq_true rfl) dX3_advances_247 rfl (fun H locs hI => ?_)
              refine lv_aload_n hx hb dX3_advances_250 rfl (lv_at hl 1 rfl) ?_
              refine lv_iload_n hx hb dX3_advances_251 rfl (lv_at hl 0 rfl) ?_
              refine lv_bipush (v := 43) hx hb dX3_advances_252 (by decide) ?_
              refine lv_icmp_ne (tgt := 261) hx hb dX3_advances_254 (by decide) (fun c_254 => ?_) (fun c_254 => ?_)
              · replace hf := zIf c_254 hf
                refine lv_iload_n hx hb dX3_advances_261 rfl (lv_at hl 0 rfl) ?_
                refine lv_bipush (v := 59) hx hb dX3_advances_262 (by decide) ?_
                refine lv_icmp_ne (tgt := 271) hx hb dX3_advances_264 (by decide) (fun c_264 => ?_) (fun c_264 => ?_)
                · replace hf := zIf c_264 hf
                  refine lv_bipush (v := 6) hx hb dX3_advances_271 (by decide) ?_
                  refine z_put (D := D) (ci := 3) (v := .int (6 : Int32)) (ty := .int) (C := RX3) (T := TX3) (N := 27) (w2 := (wM cy ad (m_token_u (m_next_u S_39 ((m_next S_39) + (1 : Int32))) (6 : Int32)))) hx hb hts hiX3 tyX3 tyX3_ok nmX3 hown hK hI 0 rfl rfl 6 (by decide) (hts (.fieldLink RX3 88 "NoughtSumsModel" "token" "I") (by decide +kernel)) (fun _ h9 => h9) rfl (by decide +kernel) rfl rfl (Nat.le_of_ble_eq_true rfl) dX3_advances_273 rfl (fun H locs hI => ?_)
                  have h2 := zP1 hf
                  rw [hQ]
                  exact z_vret C (by rw [h2]; exact hI) rfl dX3_advances_276
                · replace hf := zIt c_264 hf
                  refine lv_iconst (v := 5) hx hb dX3_advances_267 (by decide) ?_
                  refine lv_goto (tgt := 273) hx hb dX3_advances_268 (by decide) ?_
                  refine z_put (D := D) (ci := 3) (v := .int (5 : Int32)) (ty := .int) (C := RX3) (T := TX3) (N := 27) (w2 := (wM cy ad (m_token_u (m_next_u S_39 ((m_next S_39) + (1 : Int32))) (5 : Int32)))) hx hb hts hiX3 tyX3 tyX3_ok nmX3 hown hK hI 0 rfl rfl 6 (by decide) (hts (.fieldLink RX3 88 "NoughtSumsModel" "token" "I") (by decide +kernel)) (fun _ h9 => h9) rfl (by decide +kernel) rfl rfl (Nat.le_of_ble_eq_true rfl) dX3_advances_273 rfl (fun H locs hI => ?_)
                  have h2 := zP1 hf
                  rw [hQ]
                  exact z_vret C (by rw [h2]; exact hI) rfl dX3_advances_276
              · replace hf := zIt c_254 hf
                refine lv_iconst (v := 4) hx hb dX3_advances_257 (by decide) ?_
                refine lv_goto (tgt := 273) hx hb dX3_advances_258 (by decide) ?_
                refine z_put (D := D) (ci := 3) (v := .int (4 : Int32)) (ty := .int) (C := RX3) (T := TX3) (N := 27) (w2 := (wM cy ad (m_token_u (m_next_u S_39 ((m_next S_39) + (1 : Int32))) (4 : Int32)))) hx hb hts hiX3 tyX3 tyX3_ok nmX3 hown hK hI 0 rfl rfl 6 (by decide) (hts (.fieldLink RX3 88 "NoughtSumsModel" "token" "I") (by decide +kernel)) (fun _ h9 => h9) rfl (by decide +kernel) rfl rfl (Nat.le_of_ble_eq_true rfl) dX3_advances_273 rfl (fun H locs hI => ?_)
                have h2 := zP1 hf
                rw [hQ]
                exact z_vret C (by rw [h2]; exact hI) rfl dX3_advances_276
            · replace hf := zIf c_121 hf
              refine lv_aload_n hx hb dX3_advances_124 rfl (lv_at hl 1 rfl) ?_
              refine lv_iconst (v := 0) hx hb dX3_advances_125 (by decide) ?_
              refine z_put (D := D) (ci := 3) (v := .int (0 : Int32)) (ty := .int) (C := RX3) (T := TX3) (N := 27) (w2 := (wM cy ad (m_value_u S_39 (0 : Int32)))) hx hb hts hiX3 tyX3 tyX3_ok nmX3 hown hK hI 0 rfl rfl 8 (by decide) (hts (.fieldLink RX3 91 "NoughtSumsModel" "value" "I") (by decide +kernel)) (fun _ h9 => h9) rfl (by decide +kernel) rfl rfl (Nat.le_of_ble_eq_true rfl) dX3_advances_126 rfl (fun H locs hI => ?_)
              exact hb129 zF r_39 (m_value_u S_39 (0 : Int32)) _ _ _ hf hI (lv_sub hl [1, 0] rfl)
          · replace hf := zIf c_63 hf
            exact hb66 zF S_39 _ _ _ hf hI (lv_sub hl [1] rfl)
        · replace hf := zIf c_44 hf
          refine lv_aload_n hx hb dX3_advances_47 rfl (lv_at hl 1 rfl) ?_
          refine lv_iconst (v := 0) hx hb dX3_advances_48 (by decide) ?_
          refine z_put (D := D) (ci := 3) (v := .int (0 : Int32)) (ty := .int) (C := RX3) (T := TX3) (N := 27) (w2 := (wM cy ad (m_token_u S_39 (0 : Int32)))) hx hb hts hiX3 tyX3 tyX3_ok nmX3 hown hK hI 0 rfl rfl 6 (by decide) (hts (.fieldLink RX3 88 "NoughtSumsModel" "token" "I") (by decide +kernel)) (fun _ h9 => h9) rfl (by decide +kernel) rfl rfl (Nat.le_of_ble_eq_true rfl) dX3_advances_49 rfl (fun H locs hI => ?_)
          refine lv_goto (tgt := 276) hx hb dX3_advances_52 (by decide) ?_
          have h2 := zP1 hf
          rw [hQ]
          exact z_vret C (by rw [h2]; exact hI) rfl dX3_advances_276
      · replace hf := zIt c_10 hf
        refine lv_aload_n hx hb dX3_advances_13 rfl (lv_at hl 0 rfl) ?_
        refine lv_dup hx hb dX3_advances_14 rfl ?_
        refine va_get (D := D) (ci := 3) (v := .int (m_next S_5)) (C := RX3) (T := TX3) (N := 27) hx hb hts hiX3 hown hK hI.1 0 rfl rfl 5 (by decide) (hts (.fieldLink RX3 98 "NoughtSumsModel" "next" "I") (by decide +kernel)) (fun _ h9 => h9) rfl dX3_advances_15 ?_
        refine lv_iconst (v := 1) hx hb dX3_advances_18 (by decide) ?_
        refine lv_iadd hx hb dX3_advances_19 ?_
        refine z_put (D := D) (ci := 3) (v := .int ((m_next S_5) + (1 : Int32))) (ty := .int) (C := RX3) (T := TX3) (N := 27) (w2 := (wM cy ad (m_next_u S_5 ((m_next S_5) + (1 : Int32))))) hx hb hts hiX3 tyX3 tyX3_ok nmX3 hown hK hI 0 rfl rfl 5 (by decide) (hts (.fieldLink RX3 98 "NoughtSumsModel" "next" "I") (by decide +kernel)) (fun _ h9 => h9) rfl (by decide +kernel) rfl rfl (Nat.le_of_ble_eq_true rfl) dX3_advances_20 rfl (fun H locs hI => ?_)
        refine lv_goto (tgt := 0) hx hb dX3_advances_23 (by decide) ?_
        exact ih (m_next_u S_5 ((m_next S_5) + (1 : Int32))) _ _ _ hf hI (lv_sub hl [0] rfl)
  unfold fX3_advances at hf
  refine lv_aload_n hx hb dX3_advances_0 rfl (lv_at hl 0 rfl) ?_
  refine lv_aload_n hx hb dX3_advances_1 rfl (lv_at hl 0 rfl) ?_
  refine va_get (D := D) (ci := 3) (v := .int (m_next S)) (C := RX3) (T := TX3) (N := 27) hx hb hts hiX3 hown hK hI.1 0 rfl rfl 5 (by decide) (hts (.fieldLink RX3 98 "NoughtSumsModel" "next" "I") (by decide +kernel)) (fun _ h9 => h9) rfl dX3_advances_2 ?_
  obtain ⟨r_5, S_5, hf_5, hf⟩ := zB2_s hf
  refine z_callV (w2 := (wM cy ad S_5)) C 1 (kX3_byteAt l zq D cy ad (m_next S) S S_5 r_5 hf_5) gX3_advances_X3_byteAt rfl (by decide +kernel) ⟨by decide, by decide⟩ hI 0 rfl rfl rfl hl.1 rfl (Nat.le_of_ble_eq_true rfl) dX3_advances_5 ⟨by decide, by decide⟩ (st2 := [.int r_5]) rfl (fun H locs hI => ?_)
  refine lv_bipush (v := 32) hx hb dX3_advances_8 (by decide) ?_
  refine lv_icmp_ne (tgt := 26) hx hb dX3_advances_10 (by decide) (fun c_10 => ?_) (fun c_10 => ?_)
  · replace hf := zIf c_10 hf
    refine lv_aload_n hx hb dX3_advances_26 rfl (lv_at hl 0 rfl) ?_
    refine lv_aload_n hx hb dX3_advances_27 rfl (lv_at hl 0 rfl) ?_
    refine va_get (D := D) (ci := 3) (v := .int (m_next S_5)) (C := RX3) (T := TX3) (N := 27) hx hb hts hiX3 hown hK hI.1 0 rfl rfl 5 (by decide) (hts (.fieldLink RX3 98 "NoughtSumsModel" "next" "I") (by decide +kernel)) (fun _ h9 => h9) rfl dX3_advances_28 ?_
    refine z_put (D := D) (ci := 3) (v := .int (m_next S_5)) (ty := .int) (C := RX3) (T := TX3) (N := 27) (w2 := (wM cy ad (m_place_u S_5 (m_next S_5)))) hx hb hts hiX3 tyX3 tyX3_ok nmX3 hown hK hI 0 rfl rfl 7 (by decide) (hts (.fieldLink RX3 85 "NoughtSumsModel" "place" "I") (by decide +kernel)) (fun _ h9 => h9) rfl (by decide +kernel) rfl rfl (Nat.le_of_ble_eq_true rfl) dX3_advances_31 rfl (fun H locs hI => ?_)
    refine lv_aload_n hx hb dX3_advances_34 rfl (lv_at hl 0 rfl) ?_
    refine lv_aload_n hx hb dX3_advances_35 rfl (lv_at hl 0 rfl) ?_
    refine va_get (D := D) (ci := 3) (v := .int (m_next S_5)) (C := RX3) (T := TX3) (N := 27) hx hb hts hiX3 hown hK hI.1 0 rfl rfl 5 (by decide) (hts (.fieldLink RX3 98 "NoughtSumsModel" "next" "I") (by decide +kernel)) (fun _ h9 => h9) rfl dX3_advances_36 ?_
    obtain ⟨r_39, S_39, hf_39, hf⟩ := zB2_s hf
    refine z_callV (w2 := (wM cy ad S_39)) C 1 (kX3_byteAt l zq D cy ad (m_next S_5) (m_place_u S_5 (m_next S_5)) S_39 r_39 hf_39) gX3_advances_X3_byteAt rfl (by decide +kernel) ⟨by decide, by decide⟩ hI 0 rfl rfl rfl hl.1 rfl (Nat.le_of_ble_eq_true rfl) dX3_advances_39 ⟨by decide, by decide⟩ (st2 := [.int r_39]) rfl (fun H locs hI => ?_)
    refine lv_istore_n (lv' := [(1, .int r_39), (0, .ref (ad 0))]) hx hb dX3_advances_42 rfl hl (by decide) rfl (fun ls hl => ?_)
    refine lv_iload_n hx hb dX3_advances_43 rfl (lv_at hl 0 rfl) ?_
    refine lv_if_ge (tgt := 55) hx hb dX3_advances_44 (by decide) (fun c_44 => ?_) (fun c_44 => ?_)
    · replace hf := zIt c_44 hf
      refine lv_iload_n hx hb dX3_advances_55 rfl (lv_at hl 0 rfl) ?_
      refine lv_bipush (v := 97) hx hb dX3_advances_56 (by decide) ?_
      refine lv_bipush (v := 122) hx hb dX3_advances_58 (by decide) ?_
      obtain ⟨r_60, hf_60, hf⟩ := zB1_s hf
      refine z_callS C 3 (kX3_in l zq D r_39 (97 : Int32) (122 : Int32) r_60 hf_60) gX3_advances_X3_in rfl (by decide +kernel) ⟨by decide, by decide⟩ hI rfl hl.1 rfl (Nat.le_of_ble_eq_true rfl) dX3_advances_60 ⟨by decide, by decide⟩ (st2 := [.int r_60]) rfl (fun H locs hI => ?_)
      refine lv_if_eq (tgt := 113) hx hb dX3_advances_63 (by decide) (fun c_63 => ?_) (fun c_63 => ?_)
      · replace hf := zIt c_63 hf
        refine lv_iload_n hx hb dX3_advances_113 rfl (lv_at hl 0 rfl) ?_
        refine lv_bipush (v := 48) hx hb dX3_advances_114 (by decide) ?_
        refine lv_bipush (v := 57) hx hb dX3_advances_116 (by decide) ?_
        obtain ⟨r_118, hf_118, hf⟩ := zB1_s hf
        refine z_callS C 3 (kX3_in l zq D r_39 (48 : Int32) (57 : Int32) r_118 hf_118) gX3_advances_X3_in rfl (by decide +kernel) ⟨by decide, by decide⟩ hI rfl hl.1 rfl (Nat.le_of_ble_eq_true rfl) dX3_advances_118 ⟨by decide, by decide⟩ (st2 := [.int r_118]) rfl (fun H locs hI => ?_)
        refine lv_if_eq (tgt := 240) hx hb dX3_advances_121 (by decide) (fun c_121 => ?_) (fun c_121 => ?_)
        · replace hf := zIt c_121 hf
          refine lv_aload_n hx hb dX3_advances_240 rfl (lv_at hl 1 rfl) ?_
          refine lv_dup hx hb dX3_advances_241 rfl ?_
          refine va_get (D := D) (ci := 3) (v := .int (m_next S_39)) (C := RX3) (T := TX3) (N := 27) hx hb hts hiX3 hown hK hI.1 0 rfl rfl 5 (by decide) (hts (.fieldLink RX3 98 "NoughtSumsModel" "next" "I") (by decide +kernel)) (fun _ h9 => h9) rfl dX3_advances_242 ?_
          refine lv_iconst (v := 1) hx hb dX3_advances_245 (by decide) ?_
          refine lv_iadd hx hb dX3_advances_246 ?_
          refine z_put (D := D) (ci := 3) (v := .int ((m_next S_39) + (1 : Int32))) (ty := .int) (C := RX3) (T := TX3) (N := 27) (w2 := (wM cy ad (m_next_u S_39 ((m_next S_39) + (1 : Int32))))) hx hb hts hiX3 tyX3 tyX3_ok nmX3 hown hK hI 0 rfl rfl 5 (by decide) (hts (.fieldLink RX3 98 "NoughtSumsModel" "next" "I") (by decide +kernel)) (fun _ h9 => h9) rfl (by decide +kernel) rfl rfl (Nat.le_of_ble_eq_true rfl) dX3_advances_247 rfl (fun H locs hI => ?_)
          refine lv_aload_n hx hb dX3_advances_250 rfl (lv_at hl 1 rfl) ?_
          refine lv_iload_n hx hb dX3_advances_251 rfl (lv_at hl 0 rfl) ?_
          refine lv_bipush (v := 43) hx hb dX3_advances_252 (by decide) ?_
          refine lv_icmp_ne (tgt := 261) hx hb dX3_advances_254 (by decide) (fun c_254 => ?_) (fun c_254 => ?_)
          · replace hf := zIf c_254 hf
            refine lv_iload_n hx hb dX3_advances_261 rfl (lv_at hl 0 rfl) ?_
            refine lv_bipush (v := 59) hx hb dX3_advances_262 (by decide) ?_
            refine lv_icmp_ne (tgt := 271) hx hb dX3_advances_264 (by decide) (fun c_264 => ?_) (fun c_264 => ?_)
            · replace hf := zIf c_264 hf
              refine lv_bipush (v := 6) hx hb dX3_advances_271 (by decide) ?_
              refine z_put (D := D) (ci := 3) (v := .int (6 : Int32)) (ty := .int) (C := RX3) (T := TX3) (N := 27) (w2 := (wM cy ad (m_token_u (m_next_u S_39 ((m_next S_39) + (1 : Int32))) (6 : Int32)))) hx hb hts hiX3 tyX3 tyX3_ok nmX3 hown hK hI 0 rfl rfl 6 (by decide) (hts (.fieldLink RX3 88 "NoughtSumsModel" "token" "I") (by decide +kernel)) (fun _ h9 => h9) rfl (by decide +kernel) rfl rfl (Nat.le_of_ble_eq_true rfl) dX3_advances_273 rfl (fun H locs hI => ?_)
              have h2 := zP1 hf
              rw [hQ]
              exact z_vret C (by rw [h2]; exact hI) rfl dX3_advances_276
            · replace hf := zIt c_264 hf
              refine lv_iconst (v := 5) hx hb dX3_advances_267 (by decide) ?_
              refine lv_goto (tgt := 273) hx hb dX3_advances_268 (by decide) ?_
              refine z_put (D := D) (ci := 3) (v := .int (5 : Int32)) (ty := .int) (C := RX3) (T := TX3) (N := 27) (w2 := (wM cy ad (m_token_u (m_next_u S_39 ((m_next S_39) + (1 : Int32))) (5 : Int32)))) hx hb hts hiX3 tyX3 tyX3_ok nmX3 hown hK hI 0 rfl rfl 6 (by decide) (hts (.fieldLink RX3 88 "NoughtSumsModel" "token" "I") (by decide +kernel)) (fun _ h9 => h9) rfl (by decide +kernel) rfl rfl (Nat.le_of_ble_eq_true rfl) dX3_advances_273 rfl (fun H locs hI => ?_)
              have h2 := zP1 hf
              rw [hQ]
              exact z_vret C (by rw [h2]; exact hI) rfl dX3_advances_276
          · replace hf := zIt c_254 hf
            refine lv_iconst (v := 4) hx hb dX3_advances_257 (by decide) ?_
            refine lv_goto (tgt := 273) hx hb dX3_advances_258 (by decide) ?_
            refine z_put (D := D) (ci := 3) (v := .int (4 : Int32)) (ty := .int) (C := RX3) (T := TX3) (N := 27) (w2 := (wM cy ad (m_token_u (m_next_u S_39 ((m_next S_39) + (1 : Int32))) (4 : Int32)))) hx hb hts hiX3 tyX3 tyX3_ok nmX3 hown hK hI 0 rfl rfl 6 (by decide) (hts (.fieldLink RX3 88 "NoughtSumsModel" "token" "I") (by decide +kernel)) (fun _ h9 => h9) rfl (by decide +kernel) rfl rfl (Nat.le_of_ble_eq_true rfl) dX3_advances_273 rfl (fun H locs hI => ?_)
            have h2 := zP1 hf
            rw [hQ]
            exact z_vret C (by rw [h2]; exact hI) rfl dX3_advances_276
        · replace hf := zIf c_121 hf
          refine lv_aload_n hx hb dX3_advances_124 rfl (lv_at hl 1 rfl) ?_
          refine lv_iconst (v := 0) hx hb dX3_advances_125 (by decide) ?_
          refine z_put (D := D) (ci := 3) (v := .int (0 : Int32)) (ty := .int) (C := RX3) (T := TX3) (N := 27) (w2 := (wM cy ad (m_value_u S_39 (0 : Int32)))) hx hb hts hiX3 tyX3 tyX3_ok nmX3 hown hK hI 0 rfl rfl 8 (by decide) (hts (.fieldLink RX3 91 "NoughtSumsModel" "value" "I") (by decide +kernel)) (fun _ h9 => h9) rfl (by decide +kernel) rfl rfl (Nat.le_of_ble_eq_true rfl) dX3_advances_126 rfl (fun H locs hI => ?_)
          exact hb129 zF r_39 (m_value_u S_39 (0 : Int32)) _ _ _ hf hI (lv_sub hl [1, 0] rfl)
      · replace hf := zIf c_63 hf
        exact hb66 zF S_39 _ _ _ hf hI (lv_sub hl [1] rfl)
    · replace hf := zIf c_44 hf
      refine lv_aload_n hx hb dX3_advances_47 rfl (lv_at hl 1 rfl) ?_
      refine lv_iconst (v := 0) hx hb dX3_advances_48 (by decide) ?_
      refine z_put (D := D) (ci := 3) (v := .int (0 : Int32)) (ty := .int) (C := RX3) (T := TX3) (N := 27) (w2 := (wM cy ad (m_token_u S_39 (0 : Int32)))) hx hb hts hiX3 tyX3 tyX3_ok nmX3 hown hK hI 0 rfl rfl 6 (by decide) (hts (.fieldLink RX3 88 "NoughtSumsModel" "token" "I") (by decide +kernel)) (fun _ h9 => h9) rfl (by decide +kernel) rfl rfl (Nat.le_of_ble_eq_true rfl) dX3_advances_49 rfl (fun H locs hI => ?_)
      refine lv_goto (tgt := 276) hx hb dX3_advances_52 (by decide) ?_
      have h2 := zP1 hf
      rw [hQ]
      exact z_vret C (by rw [h2]; exact hI) rfl dX3_advances_276
  · replace hf := zIt c_10 hf
    refine lv_aload_n hx hb dX3_advances_13 rfl (lv_at hl 0 rfl) ?_
    refine lv_dup hx hb dX3_advances_14 rfl ?_
    refine va_get (D := D) (ci := 3) (v := .int (m_next S_5)) (C := RX3) (T := TX3) (N := 27) hx hb hts hiX3 hown hK hI.1 0 rfl rfl 5 (by decide) (hts (.fieldLink RX3 98 "NoughtSumsModel" "next" "I") (by decide +kernel)) (fun _ h9 => h9) rfl dX3_advances_15 ?_
    refine lv_iconst (v := 1) hx hb dX3_advances_18 (by decide) ?_
    refine lv_iadd hx hb dX3_advances_19 ?_
    refine z_put (D := D) (ci := 3) (v := .int ((m_next S_5) + (1 : Int32))) (ty := .int) (C := RX3) (T := TX3) (N := 27) (w2 := (wM cy ad (m_next_u S_5 ((m_next S_5) + (1 : Int32))))) hx hb hts hiX3 tyX3 tyX3_ok nmX3 hown hK hI 0 rfl rfl 5 (by decide) (hts (.fieldLink RX3 98 "NoughtSumsModel" "next" "I") (by decide +kernel)) (fun _ h9 => h9) rfl (by decide +kernel) rfl rfl (Nat.le_of_ble_eq_true rfl) dX3_advances_20 rfl (fun H locs hI => ?_)
    refine lv_goto (tgt := 0) hx hb dX3_advances_23 (by decide) ?_
    exact hb0 zF (m_next_u S_5 ((m_next S_5) + (1 : Int32))) _ _ _ hf hI (lv_sub hl [0] rfl)

def fX3_isWell  (S : MS) : Option (Int32 × MS) :=
(if 0 ≤ (m_fault S) then some ((0 : Int32), S) else
some ((1 : Int32), S))
set_option maxHeartbeats 4000000 in
set_option maxRecDepth 100000 in
theorem kX3_isWell (l : Launch) (zq : Nat → Nat) (D : va_G) (cy : Nat → ClassId) (ad : Nat → Nat)  (S S' : MS) (r : Int32) (hf : fX3_isWell S = some (r, S')) : zMet l yX3_isWell wsX3_isWell 0 0 zq D (tM cy) (wM cy ad S) [.ref (ad 0)] (some (.int r)) (wM cy ad S') := by
  refine zMet.of cX3_isWell 1 (some .boolean) (by decide) rfl (Nat.le_of_ble_eq_true rfl) ?_
  intro p e s m args below meth c A ls C hl hI
  have hl : lv_has ls 1 [(0, .ref (ad 0))] := hl
  have C : zC p s m args meth c cX3_isWell 1 (some .boolean) RX3 wsX3_isWell D (tM cy) zq A := C
  obtain ⟨hx, hb, hml, hown, hts, hret, hlk, hK, hX, hA⟩ := id C
  have hiX3 : ∀ w ∈ wsX30, w ∈ wsX3_isWell := by decide +kernel
  obtain ⟨Q, hQ⟩ : ∃ Q, Q = MQ below (zQ D (tM cy) (wM cy ad S') (some (.int r)) A) args s 0 0 A := ⟨_, rfl⟩
  rw [← hQ]
  unfold fX3_isWell at hf
  refine lv_aload_n hx hb dX3_isWell_0 rfl (lv_at hl 0 rfl) ?_
  refine va_get (D := D) (ci := 3) (v := .int (m_fault S)) (C := RX3) (T := TX3) (N := 27) hx hb hts hiX3 hown hK hI.1 0 rfl rfl 9 (by decide) (hts (.fieldLink RX3 108 "NoughtSumsModel" "fault" "I") (by decide +kernel)) (fun _ h9 => h9) rfl dX3_isWell_1 ?_
  refine lv_if_ge (tgt := 11) hx hb dX3_isWell_4 (by decide) (fun c_4 => ?_) (fun c_4 => ?_)
  · replace hf := zIt c_4 hf
    refine lv_iconst (v := 0) hx hb dX3_isWell_11 (by decide) ?_
    obtain ⟨h1, h2⟩ := zP2 hf
    rw [hQ]
    exact z_zret C (by rw [h2]; exact hI) (by rw [h1]) rfl dX3_isWell_12
  · replace hf := zIf c_4 hf
    refine lv_iconst (v := 1) hx hb dX3_isWell_7 (by decide) ?_
    refine lv_goto (tgt := 12) hx hb dX3_isWell_8 (by decide) ?_
    obtain ⟨h1, h2⟩ := zP2 hf
    rw [hQ]
    exact z_zret C (by rw [h2]; exact hI) (by rw [h1]) rfl dX3_isWell_12

def fX3_takes (a1 : Int32) (S : MS) : Option (Int32 × MS) :=
(zB2 (fX3_isWell S) (fun r_1 S_1 =>
(if r_1 = 0 then some ((0 : Int32), S_1) else
(if a1 = 0 then some ((0 : Int32), (m_fault_u S_1 (m_place S_1))) else
(zB1 (fX3_advances S_1) (fun S_29 =>
some ((m_value S_1), S_29)))))))
set_option maxHeartbeats 4000000 in
set_option maxRecDepth 100000 in
theorem kX3_takes (l : Launch) (zq : Nat → Nat) (D : va_G) (cy : Nat → ClassId) (ad : Nat → Nat) (a1 : Int32) (S S' : MS) (r : Int32) (hf : fX3_takes a1 S = some (r, S')) : zMet l yX3_takes wsX3_takes 4 94 zq D (tM cy) (wM cy ad S) [.ref (ad 0), .int a1] (some (.int r)) (wM cy ad S') := by
  refine zMet.of cX3_takes 3 (some .int) (by decide) rfl (Nat.le_of_ble_eq_true rfl) ?_
  intro p e s m args below meth c A ls C hl hI
  have hl : lv_has ls 3 [(0, .ref (ad 0)), (1, .int a1)] := hl
  have C : zC p s m args meth c cX3_takes 3 (some .int) RX3 wsX3_takes D (tM cy) zq A := C
  obtain ⟨hx, hb, hml, hown, hts, hret, hlk, hK, hX, hA⟩ := id C
  have hiX3 : ∀ w ∈ wsX30, w ∈ wsX3_takes := by decide +kernel
  obtain ⟨Q, hQ⟩ : ∃ Q, Q = MQ below (zQ D (tM cy) (wM cy ad S') (some (.int r)) A) args s 0 0 A := ⟨_, rfl⟩
  rw [← hQ]
  unfold fX3_takes at hf
  refine lv_aload_n hx hb dX3_takes_0 rfl (lv_at hl 0 rfl) ?_
  obtain ⟨r_1, S_1, hf_1, hf⟩ := zB2_s hf
  refine z_callV (w2 := (wM cy ad S_1)) C 0 (kX3_isWell l zq D cy ad S S_1 r_1 hf_1) gX3_takes_X3_isWell rfl (by decide +kernel) ⟨by decide, by decide⟩ hI 0 rfl rfl rfl hl.1 rfl (Nat.le_of_ble_eq_true rfl) dX3_takes_1 ⟨by decide, by decide⟩ (st2 := [.int r_1]) rfl (fun H locs hI => ?_)
  refine lv_if_ne (tgt := 9) hx hb dX3_takes_4 (by decide) (fun c_4 => ?_) (fun c_4 => ?_)
  · replace hf := zIf c_4 hf
    refine lv_iload_n hx hb dX3_takes_9 rfl (lv_at hl 1 rfl) ?_
    refine lv_if_ne (tgt := 23) hx hb dX3_takes_10 (by decide) (fun c_10 => ?_) (fun c_10 => ?_)
    · replace hf := zIf c_10 hf
      refine lv_aload_n hx hb dX3_takes_23 rfl (lv_at hl 0 rfl) ?_
      refine va_get (D := D) (ci := 3) (v := .int (m_value S_1)) (C := RX3) (T := TX3) (N := 27) hx hb hts hiX3 hown hK hI.1 0 rfl rfl 8 (by decide) (hts (.fieldLink RX3 91 "NoughtSumsModel" "value" "I") (by decide +kernel)) (fun _ h9 => h9) rfl dX3_takes_24 ?_
      refine lv_istore_n (lv' := [(2, .int (m_value S_1)), (0, .ref (ad 0)), (1, .int a1)]) hx hb dX3_takes_27 rfl hl (by decide) rfl (fun ls hl => ?_)
      refine lv_aload_n hx hb dX3_takes_28 rfl (lv_at hl 1 rfl) ?_
      obtain ⟨S_29, hf_29, hf⟩ := zB1_s hf
      refine z_callV (w2 := (wM cy ad S_29)) C 0 (kX3_advances l zq D cy ad S_1 S_29 hf_29) gX3_takes_X3_advances rfl (by decide +kernel) ⟨by decide, by decide⟩ hI 0 rfl rfl rfl hl.1 rfl (Nat.le_of_ble_eq_true rfl) dX3_takes_29 ⟨by decide, by decide⟩ (st2 := []) rfl (fun H locs hI => ?_)
      refine lv_iload_n hx hb dX3_takes_32 rfl (lv_at hl 0 rfl) ?_
      obtain ⟨h1, h2⟩ := zP2 hf
      rw [hQ]
      exact z_iret C (by rw [h2]; exact hI) (by rw [h1]) dX3_takes_33
    · replace hf := zIt c_10 hf
      refine lv_aload_n hx hb dX3_takes_13 rfl (lv_at hl 0 rfl) ?_
      refine lv_aload_n hx hb dX3_takes_14 rfl (lv_at hl 0 rfl) ?_
      refine va_get (D := D) (ci := 3) (v := .int (m_place S_1)) (C := RX3) (T := TX3) (N := 27) hx hb hts hiX3 hown hK hI.1 0 rfl rfl 7 (by decide) (hts (.fieldLink RX3 85 "NoughtSumsModel" "place" "I") (by decide +kernel)) (fun _ h9 => h9) rfl dX3_takes_15 ?_
      refine z_put (D := D) (ci := 3) (v := .int (m_place S_1)) (ty := .int) (C := RX3) (T := TX3) (N := 27) (w2 := (wM cy ad (m_fault_u S_1 (m_place S_1)))) hx hb hts hiX3 tyX3 tyX3_ok nmX3 hown hK hI 0 rfl rfl 9 (by decide) (hts (.fieldLink RX3 108 "NoughtSumsModel" "fault" "I") (by decide +kernel)) (fun _ h9 => h9) rfl (by decide +kernel) rfl rfl (Nat.le_of_ble_eq_true rfl) dX3_takes_18 rfl (fun H locs hI => ?_)
      refine lv_iconst (v := 0) hx hb dX3_takes_21 (by decide) ?_
      obtain ⟨h1, h2⟩ := zP2 hf
      rw [hQ]
      exact z_iret C (by rw [h2]; exact hI) (by rw [h1]) dX3_takes_22
  · replace hf := zIt c_4 hf
    refine lv_iconst (v := 0) hx hb dX3_takes_7 (by decide) ?_
    obtain ⟨h1, h2⟩ := zP2 hf
    rw [hQ]
    exact z_iret C (by rw [h2]; exact hI) (by rw [h1]) dX3_takes_8

def fX3_begins  (S : MS) : Option MS :=
(zB1 (fX3_advances (m_next_u (m_fault_u S (-1 : Int32)) (0 : Int32))) (fun S_11 =>
some S_11))
set_option maxHeartbeats 4000000 in
set_option maxRecDepth 100000 in
theorem kX3_begins (l : Launch) (zq : Nat → Nat) (D : va_G) (cy : Nat → ClassId) (ad : Nat → Nat)  (S S' : MS) (hf : fX3_begins S = some S') : zMet l yX3_begins wsX3_begins 4 94 zq D (tM cy) (wM cy ad S) [.ref (ad 0)] none (wM cy ad S') := by
  refine zMet.of cX3_begins 1 none (by decide) rfl (Nat.le_of_ble_eq_true rfl) ?_
  intro p e s m args below meth c A ls C hl hI
  have hl : lv_has ls 1 [(0, .ref (ad 0))] := hl
  have C : zC p s m args meth c cX3_begins 1 none RX3 wsX3_begins D (tM cy) zq A := C
  obtain ⟨hx, hb, hml, hown, hts, hret, hlk, hK, hX, hA⟩ := id C
  have hiX3 : ∀ w ∈ wsX30, w ∈ wsX3_begins := by decide +kernel
  obtain ⟨Q, hQ⟩ : ∃ Q, Q = MQ below (zQ D (tM cy) (wM cy ad S') none A) args s 0 0 A := ⟨_, rfl⟩
  rw [← hQ]
  unfold fX3_begins at hf
  refine lv_aload_n hx hb dX3_begins_0 rfl (lv_at hl 0 rfl) ?_
  refine lv_iconst (v := -1) hx hb dX3_begins_1 (by decide) ?_
  refine z_put (D := D) (ci := 3) (v := .int (-1 : Int32)) (ty := .int) (C := RX3) (T := TX3) (N := 27) (w2 := (wM cy ad (m_fault_u S (-1 : Int32)))) hx hb hts hiX3 tyX3 tyX3_ok nmX3 hown hK hI 0 rfl rfl 9 (by decide) (hts (.fieldLink RX3 108 "NoughtSumsModel" "fault" "I") (by decide +kernel)) (fun _ h9 => h9) rfl (by decide +kernel) rfl rfl (Nat.le_of_ble_eq_true rfl) dX3_begins_2 rfl (fun H locs hI => ?_)
  refine lv_aload_n hx hb dX3_begins_5 rfl (lv_at hl 0 rfl) ?_
  refine lv_iconst (v := 0) hx hb dX3_begins_6 (by decide) ?_
  refine z_put (D := D) (ci := 3) (v := .int (0 : Int32)) (ty := .int) (C := RX3) (T := TX3) (N := 27) (w2 := (wM cy ad (m_next_u (m_fault_u S (-1 : Int32)) (0 : Int32)))) hx hb hts hiX3 tyX3 tyX3_ok nmX3 hown hK hI 0 rfl rfl 5 (by decide) (hts (.fieldLink RX3 98 "NoughtSumsModel" "next" "I") (by decide +kernel)) (fun _ h9 => h9) rfl (by decide +kernel) rfl rfl (Nat.le_of_ble_eq_true rfl) dX3_begins_7 rfl (fun H locs hI => ?_)
  refine lv_aload_n hx hb dX3_begins_10 rfl (lv_at hl 0 rfl) ?_
  obtain ⟨S_11, hf_11, hf⟩ := zB1_s hf
  refine z_callV (w2 := (wM cy ad S_11)) C 0 (kX3_advances l zq D cy ad (m_next_u (m_fault_u S (-1 : Int32)) (0 : Int32)) S_11 hf_11) gX3_begins_X3_advances rfl (by decide +kernel) ⟨by decide, by decide⟩ hI 0 rfl rfl rfl hl.1 rfl (Nat.le_of_ble_eq_true rfl) dX3_begins_11 ⟨by decide, by decide⟩ (st2 := []) rfl (fun H locs hI => ?_)
  have h2 := zP1 hf
  rw [hQ]
  exact z_vret C (by rw [h2]; exact hI) rfl dX3_begins_14

def fX3_readsSum_b128 (k4 : Int64 → Int32 → MS → Option (Int64 × MS)) (v1 : Int64) (v3 : Int32) (S : MS) : Option (Int64 × MS) :=
k4 v1 v3 S

def fX3_readsSum_b119 (k4 : Int64 → Int32 → MS → Option (Int64 × MS)) (v1 : Int64) (u0 : Int32) (S : MS) : Option (Int64 × MS) :=
(if u0 = 0 then fX3_readsSum_b128 k4 v1 u0 S else
(zB1 (fX3_advances S) (fun S_125 =>
fX3_readsSum_b128 k4 v1 u0 S_125)))

def fX3_readsSum_b118 (k4 : Int64 → Int32 → MS → Option (Int64 × MS)) (v1 : Int64) (S : MS) : Option (Int64 × MS) :=
fX3_readsSum_b119 k4 v1 (0 : Int32) S

def fX3_readsSum_b97 (k4 : Int64 → Int32 → MS → Option (Int64 × MS)) (u0 : Int64) (u1 : Int64) (S : MS) : Option (Int64 × MS) :=
(zB2 (fX3_isWell S) (fun r_100 S_100 =>
(if r_100 = 0 then fX3_readsSum_b118 k4 (u1 ^^^ u0) S_100 else
(if (m_token S_100) = (4 : Int32) then fX3_readsSum_b119 k4 (u1 ^^^ u0) (1 : Int32) S_100 else
fX3_readsSum_b118 k4 (u1 ^^^ u0) S_100))))

def fX3_readsSum_b57 (k4 : Int64 → Int32 → MS → Option (Int64 × MS)) (v1 : Int64) (v4 : Int32) (u0 : Int32) (S : MS) : Option (Int64 × MS) :=
(zB2 (fX3_takes u0 S) (fun r_57 S_57 =>
(zB2 (fX3_isWell S_57) (fun r_64 S_64 =>
(if r_64 = 0 then fX3_readsSum_b97 k4 (0 : Int64) v1 S_64 else
(if v4 = 0 then (if r_57 = (1 : Int32) then fX3_readsSum_b97 k4 (1 : Int64) v1 S_64 else
fX3_readsSum_b97 k4 (0 : Int64) v1 S_64) else
fX3_readsSum_b97 k4 ((1 : Int64) <<< (r_57.toInt64 &&& 63)) v1 S_64))))))

def fX3_readsSum_b56 (k4 : Int64 → Int32 → MS → Option (Int64 × MS)) (v1 : Int64) (v4 : Int32) (S : MS) : Option (Int64 × MS) :=
fX3_readsSum_b57 k4 v1 v4 (0 : Int32) S

def fX3_readsSum_b52 (k4 : Int64 → Int32 → MS → Option (Int64 × MS)) (v1 : Int64) (v4 : Int32) (S : MS) : Option (Int64 × MS) :=
fX3_readsSum_b57 k4 v1 v4 (1 : Int32) S

def fX3_readsSum_b28 (k4 : Int64 → Int32 → MS → Option (Int64 × MS)) (v1 : Int64) (u0 : Int32) (S : MS) : Option (Int64 × MS) :=
(if u0 = 0 then (if (m_token S) = (3 : Int32) then (if (2 : Int32) ≤ (m_value S) then fX3_readsSum_b56 k4 v1 u0 S else
fX3_readsSum_b52 k4 v1 u0 S) else
fX3_readsSum_b56 k4 v1 u0 S) else
fX3_readsSum_b52 k4 v1 u0 S)

def fX3_readsSum_b4 (k4 : Int64 → Int32 → MS → Option (Int64 × MS)) (v1 : Int64) (v3 : Int32) (S : MS) : Option (Int64 × MS) :=
(if v3 = 0 then some (v1, S) else
(zB2 (fX3_isWell S) (fun r_9 S_9 =>
(if r_9 = 0 then some (v1, S_9) else
(if (m_token S_9) = (1 : Int32) then fX3_readsSum_b28 k4 v1 (1 : Int32) S_9 else
fX3_readsSum_b28 k4 v1 (0 : Int32) S_9)))))
def fX3_readsSum_b4L : Nat → Int64 → Int32 → MS → Option (Int64 × MS)
  | 0, _, _, _ => none
  | n + 1, v1, v3, S => fX3_readsSum_b4 (fX3_readsSum_b4L n) v1 v3 S

def fX3_readsSum  (S : MS) : Option (Int64 × MS) :=
fX3_readsSum_b4L zF (0 : Int64) (1 : Int32) S
set_option maxHeartbeats 4000000 in
set_option maxRecDepth 100000 in
theorem kX3_readsSum (l : Launch) (zq : Nat → Nat) (D : va_G) (cy : Nat → ClassId) (ad : Nat → Nat)  (S S' : MS) (r : Int64) (hf : fX3_readsSum S = some (r, S')) : zMet l yX3_readsSum wsX3_readsSum 5 116 zq D (tM cy) (wM cy ad S) [.ref (ad 0)] (some (.long r)) (wM cy ad S') := by
  refine zMet.of cX3_readsSum 6 (some .long) (by decide) rfl (Nat.le_of_ble_eq_true rfl) ?_
  intro p e s m args below meth c A ls C hl hI
  have hl : lv_has ls 6 [(0, .ref (ad 0))] := hl
  have C : zC p s m args meth c cX3_readsSum 6 (some .long) RX3 wsX3_readsSum D (tM cy) zq A := C
  obtain ⟨hx, hb, hml, hown, hts, hret, hlk, hK, hX, hA⟩ := id C
  have hiX3 : ∀ w ∈ wsX30, w ∈ wsX3_readsSum := by decide +kernel
  obtain ⟨Q, hQ⟩ : ∃ Q, Q = MQ below (zQ D (tM cy) (wM cy ad S') (some (.long r)) A) args s 0 0 A := ⟨_, rfl⟩
  rw [← hQ]
  have hb128 : ∀ (k4 : Int64 → Int32 → MS → Option (Int64 × MS)) (hk4 : ∀ (v1 : Int64) (v3 : Int32) (S : MS) (H : Heap) (locs : List Loc) (ls : Array Slot), k4 v1 v3 S = some (r, S') → zI D A s H locs (wM cy ad S) → lv_has ls 6 [(0, .ref (ad 0)), (1, .long v1), (3, .int v3)] → W p l e { frames := 5, cells := 0, slots := 0, locals := 116 } s m args below meth c H locs 0 0 Q (F0 m 4 ls [])), ∀ (v1 : Int64) (v3 : Int32) (S : MS) (H : Heap) (locs : List Loc) (ls : Array Slot), fX3_readsSum_b128 k4 v1 v3 S = some (r, S') → zI D A s H locs (wM cy ad S) → lv_has ls 6 [(0, .ref (ad 0)), (1, .long v1), (3, .int v3)] → W p l e { frames := 5, cells := 0, slots := 0, locals := 116 } s m args below meth c H locs 0 0 Q (F0 m 128 ls []) := by
    intro k4 hk4 v1 v3 S H locs ls hf hI hl
    unfold fX3_readsSum_b128 at hf
    refine lv_goto (tgt := 4) hx hb dX3_readsSum_128 (by decide) ?_
    exact hk4 v1 v3 S _ _ _ hf hI (lv_sub hl [0, 1, 2] rfl)
  have hb119 : ∀ (k4 : Int64 → Int32 → MS → Option (Int64 × MS)) (hk4 : ∀ (v1 : Int64) (v3 : Int32) (S : MS) (H : Heap) (locs : List Loc) (ls : Array Slot), k4 v1 v3 S = some (r, S') → zI D A s H locs (wM cy ad S) → lv_has ls 6 [(0, .ref (ad 0)), (1, .long v1), (3, .int v3)] → W p l e { frames := 5, cells := 0, slots := 0, locals := 116 } s m args below meth c H locs 0 0 Q (F0 m 4 ls [])), ∀ (v1 : Int64) (u0 : Int32) (S : MS) (H : Heap) (locs : List Loc) (ls : Array Slot), fX3_readsSum_b119 k4 v1 u0 S = some (r, S') → zI D A s H locs (wM cy ad S) → lv_has ls 6 [(0, .ref (ad 0)), (1, .long v1)] → W p l e { frames := 5, cells := 0, slots := 0, locals := 116 } s m args below meth c H locs 0 0 Q (F0 m 119 ls [.int u0]) := by
    intro k4 hk4 v1 u0 S H locs ls hf hI hl
    unfold fX3_readsSum_b119 at hf
    refine lv_istore_n (lv' := [(3, .int u0), (0, .ref (ad 0)), (1, .long v1)]) hx hb dX3_readsSum_119 rfl hl (by decide) rfl (fun ls hl => ?_)
    refine lv_iload_n hx hb dX3_readsSum_120 rfl (lv_at hl 0 rfl) ?_
    refine lv_if_eq (tgt := 128) hx hb dX3_readsSum_121 (by decide) (fun c_121 => ?_) (fun c_121 => ?_)
    · replace hf := zIt c_121 hf
      exact hb128 k4 hk4 v1 u0 S _ _ _ hf hI (lv_sub hl [1, 2, 0] rfl)
    · replace hf := zIf c_121 hf
      refine lv_aload_n hx hb dX3_readsSum_124 rfl (lv_at hl 1 rfl) ?_
      obtain ⟨S_125, hf_125, hf⟩ := zB1_s hf
      refine z_callV (w2 := (wM cy ad S_125)) C 0 (kX3_advances l zq D cy ad S S_125 hf_125) gX3_readsSum_X3_advances rfl (by decide +kernel) ⟨by decide, by decide⟩ hI 0 rfl rfl rfl hl.1 rfl (Nat.le_of_ble_eq_true rfl) dX3_readsSum_125 ⟨by decide, by decide⟩ (st2 := []) rfl (fun H locs hI => ?_)
      exact hb128 k4 hk4 v1 u0 S_125 _ _ _ hf hI (lv_sub hl [1, 2, 0] rfl)
  have hb118 : ∀ (k4 : Int64 → Int32 → MS → Option (Int64 × MS)) (hk4 : ∀ (v1 : Int64) (v3 : Int32) (S : MS) (H : Heap) (locs : List Loc) (ls : Array Slot), k4 v1 v3 S = some (r, S') → zI D A s H locs (wM cy ad S) → lv_has ls 6 [(0, .ref (ad 0)), (1, .long v1), (3, .int v3)] → W p l e { frames := 5, cells := 0, slots := 0, locals := 116 } s m args below meth c H locs 0 0 Q (F0 m 4 ls [])), ∀ (v1 : Int64) (S : MS) (H : Heap) (locs : List Loc) (ls : Array Slot), fX3_readsSum_b118 k4 v1 S = some (r, S') → zI D A s H locs (wM cy ad S) → lv_has ls 6 [(0, .ref (ad 0)), (1, .long v1)] → W p l e { frames := 5, cells := 0, slots := 0, locals := 116 } s m args below meth c H locs 0 0 Q (F0 m 118 ls []) := by
    intro k4 hk4 v1 S H locs ls hf hI hl
    unfold fX3_readsSum_b118 at hf
    refine lv_iconst (v := 0) hx hb dX3_readsSum_118 (by decide) ?_
    exact hb119 k4 hk4 v1 (0 : Int32) S _ _ _ hf hI (lv_sub hl [0, 1] rfl)
  have hb97 : ∀ (k4 : Int64 → Int32 → MS → Option (Int64 × MS)) (hk4 : ∀ (v1 : Int64) (v3 : Int32) (S : MS) (H : Heap) (locs : List Loc) (ls : Array Slot), k4 v1 v3 S = some (r, S') → zI D A s H locs (wM cy ad S) → lv_has ls 6 [(0, .ref (ad 0)), (1, .long v1), (3, .int v3)] → W p l e { frames := 5, cells := 0, slots := 0, locals := 116 } s m args below meth c H locs 0 0 Q (F0 m 4 ls [])), ∀ (u0 : Int64) (u1 : Int64) (S : MS) (H : Heap) (locs : List Loc) (ls : Array Slot), fX3_readsSum_b97 k4 u0 u1 S = some (r, S') → zI D A s H locs (wM cy ad S) → lv_has ls 6 [(0, .ref (ad 0))] → W p l e { frames := 5, cells := 0, slots := 0, locals := 116 } s m args below meth c H locs 0 0 Q (F0 m 97 ls [.long u0, .long u1]) := by
    intro k4 hk4 u0 u1 S H locs ls hf hI hl
    unfold fX3_readsSum_b97 at hf
    refine lv_lxor hx hb dX3_readsSum_97 ?_
    refine lv_lstore_n (lv' := [(1, .long (u1 ^^^ u0)), (0, .ref (ad 0))]) hx hb dX3_readsSum_98 rfl hl (by decide) rfl (fun ls hl => ?_)
    refine lv_aload_n hx hb dX3_readsSum_99 rfl (lv_at hl 1 rfl) ?_
    obtain ⟨r_100, S_100, hf_100, hf⟩ := zB2_s hf
    refine z_callV (w2 := (wM cy ad S_100)) C 0 (kX3_isWell l zq D cy ad S S_100 r_100 hf_100) gX3_readsSum_X3_isWell rfl (by decide +kernel) ⟨by decide, by decide⟩ hI 0 rfl rfl rfl hl.1 rfl (Nat.le_of_ble_eq_true rfl) dX3_readsSum_100 ⟨by decide, by decide⟩ (st2 := [.int r_100]) rfl (fun H locs hI => ?_)
    refine lv_if_eq (tgt := 118) hx hb dX3_readsSum_103 (by decide) (fun c_103 => ?_) (fun c_103 => ?_)
    · replace hf := zIt c_103 hf
      exact hb118 k4 hk4 (u1 ^^^ u0) S_100 _ _ _ hf hI (lv_sub hl [1, 0] rfl)
    · replace hf := zIf c_103 hf
      refine lv_aload_n hx hb dX3_readsSum_106 rfl (lv_at hl 1 rfl) ?_
      refine va_get (D := D) (ci := 3) (v := .int (m_token S_100)) (C := RX3) (T := TX3) (N := 27) hx hb hts hiX3 hown hK hI.1 0 rfl rfl 6 (by decide) (hts (.fieldLink RX3 88 "NoughtSumsModel" "token" "I") (by decide +kernel)) (fun _ h9 => h9) rfl dX3_readsSum_107 ?_
      refine lv_iconst (v := 4) hx hb dX3_readsSum_110 (by decide) ?_
      refine lv_icmp_ne (tgt := 118) hx hb dX3_readsSum_111 (by decide) (fun c_111 => ?_) (fun c_111 => ?_)
      · replace hf := zIf c_111 hf
        exact hb118 k4 hk4 (u1 ^^^ u0) S_100 _ _ _ hf hI (lv_sub hl [1, 0] rfl)
      · replace hf := zIt c_111 hf
        refine lv_iconst (v := 1) hx hb dX3_readsSum_114 (by decide) ?_
        refine lv_goto (tgt := 119) hx hb dX3_readsSum_115 (by decide) ?_
        exact hb119 k4 hk4 (u1 ^^^ u0) (1 : Int32) S_100 _ _ _ hf hI (lv_sub hl [1, 0] rfl)
  have hb57 : ∀ (k4 : Int64 → Int32 → MS → Option (Int64 × MS)) (hk4 : ∀ (v1 : Int64) (v3 : Int32) (S : MS) (H : Heap) (locs : List Loc) (ls : Array Slot), k4 v1 v3 S = some (r, S') → zI D A s H locs (wM cy ad S) → lv_has ls 6 [(0, .ref (ad 0)), (1, .long v1), (3, .int v3)] → W p l e { frames := 5, cells := 0, slots := 0, locals := 116 } s m args below meth c H locs 0 0 Q (F0 m 4 ls [])), ∀ (v1 : Int64) (v4 : Int32) (u0 : Int32) (S : MS) (H : Heap) (locs : List Loc) (ls : Array Slot), fX3_readsSum_b57 k4 v1 v4 u0 S = some (r, S') → zI D A s H locs (wM cy ad S) → lv_has ls 6 [(0, .ref (ad 0)), (1, .long v1), (4, .int v4)] → W p l e { frames := 5, cells := 0, slots := 0, locals := 116 } s m args below meth c H locs 0 0 Q (F0 m 57 ls [.int u0, .ref (ad 0)]) := by
    intro k4 hk4 v1 v4 u0 S H locs ls hf hI hl
    unfold fX3_readsSum_b57 at hf
    obtain ⟨r_57, S_57, hf_57, hf⟩ := zB2_s hf
    refine z_callV (w2 := (wM cy ad S_57)) C 1 (kX3_takes l zq D cy ad u0 S S_57 r_57 hf_57) gX3_readsSum_X3_takes rfl (by decide +kernel) ⟨by decide, by decide⟩ hI 0 rfl rfl rfl hl.1 rfl (Nat.le_of_ble_eq_true rfl) dX3_readsSum_57 ⟨by decide, by decide⟩ (st2 := [.int r_57]) rfl (fun H locs hI => ?_)
    refine lv_istore (lv' := [(5, .int r_57), (0, .ref (ad 0)), (1, .long v1), (4, .int v4)]) hx hb dX3_readsSum_60 hl (by decide) rfl (fun ls hl => ?_)
    refine lv_lload_n hx hb dX3_readsSum_62 rfl (lv_at hl 2 rfl) ?_
    refine lv_aload_n hx hb dX3_readsSum_63 rfl (lv_at hl 1 rfl) ?_
    obtain ⟨r_64, S_64, hf_64, hf⟩ := zB2_s hf
    refine z_callV (w2 := (wM cy ad S_64)) C 0 (kX3_isWell l zq D cy ad S_57 S_64 r_64 hf_64) gX3_readsSum_X3_isWell rfl (by decide +kernel) ⟨by decide, by decide⟩ hI 0 rfl rfl rfl hl.1 rfl (Nat.le_of_ble_eq_true rfl) dX3_readsSum_64 ⟨by decide, by decide⟩ (st2 := [.int r_64, .long v1]) rfl (fun H locs hI => ?_)
    refine lv_if_ne (tgt := 74) hx hb dX3_readsSum_67 (by decide) (fun c_67 => ?_) (fun c_67 => ?_)
    · replace hf := zIf c_67 hf
      refine lv_iload hx hb dX3_readsSum_74 (lv_at hl 3 rfl) ?_
      refine lv_if_eq (tgt := 86) hx hb dX3_readsSum_76 (by decide) (fun c_76 => ?_) (fun c_76 => ?_)
      · replace hf := zIt c_76 hf
        refine lv_iload hx hb dX3_readsSum_86 (lv_at hl 0 rfl) ?_
        refine lv_iconst (v := 1) hx hb dX3_readsSum_88 (by decide) ?_
        refine lv_icmp_ne (tgt := 96) hx hb dX3_readsSum_89 (by decide) (fun c_89 => ?_) (fun c_89 => ?_)
        · replace hf := zIf c_89 hf
          refine lv_lconst (v := 0) hx hb dX3_readsSum_96 (by decide) ?_
          exact hb97 k4 hk4 (0 : Int64) v1 S_64 _ _ _ hf hI (lv_sub hl [1] rfl)
        · replace hf := zIt c_89 hf
          refine lv_lconst (v := 1) hx hb dX3_readsSum_92 (by decide) ?_
          refine lv_goto (tgt := 97) hx hb dX3_readsSum_93 (by decide) ?_
          exact hb97 k4 hk4 (1 : Int64) v1 S_64 _ _ _ hf hI (lv_sub hl [1] rfl)
      · replace hf := zIf c_76 hf
        refine lv_lconst (v := 1) hx hb dX3_readsSum_79 (by decide) ?_
        refine lv_iload hx hb dX3_readsSum_80 (lv_at hl 0 rfl) ?_
        refine lv_lshl hx hb dX3_readsSum_82 rfl ?_
        refine lv_goto (tgt := 97) hx hb dX3_readsSum_83 (by decide) ?_
        exact hb97 k4 hk4 ((1 : Int64) <<< (r_57.toInt64 &&& 63)) v1 S_64 _ _ _ hf hI (lv_sub hl [1] rfl)
    · replace hf := zIt c_67 hf
      refine lv_lconst (v := 0) hx hb dX3_readsSum_70 (by decide) ?_
      refine lv_goto (tgt := 97) hx hb dX3_readsSum_71 (by decide) ?_
      exact hb97 k4 hk4 (0 : Int64) v1 S_64 _ _ _ hf hI (lv_sub hl [1] rfl)
  have hb56 : ∀ (k4 : Int64 → Int32 → MS → Option (Int64 × MS)) (hk4 : ∀ (v1 : Int64) (v3 : Int32) (S : MS) (H : Heap) (locs : List Loc) (ls : Array Slot), k4 v1 v3 S = some (r, S') → zI D A s H locs (wM cy ad S) → lv_has ls 6 [(0, .ref (ad 0)), (1, .long v1), (3, .int v3)] → W p l e { frames := 5, cells := 0, slots := 0, locals := 116 } s m args below meth c H locs 0 0 Q (F0 m 4 ls [])), ∀ (v1 : Int64) (v4 : Int32) (S : MS) (H : Heap) (locs : List Loc) (ls : Array Slot), fX3_readsSum_b56 k4 v1 v4 S = some (r, S') → zI D A s H locs (wM cy ad S) → lv_has ls 6 [(0, .ref (ad 0)), (1, .long v1), (4, .int v4)] → W p l e { frames := 5, cells := 0, slots := 0, locals := 116 } s m args below meth c H locs 0 0 Q (F0 m 56 ls [.ref (ad 0)]) := by
    intro k4 hk4 v1 v4 S H locs ls hf hI hl
    unfold fX3_readsSum_b56 at hf
    refine lv_iconst (v := 0) hx hb dX3_readsSum_56 (by decide) ?_
    exact hb57 k4 hk4 v1 v4 (0 : Int32) S _ _ _ hf hI (lv_sub hl [0, 1, 2] rfl)
  have hb52 : ∀ (k4 : Int64 → Int32 → MS → Option (Int64 × MS)) (hk4 : ∀ (v1 : Int64) (v3 : Int32) (S : MS) (H : Heap) (locs : List Loc) (ls : Array Slot), k4 v1 v3 S = some (r, S') → zI D A s H locs (wM cy ad S) → lv_has ls 6 [(0, .ref (ad 0)), (1, .long v1), (3, .int v3)] → W p l e { frames := 5, cells := 0, slots := 0, locals := 116 } s m args below meth c H locs 0 0 Q (F0 m 4 ls [])), ∀ (v1 : Int64) (v4 : Int32) (S : MS) (H : Heap) (locs : List Loc) (ls : Array Slot), fX3_readsSum_b52 k4 v1 v4 S = some (r, S') → zI D A s H locs (wM cy ad S) → lv_has ls 6 [(0, .ref (ad 0)), (1, .long v1), (4, .int v4)] → W p l e { frames := 5, cells := 0, slots := 0, locals := 116 } s m args below meth c H locs 0 0 Q (F0 m 52 ls [.ref (ad 0)]) := by
    intro k4 hk4 v1 v4 S H locs ls hf hI hl
    unfold fX3_readsSum_b52 at hf
    refine lv_iconst (v := 1) hx hb dX3_readsSum_52 (by decide) ?_
    refine lv_goto (tgt := 57) hx hb dX3_readsSum_53 (by decide) ?_
    exact hb57 k4 hk4 v1 v4 (1 : Int32) S _ _ _ hf hI (lv_sub hl [0, 1, 2] rfl)
  have hb28 : ∀ (k4 : Int64 → Int32 → MS → Option (Int64 × MS)) (hk4 : ∀ (v1 : Int64) (v3 : Int32) (S : MS) (H : Heap) (locs : List Loc) (ls : Array Slot), k4 v1 v3 S = some (r, S') → zI D A s H locs (wM cy ad S) → lv_has ls 6 [(0, .ref (ad 0)), (1, .long v1), (3, .int v3)] → W p l e { frames := 5, cells := 0, slots := 0, locals := 116 } s m args below meth c H locs 0 0 Q (F0 m 4 ls [])), ∀ (v1 : Int64) (u0 : Int32) (S : MS) (H : Heap) (locs : List Loc) (ls : Array Slot), fX3_readsSum_b28 k4 v1 u0 S = some (r, S') → zI D A s H locs (wM cy ad S) → lv_has ls 6 [(0, .ref (ad 0)), (1, .long v1)] → W p l e { frames := 5, cells := 0, slots := 0, locals := 116 } s m args below meth c H locs 0 0 Q (F0 m 28 ls [.int u0]) := by
    intro k4 hk4 v1 u0 S H locs ls hf hI hl
    unfold fX3_readsSum_b28 at hf
    refine lv_istore (lv' := [(4, .int u0), (0, .ref (ad 0)), (1, .long v1)]) hx hb dX3_readsSum_28 hl (by decide) rfl (fun ls hl => ?_)
    refine lv_aload_n hx hb dX3_readsSum_30 rfl (lv_at hl 1 rfl) ?_
    refine lv_iload hx hb dX3_readsSum_31 (lv_at hl 0 rfl) ?_
    refine lv_if_ne (tgt := 52) hx hb dX3_readsSum_33 (by decide) (fun c_33 => ?_) (fun c_33 => ?_)
    · replace hf := zIf c_33 hf
      exact hb52 k4 hk4 v1 u0 S _ _ _ hf hI (lv_sub hl [1, 2, 0] rfl)
    · replace hf := zIt c_33 hf
      refine lv_aload_n hx hb dX3_readsSum_36 rfl (lv_at hl 1 rfl) ?_
      refine va_get (D := D) (ci := 3) (v := .int (m_token S)) (C := RX3) (T := TX3) (N := 27) hx hb hts hiX3 hown hK hI.1 0 rfl rfl 6 (by decide) (hts (.fieldLink RX3 88 "NoughtSumsModel" "token" "I") (by decide +kernel)) (fun _ h9 => h9) rfl dX3_readsSum_37 ?_
      refine lv_iconst (v := 3) hx hb dX3_readsSum_40 (by decide) ?_
      refine lv_icmp_ne (tgt := 56) hx hb dX3_readsSum_41 (by decide) (fun c_41 => ?_) (fun c_41 => ?_)
      · replace hf := zIf c_41 hf
        exact hb56 k4 hk4 v1 u0 S _ _ _ hf hI (lv_sub hl [1, 2, 0] rfl)
      · replace hf := zIt c_41 hf
        refine lv_aload_n hx hb dX3_readsSum_44 rfl (lv_at hl 1 rfl) ?_
        refine va_get (D := D) (ci := 3) (v := .int (m_value S)) (C := RX3) (T := TX3) (N := 27) hx hb hts hiX3 hown hK hI.1 0 rfl rfl 8 (by decide) (hts (.fieldLink RX3 91 "NoughtSumsModel" "value" "I") (by decide +kernel)) (fun _ h9 => h9) rfl dX3_readsSum_45 ?_
        refine lv_iconst (v := 2) hx hb dX3_readsSum_48 (by decide) ?_
        refine lv_icmp_ge (tgt := 56) hx hb dX3_readsSum_49 (by decide) (fun c_49 => ?_) (fun c_49 => ?_)
        · replace hf := zIt c_49 hf
          exact hb56 k4 hk4 v1 u0 S _ _ _ hf hI (lv_sub hl [1, 2, 0] rfl)
        · replace hf := zIf c_49 hf
          exact hb52 k4 hk4 v1 u0 S _ _ _ hf hI (lv_sub hl [1, 2, 0] rfl)
  have hb4 : ∀ (n : Nat), ∀ (v1 : Int64) (v3 : Int32) (S : MS) (H : Heap) (locs : List Loc) (ls : Array Slot), fX3_readsSum_b4L n v1 v3 S = some (r, S') → zI D A s H locs (wM cy ad S) → lv_has ls 6 [(0, .ref (ad 0)), (1, .long v1), (3, .int v3)] → W p l e { frames := 5, cells := 0, slots := 0, locals := 116 } s m args below meth c H locs 0 0 Q (F0 m 4 ls []) := by
    intro n
    induction n with
    | zero => intro v1 v3 S H locs ls hf; cases (show (none : Option (Int64 × MS)) = some (r, S') from hf)
    | succ n ih =>
      intro v1 v3 S H locs ls hf hI hl
      have hf : fX3_readsSum_b4 (fX3_readsSum_b4L n) v1 v3 S = some (r, S') := hf
      unfold fX3_readsSum_b4 at hf
      refine lv_iload_n hx hb dX3_readsSum_4 rfl (lv_at hl 2 rfl) ?_
      refine lv_if_eq (tgt := 131) hx hb dX3_readsSum_5 (by decide) (fun c_5 => ?_) (fun c_5 => ?_)
      · replace hf := zIt c_5 hf
        refine lv_lload_n hx hb dX3_readsSum_131 rfl (lv_at hl 1 rfl) ?_
        obtain ⟨h1, h2⟩ := zP2 hf
        rw [hQ]
        exact z_lret C (by rw [h2]; exact hI) (by rw [h1]) dX3_readsSum_132
      · replace hf := zIf c_5 hf
        refine lv_aload_n hx hb dX3_readsSum_8 rfl (lv_at hl 0 rfl) ?_
        obtain ⟨r_9, S_9, hf_9, hf⟩ := zB2_s hf
        refine z_callV (w2 := (wM cy ad S_9)) C 0 (kX3_isWell l zq D cy ad S S_9 r_9 hf_9) gX3_readsSum_X3_isWell rfl (by decide +kernel) ⟨by decide, by decide⟩ hI 0 rfl rfl rfl hl.1 rfl (Nat.le_of_ble_eq_true rfl) dX3_readsSum_9 ⟨by decide, by decide⟩ (st2 := [.int r_9]) rfl (fun H locs hI => ?_)
        refine lv_if_eq (tgt := 131) hx hb dX3_readsSum_12 (by decide) (fun c_12 => ?_) (fun c_12 => ?_)
        · replace hf := zIt c_12 hf
          refine lv_lload_n hx hb dX3_readsSum_131 rfl (lv_at hl 1 rfl) ?_
          obtain ⟨h1, h2⟩ := zP2 hf
          rw [hQ]
          exact z_lret C (by rw [h2]; exact hI) (by rw [h1]) dX3_readsSum_132
        · replace hf := zIf c_12 hf
          refine lv_aload_n hx hb dX3_readsSum_15 rfl (lv_at hl 0 rfl) ?_
          refine va_get (D := D) (ci := 3) (v := .int (m_token S_9)) (C := RX3) (T := TX3) (N := 27) hx hb hts hiX3 hown hK hI.1 0 rfl rfl 6 (by decide) (hts (.fieldLink RX3 88 "NoughtSumsModel" "token" "I") (by decide +kernel)) (fun _ h9 => h9) rfl dX3_readsSum_16 ?_
          refine lv_iconst (v := 1) hx hb dX3_readsSum_19 (by decide) ?_
          refine lv_icmp_ne (tgt := 27) hx hb dX3_readsSum_20 (by decide) (fun c_20 => ?_) (fun c_20 => ?_)
          · replace hf := zIf c_20 hf
            refine lv_iconst (v := 0) hx hb dX3_readsSum_27 (by decide) ?_
            exact hb28 (fX3_readsSum_b4L n) ih v1 (0 : Int32) S_9 _ _ _ hf hI (lv_sub hl [0, 1] rfl)
          · replace hf := zIt c_20 hf
            refine lv_iconst (v := 1) hx hb dX3_readsSum_23 (by decide) ?_
            refine lv_goto (tgt := 28) hx hb dX3_readsSum_24 (by decide) ?_
            exact hb28 (fX3_readsSum_b4L n) ih v1 (1 : Int32) S_9 _ _ _ hf hI (lv_sub hl [0, 1] rfl)
  unfold fX3_readsSum at hf
  refine lv_lconst (v := 0) hx hb dX3_readsSum_0 (by decide) ?_
  refine lv_lstore_n (lv' := [(1, .long (0 : Int64)), (0, .ref (ad 0))]) hx hb dX3_readsSum_1 rfl hl (by decide) rfl (fun ls hl => ?_)
  refine lv_iconst (v := 1) hx hb dX3_readsSum_2 (by decide) ?_
  refine lv_istore_n (lv' := [(3, .int (1 : Int32)), (1, .long (0 : Int64)), (0, .ref (ad 0))]) hx hb dX3_readsSum_3 rfl hl (by decide) rfl (fun ls hl => ?_)
  exact hb4 zF (0 : Int64) (1 : Int32) S _ _ _ hf hI (lv_sub hl [2, 1, 0] rfl)

def fX3_bears_b72 (k10 : Int64 → Int32 → MS → Option (Int64 × MS)) (v3 : Int64) (v5 : Int32) (S : MS) : Option (Int64 × MS) :=
k10 v3 (v5 + (1 : Int32)) S

def fX3_bears_b10 (k10 : Int64 → Int32 → MS → Option (Int64 × MS)) (v3 : Int64) (v5 : Int32) (S : MS) : Option (Int64 × MS) :=
(if (m_vectors S) ≤ v5 then some (v3, S) else
(zGI v5 64
((zGI v5 64
((zL (((m_vector S) v5.toNatClampNeg) &&& (-((m_vector S) v5.toNatClampNeg))) (fun n_35 =>
(if (lg_cmp (v3 &&& n_35) (0 : Int64)) = 0 then fX3_bears_b72 k10 v3 v5 S else
(zGI v5 64
((zGI v5 64
(fX3_bears_b72 k10 (v3 ^^^ ((m_vector S) v5.toNatClampNeg)) v5 (m_rests_u S ((m_rests S) ^^^ ((m_made0 S) v5.toNatClampNeg)))))))))))))))
def fX3_bears_b10L : Nat → Int64 → Int32 → MS → Option (Int64 × MS)
  | 0, _, _, _ => none
  | n + 1, v3, v5, S => fX3_bears_b10 (fX3_bears_b10L n) v3 v5 S

def fX3_bears (a1 : Int64) (S : MS) : Option (Int64 × MS) :=
fX3_bears_b10L zF a1 (0 : Int32) (m_rests_u S (0 : Int64))
set_option maxHeartbeats 4000000 in
set_option maxRecDepth 100000 in
theorem kX3_bears (l : Launch) (zq : Nat → Nat) (D : va_G) (cy : Nat → ClassId) (ad : Nat → Nat) (a1 : Int64) (S S' : MS) (r : Int64) (hf : fX3_bears a1 S = some (r, S')) : zMet l yX3_bears wsX3_bears 0 0 zq D (tM cy) (wM cy ad S) [.ref (ad 0), .long a1] (some (.long r)) (wM cy ad S') := by
  refine zMet.of cX3_bears 8 (some .long) (by decide) rfl (Nat.le_of_ble_eq_true rfl) ?_
  intro p e s m args below meth c A ls C hl hI
  have hl : lv_has ls 8 [(0, .ref (ad 0)), (1, .long a1)] := hl
  have C : zC p s m args meth c cX3_bears 8 (some .long) RX3 wsX3_bears D (tM cy) zq A := C
  obtain ⟨hx, hb, hml, hown, hts, hret, hlk, hK, hX, hA⟩ := id C
  have hiX3 : ∀ w ∈ wsX30, w ∈ wsX3_bears := by decide +kernel
  obtain ⟨Q, hQ⟩ : ∃ Q, Q = MQ below (zQ D (tM cy) (wM cy ad S') (some (.long r)) A) args s 0 0 A := ⟨_, rfl⟩
  rw [← hQ]
  have hb72 : ∀ (k10 : Int64 → Int32 → MS → Option (Int64 × MS)) (hk10 : ∀ (v3 : Int64) (v5 : Int32) (S : MS) (H : Heap) (locs : List Loc) (ls : Array Slot), k10 v3 v5 S = some (r, S') → zI D A s H locs (wM cy ad S) → lv_has ls 8 [(0, .ref (ad 0)), (3, .long v3), (5, .int v5)] → W p l e { frames := 0, cells := 0, slots := 0, locals := 0 } s m args below meth c H locs 0 0 Q (F0 m 10 ls [])), ∀ (v3 : Int64) (v5 : Int32) (S : MS) (H : Heap) (locs : List Loc) (ls : Array Slot), fX3_bears_b72 k10 v3 v5 S = some (r, S') → zI D A s H locs (wM cy ad S) → lv_has ls 8 [(0, .ref (ad 0)), (3, .long v3), (5, .int v5)] → W p l e { frames := 0, cells := 0, slots := 0, locals := 0 } s m args below meth c H locs 0 0 Q (F0 m 72 ls []) := by
    intro k10 hk10 v3 v5 S H locs ls hf hI hl
    unfold fX3_bears_b72 at hf
    refine lv_iinc (v := (v5 + (1 : Int32))) (lv' := [(5, .int (v5 + (1 : Int32))), (0, .ref (ad 0)), (3, .long v3)]) hx hb dX3_bears_72 hl (k := 2) rfl rfl (by decide) rfl (fun ls hl => ?_)
    refine lv_goto (tgt := 10) hx hb dX3_bears_75 (by decide) ?_
    exact hk10 v3 (v5 + (1 : Int32)) S _ _ _ hf hI (lv_sub hl [1, 2, 0] rfl)
  have hb10 : ∀ (n : Nat), ∀ (v3 : Int64) (v5 : Int32) (S : MS) (H : Heap) (locs : List Loc) (ls : Array Slot), fX3_bears_b10L n v3 v5 S = some (r, S') → zI D A s H locs (wM cy ad S) → lv_has ls 8 [(0, .ref (ad 0)), (3, .long v3), (5, .int v5)] → W p l e { frames := 0, cells := 0, slots := 0, locals := 0 } s m args below meth c H locs 0 0 Q (F0 m 10 ls []) := by
    intro n
    induction n with
    | zero => intro v3 v5 S H locs ls hf; cases (show (none : Option (Int64 × MS)) = some (r, S') from hf)
    | succ n ih =>
      intro v3 v5 S H locs ls hf hI hl
      have hf : fX3_bears_b10 (fX3_bears_b10L n) v3 v5 S = some (r, S') := hf
      unfold fX3_bears_b10 at hf
      refine lv_iload hx hb dX3_bears_10 (lv_at hl 2 rfl) ?_
      refine lv_aload_n hx hb dX3_bears_12 rfl (lv_at hl 0 rfl) ?_
      refine va_get (D := D) (ci := 3) (v := .int (m_vectors S)) (C := RX3) (T := TX3) (N := 27) hx hb hts hiX3 hown hK hI.1 0 rfl rfl 22 (by decide) (hts (.fieldLink RX3 164 "NoughtSumsModel" "vectors" "I") (by decide +kernel)) (fun _ h9 => h9) rfl dX3_bears_13 ?_
      refine lv_icmp_ge (tgt := 78) hx hb dX3_bears_16 (by decide) (fun c_16 => ?_) (fun c_16 => ?_)
      · replace hf := zIt c_16 hf
        refine lv_lload_n hx hb dX3_bears_78 rfl (lv_at hl 1 rfl) ?_
        obtain ⟨h1, h2⟩ := zP2 hf
        rw [hQ]
        exact z_lret C (by rw [h2]; exact hI) (by rw [h1]) dX3_bears_79
      · replace hf := zIf c_16 hf
        refine lv_aload_n hx hb dX3_bears_19 rfl (lv_at hl 0 rfl) ?_
        refine va_get (D := D) (ci := 3) (v := .ref (ad 7)) (C := RX3) (T := TX3) (N := 27) hx hb hts hiX3 hown hK hI.1 0 rfl rfl 20 (by decide) (hts (.fieldLink RX3 33 "NoughtSumsModel" "vector" "[J") (by decide +kernel)) (fun _ h9 => h9) rfl dX3_bears_20 ?_
        refine lv_iload hx hb dX3_bears_23 (lv_at hl 2 rfl) ?_
        obtain ⟨g_25, hf⟩ := zGI_s hf
        refine va_lald (f := (m_vector S)) hx hb hK hI.1 7 6 rfl rfl g_25 dX3_bears_25 ?_
        refine lv_aload_n hx hb dX3_bears_26 rfl (lv_at hl 0 rfl) ?_
        refine va_get (D := D) (ci := 3) (v := .ref (ad 7)) (C := RX3) (T := TX3) (N := 27) hx hb hts hiX3 hown hK hI.1 0 rfl rfl 20 (by decide) (hts (.fieldLink RX3 33 "NoughtSumsModel" "vector" "[J") (by decide +kernel)) (fun _ h9 => h9) rfl dX3_bears_27 ?_
        refine lv_iload hx hb dX3_bears_30 (lv_at hl 2 rfl) ?_
        obtain ⟨g_32, hf⟩ := zGI_s hf
        refine va_lald (f := (m_vector S)) hx hb hK hI.1 7 6 rfl rfl g_32 dX3_bears_32 ?_
        refine lv_lneg hx hb dX3_bears_33 ?_
        refine lv_land hx hb dX3_bears_34 ?_
        refine lv_topl (fun n_35 e_35 => ?_)
        replace hf := zL_s hf e_35
        refine lv_lstore (lv' := [(6, .long n_35), (0, .ref (ad 0)), (3, .long v3), (5, .int v5)]) hx hb dX3_bears_35 hl (by decide) rfl (fun ls hl => ?_)
        refine lv_lload_n hx hb dX3_bears_37 rfl (lv_at hl 2 rfl) ?_
        refine lv_lload hx hb dX3_bears_38 (lv_at hl 0 rfl) ?_
        refine lv_land hx hb dX3_bears_40 ?_
        refine lv_lconst (v := 0) hx hb dX3_bears_41 (by decide) ?_
        refine W.lcmp hx hb dX3_bears_42 ?_
        refine lv_if_eq (tgt := 72) hx hb dX3_bears_43 (by decide) (fun c_43 => ?_) (fun c_43 => ?_)
        · replace hf := zIt c_43 hf
          exact hb72 (fX3_bears_b10L n) ih v3 v5 S _ _ _ hf hI (lv_sub hl [1, 2, 3] rfl)
        · replace hf := zIf c_43 hf
          refine lv_lload_n hx hb dX3_bears_46 rfl (lv_at hl 2 rfl) ?_
          refine lv_aload_n hx hb dX3_bears_47 rfl (lv_at hl 1 rfl) ?_
          refine va_get (D := D) (ci := 3) (v := .ref (ad 7)) (C := RX3) (T := TX3) (N := 27) hx hb hts hiX3 hown hK hI.1 0 rfl rfl 20 (by decide) (hts (.fieldLink RX3 33 "NoughtSumsModel" "vector" "[J") (by decide +kernel)) (fun _ h9 => h9) rfl dX3_bears_48 ?_
          refine lv_iload hx hb dX3_bears_51 (lv_at hl 3 rfl) ?_
          obtain ⟨g_53, hf⟩ := zGI_s hf
          refine va_lald (f := (m_vector S)) hx hb hK hI.1 7 6 rfl rfl g_53 dX3_bears_53 ?_
          refine lv_lxor hx hb dX3_bears_54 ?_
          refine lv_lstore_n (lv' := [(3, .long (v3 ^^^ ((m_vector S) v5.toNatClampNeg))), (6, .long n_35), (0, .ref (ad 0)), (5, .int v5)]) hx hb dX3_bears_55 rfl hl (by decide) rfl (fun ls hl => ?_)
          refine lv_aload_n hx hb dX3_bears_56 rfl (lv_at hl 2 rfl) ?_
          refine lv_dup hx hb dX3_bears_57 rfl ?_
          refine va_get (D := D) (ci := 3) (v := .long (m_rests S)) (C := RX3) (T := TX3) (N := 27) hx hb hts hiX3 hown hK hI.1 0 rfl rfl 23 (by decide) (hts (.fieldLink RX3 160 "NoughtSumsModel" "rests" "J") (by decide +kernel)) (fun _ h9 => h9) rfl dX3_bears_58 ?_
          refine lv_aload_n hx hb dX3_bears_61 rfl (lv_at hl 2 rfl) ?_
          refine va_get (D := D) (ci := 3) (v := .ref (ad 8)) (C := RX3) (T := TX3) (N := 27) hx hb hts hiX3 hown hK hI.1 0 rfl rfl 21 (by decide) (hts (.fieldLink RX3 36 "NoughtSumsModel" "made0" "[J") (by decide +kernel)) (fun _ h9 => h9) rfl dX3_bears_62 ?_
          refine lv_iload hx hb dX3_bears_65 (lv_at hl 3 rfl) ?_
          obtain ⟨g_67, hf⟩ := zGI_s hf
          refine va_lald (f := (m_made0 S)) hx hb hK hI.1 8 7 rfl rfl g_67 dX3_bears_67 ?_
          refine lv_lxor hx hb dX3_bears_68 ?_
          refine z_put (D := D) (ci := 3) (v := .long ((m_rests S) ^^^ ((m_made0 S) v5.toNatClampNeg))) (ty := .long) (C := RX3) (T := TX3) (N := 27) (w2 := (wM cy ad (m_rests_u S ((m_rests S) ^^^ ((m_made0 S) v5.toNatClampNeg))))) hx hb hts hiX3 tyX3 tyX3_ok nmX3 hown hK hI 0 rfl rfl 23 (by decide) (hts (.fieldLink RX3 160 "NoughtSumsModel" "rests" "J") (by decide +kernel)) (fun _ h9 => h9) rfl (by decide +kernel) rfl rfl (Nat.le_of_ble_eq_true rfl) dX3_bears_69 rfl (fun H locs hI => ?_)
          exact hb72 (fX3_bears_b10L n) ih (v3 ^^^ ((m_vector S) v5.toNatClampNeg)) v5 (m_rests_u S ((m_rests S) ^^^ ((m_made0 S) v5.toNatClampNeg))) _ _ _ hf hI (lv_sub hl [2, 0, 3] rfl)
  unfold fX3_bears at hf
  refine lv_lload_n hx hb dX3_bears_0 rfl (lv_at hl 1 rfl) ?_
  refine lv_lstore_n (lv' := [(3, .long a1), (0, .ref (ad 0)), (1, .long a1)]) hx hb dX3_bears_1 rfl hl (by decide) rfl (fun ls hl => ?_)
  refine lv_aload_n hx hb dX3_bears_2 rfl (lv_at hl 1 rfl) ?_
  refine lv_lconst (v := 0) hx hb dX3_bears_3 (by decide) ?_
  refine z_put (D := D) (ci := 3) (v := .long (0 : Int64)) (ty := .long) (C := RX3) (T := TX3) (N := 27) (w2 := (wM cy ad (m_rests_u S (0 : Int64)))) hx hb hts hiX3 tyX3 tyX3_ok nmX3 hown hK hI 0 rfl rfl 23 (by decide) (hts (.fieldLink RX3 160 "NoughtSumsModel" "rests" "J") (by decide +kernel)) (fun _ h9 => h9) rfl (by decide +kernel) rfl rfl (Nat.le_of_ble_eq_true rfl) dX3_bears_4 rfl (fun H locs hI => ?_)
  refine lv_iconst (v := 0) hx hb dX3_bears_7 (by decide) ?_
  refine lv_istore (lv' := [(5, .int (0 : Int32)), (3, .long a1), (0, .ref (ad 0)), (1, .long a1)]) hx hb dX3_bears_8 hl (by decide) rfl (fun ls hl => ?_)
  exact hb10 zF a1 (0 : Int32) (m_rests_u S (0 : Int64)) _ _ _ hf hI (lv_sub hl [2, 1, 0] rfl)

def fX3_stands_b149 (k57 : Int32 → MS → Option MS) (v1 : Int32) (S : MS) : Option MS :=
k57 (v1 + (1 : Int32)) S

def fX3_stands_b57 (k57 : Int32 → MS → Option MS) (v1 : Int32) (S : MS) : Option MS :=
(if (64 : Int32) ≤ v1 then some S else
(zGI v1 64
((zB1 (fX3_values ((1 : Int64) <<< (((m_order S) v1.toNatClampNeg).toInt64 &&& 63))) (fun r_72 =>
(zB2 (fX3_bears (r_72 &&& (m_common S)) S) (fun r_80 S_80 =>
(if (lg_cmp r_80 (0 : Int64)) = 0 then fX3_stands_b149 k57 v1 S_80 else
(zGI v1 64
((zGI (m_vectors S_80) 64
((zGI v1 64
((zGI (m_vectors S_80) 64
(fX3_stands_b149 k57 v1 (m_vectors_u (m_made0_u (m_vector_u (m_standing_u S_80 ((m_standing S_80) ||| ((1 : Int64) <<< (((m_order S_80) v1.toNatClampNeg).toInt64 &&& 63)))) (vp_updL (m_vector S_80) (m_vectors S_80).toNatClampNeg r_80)) (vp_updL (m_made0 S_80) (m_vectors S_80).toNatClampNeg ((m_rests S_80) ^^^ ((1 : Int64) <<< (((m_order S_80) v1.toNatClampNeg).toInt64 &&& 63))))) ((m_vectors S_80) + (1 : Int32)))))))))))))))))))
def fX3_stands_b57L : Nat → Int32 → MS → Option MS
  | 0, _, _ => none
  | n + 1, v1, S => fX3_stands_b57 (fX3_stands_b57L n) v1 S

def fX3_stands_b9 (k9 : Int32 → MS → Option MS) (v1 : Int32) (S : MS) : Option MS :=
(if (m_given S) ≤ v1 then fX3_stands_b57L zF (0 : Int32) (m_vectors_u (m_standing_u S (0 : Int64)) (0 : Int32)) else
(zGI v1 32
((zB1 (fX3_values ((m_line S) v1.toNatClampNeg)) (fun r_28 =>
k9 (v1 + (1 : Int32)) (m_common_u S ((m_common S) &&& (r_28 ^^^ (-1 : Int64)))))))))
def fX3_stands_b9L : Nat → Int32 → MS → Option MS
  | 0, _, _ => none
  | n + 1, v1, S => fX3_stands_b9 (fX3_stands_b9L n) v1 S

def fX3_stands  (S : MS) : Option MS :=
fX3_stands_b9L zF (0 : Int32) (m_common_u S (-1 : Int64))
set_option maxHeartbeats 4000000 in
set_option maxRecDepth 100000 in
theorem kX3_stands (l : Launch) (zq : Nat → Nat) (D : va_G) (cy : Nat → ClassId) (ad : Nat → Nat)  (S S' : MS) (hf : fX3_stands S = some S') : zMet l yX3_stands wsX3_stands 2 49 zq D (tM cy) (wM cy ad S) [.ref (ad 0)] none (wM cy ad S') := by
  refine zMet.of cX3_stands 4 none (by decide) rfl (Nat.le_of_ble_eq_true rfl) ?_
  intro p e s m args below meth c A ls C hl hI
  have hl : lv_has ls 4 [(0, .ref (ad 0))] := hl
  have C : zC p s m args meth c cX3_stands 4 none RX3 wsX3_stands D (tM cy) zq A := C
  obtain ⟨hx, hb, hml, hown, hts, hret, hlk, hK, hX, hA⟩ := id C
  have hiX3 : ∀ w ∈ wsX30, w ∈ wsX3_stands := by decide +kernel
  obtain ⟨Q, hQ⟩ : ∃ Q, Q = MQ below (zQ D (tM cy) (wM cy ad S') none A) args s 0 0 A := ⟨_, rfl⟩
  rw [← hQ]
  have hb149 : ∀ (k57 : Int32 → MS → Option MS) (hk57 : ∀ (v1 : Int32) (S : MS) (H : Heap) (locs : List Loc) (ls : Array Slot), k57 v1 S = some S' → zI D A s H locs (wM cy ad S) → lv_has ls 4 [(0, .ref (ad 0)), (1, .int v1)] → W p l e { frames := 2, cells := 0, slots := 0, locals := 49 } s m args below meth c H locs 0 0 Q (F0 m 57 ls [])), ∀ (v1 : Int32) (S : MS) (H : Heap) (locs : List Loc) (ls : Array Slot), fX3_stands_b149 k57 v1 S = some S' → zI D A s H locs (wM cy ad S) → lv_has ls 4 [(0, .ref (ad 0)), (1, .int v1)] → W p l e { frames := 2, cells := 0, slots := 0, locals := 49 } s m args below meth c H locs 0 0 Q (F0 m 149 ls []) := by
    intro k57 hk57 v1 S H locs ls hf hI hl
    unfold fX3_stands_b149 at hf
    refine lv_iinc (v := (v1 + (1 : Int32))) (lv' := [(1, .int (v1 + (1 : Int32))), (0, .ref (ad 0))]) hx hb dX3_stands_149 hl (k := 1) rfl rfl (by decide) rfl (fun ls hl => ?_)
    refine lv_goto (tgt := 57) hx hb dX3_stands_152 (by decide) ?_
    exact hk57 (v1 + (1 : Int32)) S _ _ _ hf hI (lv_sub hl [1, 0] rfl)
  have hb57 : ∀ (n : Nat), ∀ (v1 : Int32) (S : MS) (H : Heap) (locs : List Loc) (ls : Array Slot), fX3_stands_b57L n v1 S = some S' → zI D A s H locs (wM cy ad S) → lv_has ls 4 [(0, .ref (ad 0)), (1, .int v1)] → W p l e { frames := 2, cells := 0, slots := 0, locals := 49 } s m args below meth c H locs 0 0 Q (F0 m 57 ls []) := by
    intro n
    induction n with
    | zero => intro v1 S H locs ls hf; cases (show (none : Option MS) = some S' from hf)
    | succ n ih =>
      intro v1 S H locs ls hf hI hl
      have hf : fX3_stands_b57 (fX3_stands_b57L n) v1 S = some S' := hf
      unfold fX3_stands_b57 at hf
      refine lv_iload_n hx hb dX3_stands_57 rfl (lv_at hl 1 rfl) ?_
      refine lv_bipush (v := 64) hx hb dX3_stands_58 (by decide) ?_
      refine lv_icmp_ge (tgt := 155) hx hb dX3_stands_60 (by decide) (fun c_60 => ?_) (fun c_60 => ?_)
      · replace hf := zIt c_60 hf
        have h2 := zP1 hf
        rw [hQ]
        exact z_vret C (by rw [h2]; exact hI) rfl dX3_stands_155
      · replace hf := zIf c_60 hf
        refine lv_aload_n hx hb dX3_stands_63 rfl (lv_at hl 0 rfl) ?_
        refine lv_lconst (v := 1) hx hb dX3_stands_64 (by decide) ?_
        refine lv_aload_n hx hb dX3_stands_65 rfl (lv_at hl 0 rfl) ?_
        refine va_get (D := D) (ci := 3) (v := .ref (ad 1)) (C := RX3) (T := TX3) (N := 27) hx hb hts hiX3 hown hK hI.1 0 rfl rfl 2 (by decide) (hts (.fieldLink RX3 7 "NoughtSumsModel" "order" "[I") (by decide +kernel)) (fun _ h9 => h9) rfl dX3_stands_66 ?_
        refine lv_iload_n hx hb dX3_stands_69 rfl (lv_at hl 1 rfl) ?_
        obtain ⟨g_70, hf⟩ := zGI_s hf
        refine va_iald (f := (m_order S)) hx hb hK hI.1 1 0 rfl rfl g_70 dX3_stands_70 ?_
        refine lv_lshl hx hb dX3_stands_71 rfl ?_
        obtain ⟨r_72, hf_72, hf⟩ := zB1_s hf
        refine z_callS C 1 (kX3_values l zq D ((1 : Int64) <<< (((m_order S) v1.toNatClampNeg).toInt64 &&& 63)) r_72 hf_72) gX3_stands_X3_values rfl (by decide +kernel) ⟨by decide, by decide⟩ hI rfl hl.1 rfl (Nat.le_of_ble_eq_true rfl) dX3_stands_72 ⟨by decide, by decide⟩ (st2 := [.long r_72, .ref (ad 0)]) rfl (fun H locs hI => ?_)
        refine lv_aload_n hx hb dX3_stands_75 rfl (lv_at hl 0 rfl) ?_
        refine va_get (D := D) (ci := 3) (v := .long (m_common S)) (C := RX3) (T := TX3) (N := 27) hx hb hts hiX3 hown hK hI.1 0 rfl rfl 18 (by decide) (hts (.fieldLink RX3 169 "NoughtSumsModel" "common" "J") (by decide +kernel)) (fun _ h9 => h9) rfl dX3_stands_76 ?_
        refine lv_land hx hb dX3_stands_79 ?_
        obtain ⟨r_80, S_80, hf_80, hf⟩ := zB2_s hf
        refine z_callV (w2 := (wM cy ad S_80)) C 1 (kX3_bears l zq D cy ad (r_72 &&& (m_common S)) S S_80 r_80 hf_80) gX3_stands_X3_bears rfl (by decide +kernel) ⟨by decide, by decide⟩ hI 0 rfl rfl rfl hl.1 rfl (Nat.le_of_ble_eq_true rfl) dX3_stands_80 ⟨by decide, by decide⟩ (st2 := [.long r_80]) rfl (fun H locs hI => ?_)
        refine lv_lstore_n (lv' := [(2, .long r_80), (0, .ref (ad 0)), (1, .int v1)]) hx hb dX3_stands_83 rfl hl (by decide) rfl (fun ls hl => ?_)
        refine lv_lload_n hx hb dX3_stands_84 rfl (lv_at hl 0 rfl) ?_
        refine lv_lconst (v := 0) hx hb dX3_stands_85 (by decide) ?_
        refine W.lcmp hx hb dX3_stands_86 ?_
        refine lv_if_eq (tgt := 149) hx hb dX3_stands_87 (by decide) (fun c_87 => ?_) (fun c_87 => ?_)
        · replace hf := zIt c_87 hf
          exact hb149 (fX3_stands_b57L n) ih v1 S_80 _ _ _ hf hI (lv_sub hl [1, 2] rfl)
        · replace hf := zIf c_87 hf
          refine lv_aload_n hx hb dX3_stands_90 rfl (lv_at hl 1 rfl) ?_
          refine lv_dup hx hb dX3_stands_91 rfl ?_
          refine va_get (D := D) (ci := 3) (v := .long (m_standing S_80)) (C := RX3) (T := TX3) (N := 27) hx hb hts hiX3 hown hK hI.1 0 rfl rfl 19 (by decide) (hts (.fieldLink RX3 172 "NoughtSumsModel" "standing" "J") (by decide +kernel)) (fun _ h9 => h9) rfl dX3_stands_92 ?_
          refine lv_lconst (v := 1) hx hb dX3_stands_95 (by decide) ?_
          refine lv_aload_n hx hb dX3_stands_96 rfl (lv_at hl 1 rfl) ?_
          refine va_get (D := D) (ci := 3) (v := .ref (ad 1)) (C := RX3) (T := TX3) (N := 27) hx hb hts hiX3 hown hK hI.1 0 rfl rfl 2 (by decide) (hts (.fieldLink RX3 7 "NoughtSumsModel" "order" "[I") (by decide +kernel)) (fun _ h9 => h9) rfl dX3_stands_97 ?_
          refine lv_iload_n hx hb dX3_stands_100 rfl (lv_at hl 2 rfl) ?_
          obtain ⟨g_101, hf⟩ := zGI_s hf
          refine va_iald (f := (m_order S_80)) hx hb hK hI.1 1 0 rfl rfl g_101 dX3_stands_101 ?_
          refine lv_lshl hx hb dX3_stands_102 rfl ?_
          refine lv_lor hx hb dX3_stands_103 ?_
          refine z_put (D := D) (ci := 3) (v := .long ((m_standing S_80) ||| ((1 : Int64) <<< (((m_order S_80) v1.toNatClampNeg).toInt64 &&& 63)))) (ty := .long) (C := RX3) (T := TX3) (N := 27) (w2 := (wM cy ad (m_standing_u S_80 ((m_standing S_80) ||| ((1 : Int64) <<< (((m_order S_80) v1.toNatClampNeg).toInt64 &&& 63)))))) hx hb hts hiX3 tyX3 tyX3_ok nmX3 hown hK hI 0 rfl rfl 19 (by decide) (hts (.fieldLink RX3 172 "NoughtSumsModel" "standing" "J") (by decide +kernel)) (fun _ h9 => h9) rfl (by decide +kernel) rfl rfl (Nat.le_of_ble_eq_true rfl) dX3_stands_104 rfl (fun H locs hI => ?_)
          refine lv_aload_n hx hb dX3_stands_107 rfl (lv_at hl 1 rfl) ?_
          refine va_get (D := D) (ci := 3) (v := .ref (ad 7)) (C := RX3) (T := TX3) (N := 27) hx hb hts hiX3 hown hK hI.1 0 rfl rfl 20 (by decide) (hts (.fieldLink RX3 33 "NoughtSumsModel" "vector" "[J") (by decide +kernel)) (fun _ h9 => h9) rfl dX3_stands_108 ?_
          refine lv_aload_n hx hb dX3_stands_111 rfl (lv_at hl 1 rfl) ?_
          refine va_get (D := D) (ci := 3) (v := .int (m_vectors S_80)) (C := RX3) (T := TX3) (N := 27) hx hb hts hiX3 hown hK hI.1 0 rfl rfl 22 (by decide) (hts (.fieldLink RX3 164 "NoughtSumsModel" "vectors" "I") (by decide +kernel)) (fun _ h9 => h9) rfl dX3_stands_112 ?_
          refine lv_lload_n hx hb dX3_stands_115 rfl (lv_at hl 0 rfl) ?_
          obtain ⟨g_116, hf⟩ := zGI_s hf
          refine z_last (f := (m_vector S_80)) (w2 := (wM cy ad (m_vector_u (m_standing_u S_80 ((m_standing S_80) ||| ((1 : Int64) <<< (((m_order S_80) v1.toNatClampNeg).toInt64 &&& 63)))) (vp_updL (m_vector S_80) (m_vectors S_80).toNatClampNeg r_80)))) hx hb hK hI 7 6 rfl rfl g_116 dX3_stands_116 rfl (fun H locs hI => ?_)
          refine lv_aload_n hx hb dX3_stands_117 rfl (lv_at hl 1 rfl) ?_
          refine va_get (D := D) (ci := 3) (v := .ref (ad 8)) (C := RX3) (T := TX3) (N := 27) hx hb hts hiX3 hown hK hI.1 0 rfl rfl 21 (by decide) (hts (.fieldLink RX3 36 "NoughtSumsModel" "made0" "[J") (by decide +kernel)) (fun _ h9 => h9) rfl dX3_stands_118 ?_
          refine lv_aload_n hx hb dX3_stands_121 rfl (lv_at hl 1 rfl) ?_
          refine va_get (D := D) (ci := 3) (v := .int (m_vectors S_80)) (C := RX3) (T := TX3) (N := 27) hx hb hts hiX3 hown hK hI.1 0 rfl rfl 22 (by decide) (hts (.fieldLink RX3 164 "NoughtSumsModel" "vectors" "I") (by decide +kernel)) (fun _ h9 => h9) rfl dX3_stands_122 ?_
          refine lv_aload_n hx hb dX3_stands_125 rfl (lv_at hl 1 rfl) ?_
          refine va_get (D := D) (ci := 3) (v := .long (m_rests S_80)) (C := RX3) (T := TX3) (N := 27) hx hb hts hiX3 hown hK hI.1 0 rfl rfl 23 (by decide) (hts (.fieldLink RX3 160 "NoughtSumsModel" "rests" "J") (by decide +kernel)) (fun _ h9 => h9) rfl dX3_stands_126 ?_
          refine lv_lconst (v := 1) hx hb dX3_stands_129 (by decide) ?_
          refine lv_aload_n hx hb dX3_stands_130 rfl (lv_at hl 1 rfl) ?_
          refine va_get (D := D) (ci := 3) (v := .ref (ad 1)) (C := RX3) (T := TX3) (N := 27) hx hb hts hiX3 hown hK hI.1 0 rfl rfl 2 (by decide) (hts (.fieldLink RX3 7 "NoughtSumsModel" "order" "[I") (by decide +kernel)) (fun _ h9 => h9) rfl dX3_stands_131 ?_
          refine lv_iload_n hx hb dX3_stands_134 rfl (lv_at hl 2 rfl) ?_
          obtain ⟨g_135, hf⟩ := zGI_s hf
          refine va_iald (f := (m_order S_80)) hx hb hK hI.1 1 0 rfl rfl g_135 dX3_stands_135 ?_
          refine lv_lshl hx hb dX3_stands_136 rfl ?_
          refine lv_lxor hx hb dX3_stands_137 ?_
          obtain ⟨g_138, hf⟩ := zGI_s hf
          refine z_last (f := (m_made0 S_80)) (w2 := (wM cy ad (m_made0_u (m_vector_u (m_standing_u S_80 ((m_standing S_80) ||| ((1 : Int64) <<< (((m_order S_80) v1.toNatClampNeg).toInt64 &&& 63)))) (vp_updL (m_vector S_80) (m_vectors S_80).toNatClampNeg r_80)) (vp_updL (m_made0 S_80) (m_vectors S_80).toNatClampNeg ((m_rests S_80) ^^^ ((1 : Int64) <<< (((m_order S_80) v1.toNatClampNeg).toInt64 &&& 63))))))) hx hb hK hI 8 7 rfl rfl g_138 dX3_stands_138 rfl (fun H locs hI => ?_)
          refine lv_aload_n hx hb dX3_stands_139 rfl (lv_at hl 1 rfl) ?_
          refine lv_dup hx hb dX3_stands_140 rfl ?_
          refine va_get (D := D) (ci := 3) (v := .int (m_vectors S_80)) (C := RX3) (T := TX3) (N := 27) hx hb hts hiX3 hown hK hI.1 0 rfl rfl 22 (by decide) (hts (.fieldLink RX3 164 "NoughtSumsModel" "vectors" "I") (by decide +kernel)) (fun _ h9 => h9) rfl dX3_stands_141 ?_
          refine lv_iconst (v := 1) hx hb dX3_stands_144 (by decide) ?_
          refine lv_iadd hx hb dX3_stands_145 ?_
          refine z_put (D := D) (ci := 3) (v := .int ((m_vectors S_80) + (1 : Int32))) (ty := .int) (C := RX3) (T := TX3) (N := 27) (w2 := (wM cy ad (m_vectors_u (m_made0_u (m_vector_u (m_standing_u S_80 ((m_standing S_80) ||| ((1 : Int64) <<< (((m_order S_80) v1.toNatClampNeg).toInt64 &&& 63)))) (vp_updL (m_vector S_80) (m_vectors S_80).toNatClampNeg r_80)) (vp_updL (m_made0 S_80) (m_vectors S_80).toNatClampNeg ((m_rests S_80) ^^^ ((1 : Int64) <<< (((m_order S_80) v1.toNatClampNeg).toInt64 &&& 63))))) ((m_vectors S_80) + (1 : Int32))))) hx hb hts hiX3 tyX3 tyX3_ok nmX3 hown hK hI 0 rfl rfl 22 (by decide) (hts (.fieldLink RX3 164 "NoughtSumsModel" "vectors" "I") (by decide +kernel)) (fun _ h9 => h9) rfl (by decide +kernel) rfl rfl (Nat.le_of_ble_eq_true rfl) dX3_stands_146 rfl (fun H locs hI => ?_)
          exact hb149 (fX3_stands_b57L n) ih v1 (m_vectors_u (m_made0_u (m_vector_u (m_standing_u S_80 ((m_standing S_80) ||| ((1 : Int64) <<< (((m_order S_80) v1.toNatClampNeg).toInt64 &&& 63)))) (vp_updL (m_vector S_80) (m_vectors S_80).toNatClampNeg r_80)) (vp_updL (m_made0 S_80) (m_vectors S_80).toNatClampNeg ((m_rests S_80) ^^^ ((1 : Int64) <<< (((m_order S_80) v1.toNatClampNeg).toInt64 &&& 63))))) ((m_vectors S_80) + (1 : Int32))) _ _ _ hf hI (lv_sub hl [1, 2] rfl)
  have hb9 : ∀ (n : Nat), ∀ (v1 : Int32) (S : MS) (H : Heap) (locs : List Loc) (ls : Array Slot), fX3_stands_b9L n v1 S = some S' → zI D A s H locs (wM cy ad S) → lv_has ls 4 [(0, .ref (ad 0)), (1, .int v1)] → W p l e { frames := 2, cells := 0, slots := 0, locals := 49 } s m args below meth c H locs 0 0 Q (F0 m 9 ls []) := by
    intro n
    induction n with
    | zero => intro v1 S H locs ls hf; cases (show (none : Option MS) = some S' from hf)
    | succ n ih =>
      intro v1 S H locs ls hf hI hl
      have hf : fX3_stands_b9 (fX3_stands_b9L n) v1 S = some S' := hf
      unfold fX3_stands_b9 at hf
      refine lv_iload_n hx hb dX3_stands_9 rfl (lv_at hl 1 rfl) ?_
      refine lv_aload_n hx hb dX3_stands_10 rfl (lv_at hl 0 rfl) ?_
      refine va_get (D := D) (ci := 3) (v := .int (m_given S)) (C := RX3) (T := TX3) (N := 27) hx hb hts hiX3 hown hK hI.1 0 rfl rfl 10 (by decide) (hts (.fieldLink RX3 129 "NoughtSumsModel" "given" "I") (by decide +kernel)) (fun _ h9 => h9) rfl dX3_stands_11 ?_
      refine lv_icmp_ge (tgt := 45) hx hb dX3_stands_14 (by decide) (fun c_14 => ?_) (fun c_14 => ?_)
      · replace hf := zIt c_14 hf
        refine lv_aload_n hx hb dX3_stands_45 rfl (lv_at hl 0 rfl) ?_
        refine lv_lconst (v := 0) hx hb dX3_stands_46 (by decide) ?_
        refine z_put (D := D) (ci := 3) (v := .long (0 : Int64)) (ty := .long) (C := RX3) (T := TX3) (N := 27) (w2 := (wM cy ad (m_standing_u S (0 : Int64)))) hx hb hts hiX3 tyX3 tyX3_ok nmX3 hown hK hI 0 rfl rfl 19 (by decide) (hts (.fieldLink RX3 172 "NoughtSumsModel" "standing" "J") (by decide +kernel)) (fun _ h9 => h9) rfl (by decide +kernel) rfl rfl (Nat.le_of_ble_eq_true rfl) dX3_stands_47 rfl (fun H locs hI => ?_)
        refine lv_aload_n hx hb dX3_stands_50 rfl (lv_at hl 0 rfl) ?_
        refine lv_iconst (v := 0) hx hb dX3_stands_51 (by decide) ?_
        refine z_put (D := D) (ci := 3) (v := .int (0 : Int32)) (ty := .int) (C := RX3) (T := TX3) (N := 27) (w2 := (wM cy ad (m_vectors_u (m_standing_u S (0 : Int64)) (0 : Int32)))) hx hb hts hiX3 tyX3 tyX3_ok nmX3 hown hK hI 0 rfl rfl 22 (by decide) (hts (.fieldLink RX3 164 "NoughtSumsModel" "vectors" "I") (by decide +kernel)) (fun _ h9 => h9) rfl (by decide +kernel) rfl rfl (Nat.le_of_ble_eq_true rfl) dX3_stands_52 rfl (fun H locs hI => ?_)
        refine lv_iconst (v := 0) hx hb dX3_stands_55 (by decide) ?_
        refine lv_istore_n (lv' := [(1, .int (0 : Int32)), (0, .ref (ad 0))]) hx hb dX3_stands_56 rfl hl (by decide) rfl (fun ls hl => ?_)
        exact hb57 zF (0 : Int32) (m_vectors_u (m_standing_u S (0 : Int64)) (0 : Int32)) _ _ _ hf hI (lv_sub hl [1, 0] rfl)
      · replace hf := zIf c_14 hf
        refine lv_aload_n hx hb dX3_stands_17 rfl (lv_at hl 0 rfl) ?_
        refine lv_dup hx hb dX3_stands_18 rfl ?_
        refine va_get (D := D) (ci := 3) (v := .long (m_common S)) (C := RX3) (T := TX3) (N := 27) hx hb hts hiX3 hown hK hI.1 0 rfl rfl 18 (by decide) (hts (.fieldLink RX3 169 "NoughtSumsModel" "common" "J") (by decide +kernel)) (fun _ h9 => h9) rfl dX3_stands_19 ?_
        refine lv_aload_n hx hb dX3_stands_22 rfl (lv_at hl 0 rfl) ?_
        refine va_get (D := D) (ci := 3) (v := .ref (ad 3)) (C := RX3) (T := TX3) (N := 27) hx hb hts hiX3 hown hK hI.1 0 rfl rfl 14 (by decide) (hts (.fieldLink RX3 20 "NoughtSumsModel" "line" "[J") (by decide +kernel)) (fun _ h9 => h9) rfl dX3_stands_23 ?_
        refine lv_iload_n hx hb dX3_stands_26 rfl (lv_at hl 1 rfl) ?_
        obtain ⟨g_27, hf⟩ := zGI_s hf
        refine va_lald (f := (m_line S)) hx hb hK hI.1 3 2 rfl rfl g_27 dX3_stands_27 ?_
        obtain ⟨r_28, hf_28, hf⟩ := zB1_s hf
        refine z_callS C 1 (kX3_values l zq D ((m_line S) v1.toNatClampNeg) r_28 hf_28) gX3_stands_X3_values rfl (by decide +kernel) ⟨by decide, by decide⟩ hI rfl hl.1 rfl (Nat.le_of_ble_eq_true rfl) dX3_stands_28 ⟨by decide, by decide⟩ (st2 := [.long r_28, .long (m_common S), .ref (ad 0)]) rfl (fun H locs hI => ?_)
        refine lv_ldc2 hx hb hown (hts (.constantLong RX3 167 (-1)) (by decide +kernel)) dX3_stands_31 ?_
        refine lv_lxor hx hb dX3_stands_34 ?_
        refine lv_land hx hb dX3_stands_35 ?_
        refine z_put (D := D) (ci := 3) (v := .long ((m_common S) &&& (r_28 ^^^ (-1 : Int64)))) (ty := .long) (C := RX3) (T := TX3) (N := 27) (w2 := (wM cy ad (m_common_u S ((m_common S) &&& (r_28 ^^^ (-1 : Int64)))))) hx hb hts hiX3 tyX3 tyX3_ok nmX3 hown hK hI 0 rfl rfl 18 (by decide) (hts (.fieldLink RX3 169 "NoughtSumsModel" "common" "J") (by decide +kernel)) (fun _ h9 => h9) rfl (by decide +kernel) rfl rfl (Nat.le_of_ble_eq_true rfl) dX3_stands_36 rfl (fun H locs hI => ?_)
        refine lv_iinc (v := (v1 + (1 : Int32))) (lv' := [(1, .int (v1 + (1 : Int32))), (0, .ref (ad 0))]) hx hb dX3_stands_39 hl (k := 1) rfl rfl (by decide) rfl (fun ls hl => ?_)
        refine lv_goto (tgt := 9) hx hb dX3_stands_42 (by decide) ?_
        exact ih (v1 + (1 : Int32)) (m_common_u S ((m_common S) &&& (r_28 ^^^ (-1 : Int64)))) _ _ _ hf hI (lv_sub hl [1, 0] rfl)
  unfold fX3_stands at hf
  refine lv_aload_n hx hb dX3_stands_0 rfl (lv_at hl 0 rfl) ?_
  refine lv_ldc2 hx hb hown (hts (.constantLong RX3 167 (-1)) (by decide +kernel)) dX3_stands_1 ?_
  refine z_put (D := D) (ci := 3) (v := .long (-1 : Int64)) (ty := .long) (C := RX3) (T := TX3) (N := 27) (w2 := (wM cy ad (m_common_u S (-1 : Int64)))) hx hb hts hiX3 tyX3 tyX3_ok nmX3 hown hK hI 0 rfl rfl 18 (by decide) (hts (.fieldLink RX3 169 "NoughtSumsModel" "common" "J") (by decide +kernel)) (fun _ h9 => h9) rfl (by decide +kernel) rfl rfl (Nat.le_of_ble_eq_true rfl) dX3_stands_4 rfl (fun H locs hI => ?_)
  refine lv_iconst (v := 0) hx hb dX3_stands_7 (by decide) ?_
  refine lv_istore_n (lv' := [(1, .int (0 : Int32)), (0, .ref (ad 0))]) hx hb dX3_stands_8 rfl hl (by decide) rfl (fun ls hl => ?_)
  exact hb9 zF (0 : Int32) (m_common_u S (-1 : Int64)) _ _ _ hf hI (lv_sub hl [1, 0] rfl)

def fX3_given_b91 (k91 : Int32 → Int32 → MS → Option (Int32 × MS)) (v1 : Int32) (v2 : Int32) (S : MS) : Option (Int32 × MS) :=
(if v1 ≤ v2 then (zB1 (fX3_stands (m_typed_u (m_wrongStep_u (m_steps_u (m_made_u (m_given_u S v1) (0 : Int32)) (0 : Int32)) (-9 : Int32)) (0 : Int32))) (fun S_141 =>
some ((m_given S_141), S_141))) else
(zGI v2 8
((zGI v2 32
(k91 v1 (v2 + (1 : Int32)) (m_line_u S (vp_updL (m_line S) v2.toNatClampNeg ((m_draft S) v2.toNatClampNeg))))))))
def fX3_given_b91L : Nat → Int32 → Int32 → MS → Option (Int32 × MS)
  | 0, _, _, _ => none
  | n + 1, v1, v2, S => fX3_given_b91 (fX3_given_b91L n) v1 v2 S

def fX3_given_b74 (v1 : Int32) (S : MS) : Option (Int32 × MS) :=
(zB2 (fX3_isWell S) (fun r_75 S_75 =>
(if r_75 = 0 then some (((-10 : Int32) - (m_fault S_75)), S_75) else
fX3_given_b91L zF v1 (0 : Int32) S_75)))

def fX3_given_b64 (k11 : Int32 → MS → Option (Int32 × MS)) (v1 : Int32) (u0 : Int32) (S : MS) : Option (Int32 × MS) :=
(zB2 (fX3_takes u0 S) (fun r_64 S_64 =>
k11 (v1 + (1 : Int32)) S_64))

def fX3_given_b11 (k11 : Int32 → MS → Option (Int32 × MS)) (v1 : Int32) (S : MS) : Option (Int32 × MS) :=
(zB2 (fX3_isWell S) (fun r_12 S_12 =>
(if r_12 = 0 then fX3_given_b74 v1 S_12 else
(if (m_token S_12) = 0 then fX3_given_b74 v1 S_12 else
(if v1 = (8 : Int32) then (zB2 (fX3_takes (0 : Int32) S_12) (fun r_33 S_33 =>
k11 v1 S_33)) else
(zB2 (fX3_readsSum S_12) (fun r_46 S_46 =>
(zGI v1 8
((if (m_token S_46) = (5 : Int32) then fX3_given_b64 k11 v1 (1 : Int32) (m_draft_u S_46 (vp_updL (m_draft S_46) v1.toNatClampNeg r_46)) else
fX3_given_b64 k11 v1 (0 : Int32) (m_draft_u S_46 (vp_updL (m_draft S_46) v1.toNatClampNeg r_46))))))))))))
def fX3_given_b11L : Nat → Int32 → MS → Option (Int32 × MS)
  | 0, _, _ => none
  | n + 1, v1, S => fX3_given_b11 (fX3_given_b11L n) v1 S

def fX3_given  (S : MS) : Option (Int32 × MS) :=
(zB1 (fX3_begins (m_thrown_u S (0 : Int32))) (fun S_8 =>
fX3_given_b11L zF (0 : Int32) S_8))
set_option maxHeartbeats 4000000 in
set_option maxRecDepth 100000 in
theorem kX3_given (l : Launch) (zq : Nat → Nat) (D : va_G) (cy : Nat → ClassId) (ad : Nat → Nat)  (S S' : MS) (r : Int32) (hf : fX3_given S = some (r, S')) : zMet l yX3_given wsX3_given 6 141 zq D (tM cy) (wM cy ad S) [.ref (ad 0)] (some (.int r)) (wM cy ad S') := by
  refine zMet.of cX3_given 3 (some .int) (by decide) rfl (Nat.le_of_ble_eq_true rfl) ?_
  intro p e s m args below meth c A ls C hl hI
  have hl : lv_has ls 3 [(0, .ref (ad 0))] := hl
  have C : zC p s m args meth c cX3_given 3 (some .int) RX3 wsX3_given D (tM cy) zq A := C
  obtain ⟨hx, hb, hml, hown, hts, hret, hlk, hK, hX, hA⟩ := id C
  have hiX3 : ∀ w ∈ wsX30, w ∈ wsX3_given := by decide +kernel
  obtain ⟨Q, hQ⟩ : ∃ Q, Q = MQ below (zQ D (tM cy) (wM cy ad S') (some (.int r)) A) args s 0 0 A := ⟨_, rfl⟩
  rw [← hQ]
  have hb91 : ∀ (n : Nat), ∀ (v1 : Int32) (v2 : Int32) (S : MS) (H : Heap) (locs : List Loc) (ls : Array Slot), fX3_given_b91L n v1 v2 S = some (r, S') → zI D A s H locs (wM cy ad S) → lv_has ls 3 [(0, .ref (ad 0)), (1, .int v1), (2, .int v2)] → W p l e { frames := 6, cells := 0, slots := 0, locals := 141 } s m args below meth c H locs 0 0 Q (F0 m 91 ls []) := by
    intro n
    induction n with
    | zero => intro v1 v2 S H locs ls hf; cases (show (none : Option (Int32 × MS)) = some (r, S') from hf)
    | succ n ih =>
      intro v1 v2 S H locs ls hf hI hl
      have hf : fX3_given_b91 (fX3_given_b91L n) v1 v2 S = some (r, S') := hf
      unfold fX3_given_b91 at hf
      refine lv_iload_n hx hb dX3_given_91 rfl (lv_at hl 2 rfl) ?_
      refine lv_iload_n hx hb dX3_given_92 rfl (lv_at hl 1 rfl) ?_
      refine lv_icmp_ge (tgt := 114) hx hb dX3_given_93 (by decide) (fun c_93 => ?_) (fun c_93 => ?_)
      · replace hf := zIt c_93 hf
        refine lv_aload_n hx hb dX3_given_114 rfl (lv_at hl 0 rfl) ?_
        refine lv_iload_n hx hb dX3_given_115 rfl (lv_at hl 1 rfl) ?_
        refine z_put (D := D) (ci := 3) (v := .int v1) (ty := .int) (C := RX3) (T := TX3) (N := 27) (w2 := (wM cy ad (m_given_u S v1))) hx hb hts hiX3 tyX3 tyX3_ok nmX3 hown hK hI 0 rfl rfl 10 (by decide) (hts (.fieldLink RX3 129 "NoughtSumsModel" "given" "I") (by decide +kernel)) (fun _ h9 => h9) rfl (by decide +kernel) rfl rfl (Nat.le_of_ble_eq_true rfl) dX3_given_116 rfl (fun H locs hI => ?_)
        refine lv_aload_n hx hb dX3_given_119 rfl (lv_at hl 0 rfl) ?_
        refine lv_iconst (v := 0) hx hb dX3_given_120 (by decide) ?_
        refine z_put (D := D) (ci := 3) (v := .int (0 : Int32)) (ty := .int) (C := RX3) (T := TX3) (N := 27) (w2 := (wM cy ad (m_made_u (m_given_u S v1) (0 : Int32)))) hx hb hts hiX3 tyX3 tyX3_ok nmX3 hown hK hI 0 rfl rfl 11 (by decide) (hts (.fieldLink RX3 132 "NoughtSumsModel" "made" "I") (by decide +kernel)) (fun _ h9 => h9) rfl (by decide +kernel) rfl rfl (Nat.le_of_ble_eq_true rfl) dX3_given_121 rfl (fun H locs hI => ?_)
        refine lv_aload_n hx hb dX3_given_124 rfl (lv_at hl 0 rfl) ?_
        refine lv_iconst (v := 0) hx hb dX3_given_125 (by decide) ?_
        refine z_put (D := D) (ci := 3) (v := .int (0 : Int32)) (ty := .int) (C := RX3) (T := TX3) (N := 27) (w2 := (wM cy ad (m_steps_u (m_made_u (m_given_u S v1) (0 : Int32)) (0 : Int32)))) hx hb hts hiX3 tyX3 tyX3_ok nmX3 hown hK hI 0 rfl rfl 12 (by decide) (hts (.fieldLink RX3 135 "NoughtSumsModel" "steps" "I") (by decide +kernel)) (fun _ h9 => h9) rfl (by decide +kernel) rfl rfl (Nat.le_of_ble_eq_true rfl) dX3_given_126 rfl (fun H locs hI => ?_)
        refine lv_aload_n hx hb dX3_given_129 rfl (lv_at hl 0 rfl) ?_
        refine lv_bipush (v := -9) hx hb dX3_given_130 (by decide) ?_
        refine z_put (D := D) (ci := 3) (v := .int (-9 : Int32)) (ty := .int) (C := RX3) (T := TX3) (N := 27) (w2 := (wM cy ad (m_wrongStep_u (m_steps_u (m_made_u (m_given_u S v1) (0 : Int32)) (0 : Int32)) (-9 : Int32)))) hx hb hts hiX3 tyX3 tyX3_ok nmX3 hown hK hI 0 rfl rfl 13 (by decide) (hts (.fieldLink RX3 16 "NoughtSumsModel" "wrongStep" "I") (by decide +kernel)) (fun _ h9 => h9) rfl (by decide +kernel) rfl rfl (Nat.le_of_ble_eq_true rfl) dX3_given_132 rfl (fun H locs hI => ?_)
        refine lv_aload_n hx hb dX3_given_135 rfl (lv_at hl 0 rfl) ?_
        refine lv_iconst (v := 0) hx hb dX3_given_136 (by decide) ?_
        refine z_put (D := D) (ci := 3) (v := .int (0 : Int32)) (ty := .int) (C := RX3) (T := TX3) (N := 27) (w2 := (wM cy ad (m_typed_u (m_wrongStep_u (m_steps_u (m_made_u (m_given_u S v1) (0 : Int32)) (0 : Int32)) (-9 : Int32)) (0 : Int32)))) hx hb hts hiX3 tyX3 tyX3_ok nmX3 hown hK hI 0 rfl rfl 4 (by decide) (hts (.fieldLink RX3 75 "NoughtSumsModel" "typed" "I") (by decide +kernel)) (fun _ h9 => h9) rfl (by decide +kernel) rfl rfl (Nat.le_of_ble_eq_true rfl) dX3_given_137 rfl (fun H locs hI => ?_)
        refine lv_aload_n hx hb dX3_given_140 rfl (lv_at hl 0 rfl) ?_
        obtain ⟨S_141, hf_141, hf⟩ := zB1_s hf
        refine z_callV (w2 := (wM cy ad S_141)) C 0 (kX3_stands l zq D cy ad (m_typed_u (m_wrongStep_u (m_steps_u (m_made_u (m_given_u S v1) (0 : Int32)) (0 : Int32)) (-9 : Int32)) (0 : Int32)) S_141 hf_141) gX3_given_X3_stands rfl (by decide +kernel) ⟨by decide, by decide⟩ hI 0 rfl rfl rfl hl.1 rfl (Nat.le_of_ble_eq_true rfl) dX3_given_141 ⟨by decide, by decide⟩ (st2 := []) rfl (fun H locs hI => ?_)
        refine lv_aload_n hx hb dX3_given_144 rfl (lv_at hl 0 rfl) ?_
        refine va_get (D := D) (ci := 3) (v := .int (m_given S_141)) (C := RX3) (T := TX3) (N := 27) hx hb hts hiX3 hown hK hI.1 0 rfl rfl 10 (by decide) (hts (.fieldLink RX3 129 "NoughtSumsModel" "given" "I") (by decide +kernel)) (fun _ h9 => h9) rfl dX3_given_145 ?_
        obtain ⟨h1, h2⟩ := zP2 hf
        rw [hQ]
        exact z_iret C (by rw [h2]; exact hI) (by rw [h1]) dX3_given_148
      · replace hf := zIf c_93 hf
        refine lv_aload_n hx hb dX3_given_96 rfl (lv_at hl 0 rfl) ?_
        refine va_get (D := D) (ci := 3) (v := .ref (ad 3)) (C := RX3) (T := TX3) (N := 27) hx hb hts hiX3 hown hK hI.1 0 rfl rfl 14 (by decide) (hts (.fieldLink RX3 20 "NoughtSumsModel" "line" "[J") (by decide +kernel)) (fun _ h9 => h9) rfl dX3_given_97 ?_
        refine lv_iload_n hx hb dX3_given_100 rfl (lv_at hl 2 rfl) ?_
        refine lv_aload_n hx hb dX3_given_101 rfl (lv_at hl 0 rfl) ?_
        refine va_get (D := D) (ci := 3) (v := .ref (ad 4)) (C := RX3) (T := TX3) (N := 27) hx hb hts hiX3 hown hK hI.1 0 rfl rfl 15 (by decide) (hts (.fieldLink RX3 24 "NoughtSumsModel" "draft" "[J") (by decide +kernel)) (fun _ h9 => h9) rfl dX3_given_102 ?_
        refine lv_iload_n hx hb dX3_given_105 rfl (lv_at hl 2 rfl) ?_
        obtain ⟨g_106, hf⟩ := zGI_s hf
        refine va_lald (f := (m_draft S)) hx hb hK hI.1 4 3 rfl rfl g_106 dX3_given_106 ?_
        obtain ⟨g_107, hf⟩ := zGI_s hf
        refine z_last (f := (m_line S)) (w2 := (wM cy ad (m_line_u S (vp_updL (m_line S) v2.toNatClampNeg ((m_draft S) v2.toNatClampNeg))))) hx hb hK hI 3 2 rfl rfl g_107 dX3_given_107 rfl (fun H locs hI => ?_)
        refine lv_iinc (v := (v2 + (1 : Int32))) (lv' := [(2, .int (v2 + (1 : Int32))), (0, .ref (ad 0)), (1, .int v1)]) hx hb dX3_given_108 hl (k := 2) rfl rfl (by decide) rfl (fun ls hl => ?_)
        refine lv_goto (tgt := 91) hx hb dX3_given_111 (by decide) ?_
        exact ih v1 (v2 + (1 : Int32)) (m_line_u S (vp_updL (m_line S) v2.toNatClampNeg ((m_draft S) v2.toNatClampNeg))) _ _ _ hf hI (lv_sub hl [1, 2, 0] rfl)
  have hb74 : ∀ (v1 : Int32) (S : MS) (H : Heap) (locs : List Loc) (ls : Array Slot), fX3_given_b74 v1 S = some (r, S') → zI D A s H locs (wM cy ad S) → lv_has ls 3 [(0, .ref (ad 0)), (1, .int v1)] → W p l e { frames := 6, cells := 0, slots := 0, locals := 141 } s m args below meth c H locs 0 0 Q (F0 m 74 ls []) := by
    intro v1 S H locs ls hf hI hl
    unfold fX3_given_b74 at hf
    refine lv_aload_n hx hb dX3_given_74 rfl (lv_at hl 0 rfl) ?_
    obtain ⟨r_75, S_75, hf_75, hf⟩ := zB2_s hf
    refine z_callV (w2 := (wM cy ad S_75)) C 0 (kX3_isWell l zq D cy ad S S_75 r_75 hf_75) gX3_given_X3_isWell rfl (by decide +kernel) ⟨by decide, by decide⟩ hI 0 rfl rfl rfl hl.1 rfl (Nat.le_of_ble_eq_true rfl) dX3_given_75 ⟨by decide, by decide⟩ (st2 := [.int r_75]) rfl (fun H locs hI => ?_)
    refine lv_if_ne (tgt := 89) hx hb dX3_given_78 (by decide) (fun c_78 => ?_) (fun c_78 => ?_)
    · replace hf := zIf c_78 hf
      refine lv_iconst (v := 0) hx hb dX3_given_89 (by decide) ?_
      refine lv_istore_n (lv' := [(2, .int (0 : Int32)), (0, .ref (ad 0)), (1, .int v1)]) hx hb dX3_given_90 rfl hl (by decide) rfl (fun ls hl => ?_)
      exact hb91 zF v1 (0 : Int32) S_75 _ _ _ hf hI (lv_sub hl [1, 2, 0] rfl)
    · replace hf := zIt c_78 hf
      refine lv_bipush (v := -10) hx hb dX3_given_81 (by decide) ?_
      refine lv_aload_n hx hb dX3_given_83 rfl (lv_at hl 0 rfl) ?_
      refine va_get (D := D) (ci := 3) (v := .int (m_fault S_75)) (C := RX3) (T := TX3) (N := 27) hx hb hts hiX3 hown hK hI.1 0 rfl rfl 9 (by decide) (hts (.fieldLink RX3 108 "NoughtSumsModel" "fault" "I") (by decide +kernel)) (fun _ h9 => h9) rfl dX3_given_84 ?_
      refine lv_isub hx hb dX3_given_87 ?_
      obtain ⟨h1, h2⟩ := zP2 hf
      rw [hQ]
      exact z_iret C (by rw [h2]; exact hI) (by rw [h1]) dX3_given_88
  have hb64 : ∀ (k11 : Int32 → MS → Option (Int32 × MS)) (hk11 : ∀ (v1 : Int32) (S : MS) (H : Heap) (locs : List Loc) (ls : Array Slot), k11 v1 S = some (r, S') → zI D A s H locs (wM cy ad S) → lv_has ls 3 [(0, .ref (ad 0)), (1, .int v1)] → W p l e { frames := 6, cells := 0, slots := 0, locals := 141 } s m args below meth c H locs 0 0 Q (F0 m 11 ls [])), ∀ (v1 : Int32) (u0 : Int32) (S : MS) (H : Heap) (locs : List Loc) (ls : Array Slot), fX3_given_b64 k11 v1 u0 S = some (r, S') → zI D A s H locs (wM cy ad S) → lv_has ls 3 [(0, .ref (ad 0)), (1, .int v1)] → W p l e { frames := 6, cells := 0, slots := 0, locals := 141 } s m args below meth c H locs 0 0 Q (F0 m 64 ls [.int u0, .ref (ad 0)]) := by
    intro k11 hk11 v1 u0 S H locs ls hf hI hl
    unfold fX3_given_b64 at hf
    obtain ⟨r_64, S_64, hf_64, hf⟩ := zB2_s hf
    refine z_callV (w2 := (wM cy ad S_64)) C 1 (kX3_takes l zq D cy ad u0 S S_64 r_64 hf_64) gX3_given_X3_takes rfl (by decide +kernel) ⟨by decide, by decide⟩ hI 0 rfl rfl rfl hl.1 rfl (Nat.le_of_ble_eq_true rfl) dX3_given_64 ⟨by decide, by decide⟩ (st2 := [.int r_64]) rfl (fun H locs hI => ?_)
    refine lv_pop hx hb dX3_given_67 rfl ?_
    refine lv_iinc (v := (v1 + (1 : Int32))) (lv' := [(1, .int (v1 + (1 : Int32))), (0, .ref (ad 0))]) hx hb dX3_given_68 hl (k := 1) rfl rfl (by decide) rfl (fun ls hl => ?_)
    refine lv_goto (tgt := 11) hx hb dX3_given_71 (by decide) ?_
    exact hk11 (v1 + (1 : Int32)) S_64 _ _ _ hf hI (lv_sub hl [1, 0] rfl)
  have hb11 : ∀ (n : Nat), ∀ (v1 : Int32) (S : MS) (H : Heap) (locs : List Loc) (ls : Array Slot), fX3_given_b11L n v1 S = some (r, S') → zI D A s H locs (wM cy ad S) → lv_has ls 3 [(0, .ref (ad 0)), (1, .int v1)] → W p l e { frames := 6, cells := 0, slots := 0, locals := 141 } s m args below meth c H locs 0 0 Q (F0 m 11 ls []) := by
    intro n
    induction n with
    | zero => intro v1 S H locs ls hf; cases (show (none : Option (Int32 × MS)) = some (r, S') from hf)
    | succ n ih =>
      intro v1 S H locs ls hf hI hl
      have hf : fX3_given_b11 (fX3_given_b11L n) v1 S = some (r, S') := hf
      unfold fX3_given_b11 at hf
      refine lv_aload_n hx hb dX3_given_11 rfl (lv_at hl 0 rfl) ?_
      obtain ⟨r_12, S_12, hf_12, hf⟩ := zB2_s hf
      refine z_callV (w2 := (wM cy ad S_12)) C 0 (kX3_isWell l zq D cy ad S S_12 r_12 hf_12) gX3_given_X3_isWell rfl (by decide +kernel) ⟨by decide, by decide⟩ hI 0 rfl rfl rfl hl.1 rfl (Nat.le_of_ble_eq_true rfl) dX3_given_12 ⟨by decide, by decide⟩ (st2 := [.int r_12]) rfl (fun H locs hI => ?_)
      refine lv_if_eq (tgt := 74) hx hb dX3_given_15 (by decide) (fun c_15 => ?_) (fun c_15 => ?_)
      · replace hf := zIt c_15 hf
        exact hb74 v1 S_12 _ _ _ hf hI (lv_sub hl [0, 1] rfl)
      · replace hf := zIf c_15 hf
        refine lv_aload_n hx hb dX3_given_18 rfl (lv_at hl 0 rfl) ?_
        refine va_get (D := D) (ci := 3) (v := .int (m_token S_12)) (C := RX3) (T := TX3) (N := 27) hx hb hts hiX3 hown hK hI.1 0 rfl rfl 6 (by decide) (hts (.fieldLink RX3 88 "NoughtSumsModel" "token" "I") (by decide +kernel)) (fun _ h9 => h9) rfl dX3_given_19 ?_
        refine lv_if_eq (tgt := 74) hx hb dX3_given_22 (by decide) (fun c_22 => ?_) (fun c_22 => ?_)
        · replace hf := zIt c_22 hf
          exact hb74 v1 S_12 _ _ _ hf hI (lv_sub hl [0, 1] rfl)
        · replace hf := zIf c_22 hf
          refine lv_iload_n hx hb dX3_given_25 rfl (lv_at hl 1 rfl) ?_
          refine lv_bipush (v := 8) hx hb dX3_given_26 (by decide) ?_
          refine lv_icmp_ne (tgt := 40) hx hb dX3_given_28 (by decide) (fun c_28 => ?_) (fun c_28 => ?_)
          · replace hf := zIf c_28 hf
            refine lv_aload_n hx hb dX3_given_40 rfl (lv_at hl 0 rfl) ?_
            refine va_get (D := D) (ci := 3) (v := .ref (ad 4)) (C := RX3) (T := TX3) (N := 27) hx hb hts hiX3 hown hK hI.1 0 rfl rfl 15 (by decide) (hts (.fieldLink RX3 24 "NoughtSumsModel" "draft" "[J") (by decide +kernel)) (fun _ h9 => h9) rfl dX3_given_41 ?_
            refine lv_iload_n hx hb dX3_given_44 rfl (lv_at hl 1 rfl) ?_
            refine lv_aload_n hx hb dX3_given_45 rfl (lv_at hl 0 rfl) ?_
            obtain ⟨r_46, S_46, hf_46, hf⟩ := zB2_s hf
            refine z_callV (w2 := (wM cy ad S_46)) C 0 (kX3_readsSum l zq D cy ad S_12 S_46 r_46 hf_46) gX3_given_X3_readsSum rfl (by decide +kernel) ⟨by decide, by decide⟩ hI 0 rfl rfl rfl hl.1 rfl (Nat.le_of_ble_eq_true rfl) dX3_given_46 ⟨by decide, by decide⟩ (st2 := [.long r_46, .int v1, .ref (ad 4)]) rfl (fun H locs hI => ?_)
            obtain ⟨g_49, hf⟩ := zGI_s hf
            refine z_last (f := (m_draft S_46)) (w2 := (wM cy ad (m_draft_u S_46 (vp_updL (m_draft S_46) v1.toNatClampNeg r_46)))) hx hb hK hI 4 3 rfl rfl g_49 dX3_given_49 rfl (fun H locs hI => ?_)
            refine lv_aload_n hx hb dX3_given_50 rfl (lv_at hl 0 rfl) ?_
            refine lv_aload_n hx hb dX3_given_51 rfl (lv_at hl 0 rfl) ?_
            refine va_get (D := D) (ci := 3) (v := .int (m_token S_46)) (C := RX3) (T := TX3) (N := 27) hx hb hts hiX3 hown hK hI.1 0 rfl rfl 6 (by decide) (hts (.fieldLink RX3 88 "NoughtSumsModel" "token" "I") (by decide +kernel)) (fun _ h9 => h9) rfl dX3_given_52 ?_
            refine lv_iconst (v := 5) hx hb dX3_given_55 (by decide) ?_
            refine lv_icmp_ne (tgt := 63) hx hb dX3_given_56 (by decide) (fun c_56 => ?_) (fun c_56 => ?_)
            · replace hf := zIf c_56 hf
              refine lv_iconst (v := 0) hx hb dX3_given_63 (by decide) ?_
              exact hb64 (fX3_given_b11L n) ih v1 (0 : Int32) (m_draft_u S_46 (vp_updL (m_draft S_46) v1.toNatClampNeg r_46)) _ _ _ hf hI (lv_sub hl [0, 1] rfl)
            · replace hf := zIt c_56 hf
              refine lv_iconst (v := 1) hx hb dX3_given_59 (by decide) ?_
              refine lv_goto (tgt := 64) hx hb dX3_given_60 (by decide) ?_
              exact hb64 (fX3_given_b11L n) ih v1 (1 : Int32) (m_draft_u S_46 (vp_updL (m_draft S_46) v1.toNatClampNeg r_46)) _ _ _ hf hI (lv_sub hl [0, 1] rfl)
          · replace hf := zIt c_28 hf
            refine lv_aload_n hx hb dX3_given_31 rfl (lv_at hl 0 rfl) ?_
            refine lv_iconst (v := 0) hx hb dX3_given_32 (by decide) ?_
            obtain ⟨r_33, S_33, hf_33, hf⟩ := zB2_s hf
            refine z_callV (w2 := (wM cy ad S_33)) C 1 (kX3_takes l zq D cy ad (0 : Int32) S_12 S_33 r_33 hf_33) gX3_given_X3_takes rfl (by decide +kernel) ⟨by decide, by decide⟩ hI 0 rfl rfl rfl hl.1 rfl (Nat.le_of_ble_eq_true rfl) dX3_given_33 ⟨by decide, by decide⟩ (st2 := [.int r_33]) rfl (fun H locs hI => ?_)
            refine lv_pop hx hb dX3_given_36 rfl ?_
            refine lv_goto (tgt := 11) hx hb dX3_given_37 (by decide) ?_
            exact ih v1 S_33 _ _ _ hf hI (lv_sub hl [0, 1] rfl)
  unfold fX3_given at hf
  refine lv_aload_n hx hb dX3_given_0 rfl (lv_at hl 0 rfl) ?_
  refine lv_iconst (v := 0) hx hb dX3_given_1 (by decide) ?_
  refine z_put (D := D) (ci := 3) (v := .int (0 : Int32)) (ty := .int) (C := RX3) (T := TX3) (N := 27) (w2 := (wM cy ad (m_thrown_u S (0 : Int32)))) hx hb hts hiX3 tyX3 tyX3_ok nmX3 hown hK hI 0 rfl rfl 0 (by decide) (hts (.fieldLink RX3 56 "NoughtSumsModel" "thrown" "I") (by decide +kernel)) (fun _ h9 => h9) rfl (by decide +kernel) rfl rfl (Nat.le_of_ble_eq_true rfl) dX3_given_2 rfl (fun H locs hI => ?_)
  refine lv_iconst (v := 0) hx hb dX3_given_5 (by decide) ?_
  refine lv_istore_n (lv' := [(1, .int (0 : Int32)), (0, .ref (ad 0))]) hx hb dX3_given_6 rfl hl (by decide) rfl (fun ls hl => ?_)
  refine lv_aload_n hx hb dX3_given_7 rfl (lv_at hl 1 rfl) ?_
  obtain ⟨S_8, hf_8, hf⟩ := zB1_s hf
  refine z_callV (w2 := (wM cy ad S_8)) C 0 (kX3_begins l zq D cy ad (m_thrown_u S (0 : Int32)) S_8 hf_8) gX3_given_X3_begins rfl (by decide +kernel) ⟨by decide, by decide⟩ hI 0 rfl rfl rfl hl.1 rfl (Nat.le_of_ble_eq_true rfl) dX3_given_8 ⟨by decide, by decide⟩ (st2 := []) rfl (fun H locs hI => ?_)
  exact hb11 zF (0 : Int32) S_8 _ _ _ hf hI (lv_sub hl [1, 0] rfl)

def fX3_readsStep_b182 (S : MS) : Option MS :=
(if (m_token S) = (5 : Int32) then (zB2 (fX3_takes (1 : Int32) S) (fun r_196 S_196 =>
some S_196)) else
(zB2 (fX3_takes (0 : Int32) S) (fun r_196 S_196 =>
some S_196)))

def fX3_readsStep_b178 (u0 : Int32) (u2 : Int32) (S : MS) : Option MS :=
(zB2 (fX3_takes u0 S) (fun r_178 S_178 =>
(zGI u2 72
(fX3_readsStep_b182 (m_step_u S_178 (upd (m_step S_178) u2.toNatClampNeg r_178))))))

def fX3_readsStep_b177 (u1 : Int32) (S : MS) : Option MS :=
fX3_readsStep_b178 (0 : Int32) u1 S

def fX3_readsStep_b135 (u0 : Int32) (u2 : Int32) (S : MS) : Option MS :=
(zB2 (fX3_takes u0 S) (fun r_135 S_135 =>
(zGI u2 72
(fX3_readsStep_b182 (m_step_u S_135 (upd (m_step S_135) u2.toNatClampNeg r_135))))))

def fX3_readsStep_b134 (u1 : Int32) (S : MS) : Option MS :=
fX3_readsStep_b135 (0 : Int32) u1 S

def fX3_readsStep_b92 (v1 : Int32) (v2 : Int32) (u0 : Int32) (u2 : Int32) (S : MS) : Option MS :=
(zB2 (fX3_takes u0 S) (fun r_92 S_92 =>
(zGI u2 72
((if v2 = (1 : Int32) then (if (m_token S_92) = (1 : Int32) then (zB1 (fX3_letters (m_value S_92)) (fun r_123 =>
(if r_123 = (1 : Int32) then fX3_readsStep_b135 (1 : Int32) (((3 : Int32) * v1) + (2 : Int32)) (m_step_u S_92 (upd (m_step S_92) u2.toNatClampNeg r_92)) else
fX3_readsStep_b134 (((3 : Int32) * v1) + (2 : Int32)) (m_step_u S_92 (upd (m_step S_92) u2.toNatClampNeg r_92))))) else
fX3_readsStep_b134 (((3 : Int32) * v1) + (2 : Int32)) (m_step_u S_92 (upd (m_step S_92) u2.toNatClampNeg r_92))) else
(if (m_token S_92) = (3 : Int32) then (if ((m_given S_92) + v1) ≤ (m_value S_92) then fX3_readsStep_b177 (((3 : Int32) * v1) + (2 : Int32)) (m_step_u S_92 (upd (m_step S_92) u2.toNatClampNeg r_92)) else
fX3_readsStep_b178 (1 : Int32) (((3 : Int32) * v1) + (2 : Int32)) (m_step_u S_92 (upd (m_step S_92) u2.toNatClampNeg r_92))) else
fX3_readsStep_b177 (((3 : Int32) * v1) + (2 : Int32)) (m_step_u S_92 (upd (m_step S_92) u2.toNatClampNeg r_92))))))))

def fX3_readsStep_b91 (v1 : Int32) (v2 : Int32) (u1 : Int32) (S : MS) : Option MS :=
fX3_readsStep_b92 v1 v2 (0 : Int32) u1 S

def fX3_readsStep_b52 (u0 : Int64) (u1 : Int32) (S : MS) : Option MS :=
(zGI u1 24
(fX3_readsStep_b182 (m_claimed_u S (vp_updL (m_claimed S) u1.toNatClampNeg u0))))

def fX3_readsStep_b14 (v1 : Int32) (u0 : Int32) (S : MS) : Option MS :=
(zB2 (fX3_takes u0 S) (fun r_14 S_14 =>
(zGI ((3 : Int32) * v1) 72
((if r_14 = (3 : Int32) then (zB2 (fX3_isWell (m_step_u S_14 (upd (m_step S_14) ((3 : Int32) * v1).toNatClampNeg r_14))) (fun r_38 S_38 =>
(if r_38 = 0 then fX3_readsStep_b52 (0 : Int64) v1 S_38 else
(zB2 (fX3_readsSum S_38) (fun r_45 S_45 =>
fX3_readsStep_b52 r_45 v1 S_45))))) else
(if (m_token S_14) = (3 : Int32) then (if ((m_given S_14) + v1) ≤ (m_value S_14) then fX3_readsStep_b91 v1 r_14 (((3 : Int32) * v1) + (1 : Int32)) (m_step_u S_14 (upd (m_step S_14) ((3 : Int32) * v1).toNatClampNeg r_14)) else
fX3_readsStep_b92 v1 r_14 (1 : Int32) (((3 : Int32) * v1) + (1 : Int32)) (m_step_u S_14 (upd (m_step S_14) ((3 : Int32) * v1).toNatClampNeg r_14))) else
fX3_readsStep_b91 v1 r_14 (((3 : Int32) * v1) + (1 : Int32)) (m_step_u S_14 (upd (m_step S_14) ((3 : Int32) * v1).toNatClampNeg r_14))))))))

def fX3_readsStep (a1 : Int32) (S : MS) : Option MS :=
(if (m_token S) = (2 : Int32) then fX3_readsStep_b14 a1 (1 : Int32) S else
fX3_readsStep_b14 a1 (0 : Int32) S)
set_option maxHeartbeats 4000000 in
set_option maxRecDepth 100000 in
theorem kX3_readsStep (l : Launch) (zq : Nat → Nat) (D : va_G) (cy : Nat → ClassId) (ad : Nat → Nat) (a1 : Int32) (S S' : MS) (hf : fX3_readsStep a1 S = some S') : zMet l yX3_readsStep wsX3_readsStep 6 141 zq D (tM cy) (wM cy ad S) [.ref (ad 0), .int a1] none (wM cy ad S') := by
  refine zMet.of cX3_readsStep 3 none (by decide) rfl (Nat.le_of_ble_eq_true rfl) ?_
  intro p e s m args below meth c A ls C hl hI
  have hl : lv_has ls 3 [(0, .ref (ad 0)), (1, .int a1)] := hl
  have C : zC p s m args meth c cX3_readsStep 3 none RX3 wsX3_readsStep D (tM cy) zq A := C
  obtain ⟨hx, hb, hml, hown, hts, hret, hlk, hK, hX, hA⟩ := id C
  have hiX3 : ∀ w ∈ wsX30, w ∈ wsX3_readsStep := by decide +kernel
  obtain ⟨Q, hQ⟩ : ∃ Q, Q = MQ below (zQ D (tM cy) (wM cy ad S') none A) args s 0 0 A := ⟨_, rfl⟩
  rw [← hQ]
  have hb182 : ∀ (S : MS) (H : Heap) (locs : List Loc) (ls : Array Slot), fX3_readsStep_b182 S = some S' → zI D A s H locs (wM cy ad S) → lv_has ls 3 [(0, .ref (ad 0))] → W p l e { frames := 6, cells := 0, slots := 0, locals := 141 } s m args below meth c H locs 0 0 Q (F0 m 182 ls []) := by
    intro S H locs ls hf hI hl
    unfold fX3_readsStep_b182 at hf
    refine lv_aload_n hx hb dX3_readsStep_182 rfl (lv_at hl 0 rfl) ?_
    refine lv_aload_n hx hb dX3_readsStep_183 rfl (lv_at hl 0 rfl) ?_
    refine va_get (D := D) (ci := 3) (v := .int (m_token S)) (C := RX3) (T := TX3) (N := 27) hx hb hts hiX3 hown hK hI.1 0 rfl rfl 6 (by decide) (hts (.fieldLink RX3 88 "NoughtSumsModel" "token" "I") (by decide +kernel)) (fun _ h9 => h9) rfl dX3_readsStep_184 ?_
    refine lv_iconst (v := 5) hx hb dX3_readsStep_187 (by decide) ?_
    refine lv_icmp_ne (tgt := 195) hx hb dX3_readsStep_188 (by decide) (fun c_188 => ?_) (fun c_188 => ?_)
    · replace hf := zIf c_188 hf
      refine lv_iconst (v := 0) hx hb dX3_readsStep_195 (by decide) ?_
      obtain ⟨r_196, S_196, hf_196, hf⟩ := zB2_s hf
      refine z_callV (w2 := (wM cy ad S_196)) C 1 (kX3_takes l zq D cy ad (0 : Int32) S S_196 r_196 hf_196) gX3_readsStep_X3_takes rfl (by decide +kernel) ⟨by decide, by decide⟩ hI 0 rfl rfl rfl hl.1 rfl (Nat.le_of_ble_eq_true rfl) dX3_readsStep_196 ⟨by decide, by decide⟩ (st2 := [.int r_196]) rfl (fun H locs hI => ?_)
      refine lv_pop hx hb dX3_readsStep_199 rfl ?_
      have h2 := zP1 hf
      rw [hQ]
      exact z_vret C (by rw [h2]; exact hI) rfl dX3_readsStep_200
    · replace hf := zIt c_188 hf
      refine lv_iconst (v := 1) hx hb dX3_readsStep_191 (by decide) ?_
      refine lv_goto (tgt := 196) hx hb dX3_readsStep_192 (by decide) ?_
      obtain ⟨r_196, S_196, hf_196, hf⟩ := zB2_s hf
      refine z_callV (w2 := (wM cy ad S_196)) C 1 (kX3_takes l zq D cy ad (1 : Int32) S S_196 r_196 hf_196) gX3_readsStep_X3_takes rfl (by decide +kernel) ⟨by decide, by decide⟩ hI 0 rfl rfl rfl hl.1 rfl (Nat.le_of_ble_eq_true rfl) dX3_readsStep_196 ⟨by decide, by decide⟩ (st2 := [.int r_196]) rfl (fun H locs hI => ?_)
      refine lv_pop hx hb dX3_readsStep_199 rfl ?_
      have h2 := zP1 hf
      rw [hQ]
      exact z_vret C (by rw [h2]; exact hI) rfl dX3_readsStep_200
  have hb178 : ∀ (u0 : Int32) (u2 : Int32) (S : MS) (H : Heap) (locs : List Loc) (ls : Array Slot), fX3_readsStep_b178 u0 u2 S = some S' → zI D A s H locs (wM cy ad S) → lv_has ls 3 [(0, .ref (ad 0))] → W p l e { frames := 6, cells := 0, slots := 0, locals := 141 } s m args below meth c H locs 0 0 Q (F0 m 178 ls [.int u0, .ref (ad 0), .int u2, .ref (ad 5)]) := by
    intro u0 u2 S H locs ls hf hI hl
    unfold fX3_readsStep_b178 at hf
    obtain ⟨r_178, S_178, hf_178, hf⟩ := zB2_s hf
    refine z_callV (w2 := (wM cy ad S_178)) C 1 (kX3_takes l zq D cy ad u0 S S_178 r_178 hf_178) gX3_readsStep_X3_takes rfl (by decide +kernel) ⟨by decide, by decide⟩ hI 0 rfl rfl rfl hl.1 rfl (Nat.le_of_ble_eq_true rfl) dX3_readsStep_178 ⟨by decide, by decide⟩ (st2 := [.int r_178, .int u2, .ref (ad 5)]) rfl (fun H locs hI => ?_)
    obtain ⟨g_181, hf⟩ := zGI_s hf
    refine z_iast (f := (m_step S_178)) (w2 := (wM cy ad (m_step_u S_178 (upd (m_step S_178) u2.toNatClampNeg r_178)))) hx hb hK hI 5 4 rfl rfl g_181 dX3_readsStep_181 rfl (fun H locs hI => ?_)
    exact hb182 (m_step_u S_178 (upd (m_step S_178) u2.toNatClampNeg r_178)) _ _ _ hf hI (lv_sub hl [0] rfl)
  have hb177 : ∀ (u1 : Int32) (S : MS) (H : Heap) (locs : List Loc) (ls : Array Slot), fX3_readsStep_b177 u1 S = some S' → zI D A s H locs (wM cy ad S) → lv_has ls 3 [(0, .ref (ad 0))] → W p l e { frames := 6, cells := 0, slots := 0, locals := 141 } s m args below meth c H locs 0 0 Q (F0 m 177 ls [.ref (ad 0), .int u1, .ref (ad 5)]) := by
    intro u1 S H locs ls hf hI hl
    unfold fX3_readsStep_b177 at hf
    refine lv_iconst (v := 0) hx hb dX3_readsStep_177 (by decide) ?_
    exact hb178 (0 : Int32) u1 S _ _ _ hf hI (lv_sub hl [0] rfl)
  have hb135 : ∀ (u0 : Int32) (u2 : Int32) (S : MS) (H : Heap) (locs : List Loc) (ls : Array Slot), fX3_readsStep_b135 u0 u2 S = some S' → zI D A s H locs (wM cy ad S) → lv_has ls 3 [(0, .ref (ad 0))] → W p l e { frames := 6, cells := 0, slots := 0, locals := 141 } s m args below meth c H locs 0 0 Q (F0 m 135 ls [.int u0, .ref (ad 0), .int u2, .ref (ad 5)]) := by
    intro u0 u2 S H locs ls hf hI hl
    unfold fX3_readsStep_b135 at hf
    obtain ⟨r_135, S_135, hf_135, hf⟩ := zB2_s hf
    refine z_callV (w2 := (wM cy ad S_135)) C 1 (kX3_takes l zq D cy ad u0 S S_135 r_135 hf_135) gX3_readsStep_X3_takes rfl (by decide +kernel) ⟨by decide, by decide⟩ hI 0 rfl rfl rfl hl.1 rfl (Nat.le_of_ble_eq_true rfl) dX3_readsStep_135 ⟨by decide, by decide⟩ (st2 := [.int r_135, .int u2, .ref (ad 5)]) rfl (fun H locs hI => ?_)
    obtain ⟨g_138, hf⟩ := zGI_s hf
    refine z_iast (f := (m_step S_135)) (w2 := (wM cy ad (m_step_u S_135 (upd (m_step S_135) u2.toNatClampNeg r_135)))) hx hb hK hI 5 4 rfl rfl g_138 dX3_readsStep_138 rfl (fun H locs hI => ?_)
    refine lv_goto (tgt := 182) hx hb dX3_readsStep_139 (by decide) ?_
    exact hb182 (m_step_u S_135 (upd (m_step S_135) u2.toNatClampNeg r_135)) _ _ _ hf hI (lv_sub hl [0] rfl)
  have hb134 : ∀ (u1 : Int32) (S : MS) (H : Heap) (locs : List Loc) (ls : Array Slot), fX3_readsStep_b134 u1 S = some S' → zI D A s H locs (wM cy ad S) → lv_has ls 3 [(0, .ref (ad 0))] → W p l e { frames := 6, cells := 0, slots := 0, locals := 141 } s m args below meth c H locs 0 0 Q (F0 m 134 ls [.ref (ad 0), .int u1, .ref (ad 5)]) := by
    intro u1 S H locs ls hf hI hl
    unfold fX3_readsStep_b134 at hf
    refine lv_iconst (v := 0) hx hb dX3_readsStep_134 (by decide) ?_
    exact hb135 (0 : Int32) u1 S _ _ _ hf hI (lv_sub hl [0] rfl)
  have hb92 : ∀ (v1 : Int32) (v2 : Int32) (u0 : Int32) (u2 : Int32) (S : MS) (H : Heap) (locs : List Loc) (ls : Array Slot), fX3_readsStep_b92 v1 v2 u0 u2 S = some S' → zI D A s H locs (wM cy ad S) → lv_has ls 3 [(0, .ref (ad 0)), (1, .int v1), (2, .int v2)] → W p l e { frames := 6, cells := 0, slots := 0, locals := 141 } s m args below meth c H locs 0 0 Q (F0 m 92 ls [.int u0, .ref (ad 0), .int u2, .ref (ad 5)]) := by
    intro v1 v2 u0 u2 S H locs ls hf hI hl
    unfold fX3_readsStep_b92 at hf
    obtain ⟨r_92, S_92, hf_92, hf⟩ := zB2_s hf
    refine z_callV (w2 := (wM cy ad S_92)) C 1 (kX3_takes l zq D cy ad u0 S S_92 r_92 hf_92) gX3_readsStep_X3_takes rfl (by decide +kernel) ⟨by decide, by decide⟩ hI 0 rfl rfl rfl hl.1 rfl (Nat.le_of_ble_eq_true rfl) dX3_readsStep_92 ⟨by decide, by decide⟩ (st2 := [.int r_92, .int u2, .ref (ad 5)]) rfl (fun H locs hI => ?_)
    obtain ⟨g_95, hf⟩ := zGI_s hf
    refine z_iast (f := (m_step S_92)) (w2 := (wM cy ad (m_step_u S_92 (upd (m_step S_92) u2.toNatClampNeg r_92)))) hx hb hK hI 5 4 rfl rfl g_95 dX3_readsStep_95 rfl (fun H locs hI => ?_)
    refine lv_iload_n hx hb dX3_readsStep_96 rfl (lv_at hl 2 rfl) ?_
    refine lv_iconst (v := 1) hx hb dX3_readsStep_97 (by decide) ?_
    refine lv_icmp_ne (tgt := 142) hx hb dX3_readsStep_98 (by decide) (fun c_98 => ?_) (fun c_98 => ?_)
    · replace hf := zIf c_98 hf
      refine lv_aload_n hx hb dX3_readsStep_142 rfl (lv_at hl 0 rfl) ?_
      refine va_get (D := D) (ci := 3) (v := .ref (ad 5)) (C := RX3) (T := TX3) (N := 27) hx hb hts hiX3 hown hK hI.1 0 rfl rfl 16 (by decide) (hts (.fieldLink RX3 27 "NoughtSumsModel" "step" "[I") (by decide +kernel)) (fun _ h9 => h9) rfl dX3_readsStep_143 ?_
      refine lv_iconst (v := 3) hx hb dX3_readsStep_146 (by decide) ?_
      refine lv_iload_n hx hb dX3_readsStep_147 rfl (lv_at hl 1 rfl) ?_
      refine lv_imul hx hb dX3_readsStep_148 ?_
      refine lv_iconst (v := 2) hx hb dX3_readsStep_149 (by decide) ?_
      refine lv_iadd hx hb dX3_readsStep_150 ?_
      refine lv_aload_n hx hb dX3_readsStep_151 rfl (lv_at hl 0 rfl) ?_
      refine lv_aload_n hx hb dX3_readsStep_152 rfl (lv_at hl 0 rfl) ?_
      refine va_get (D := D) (ci := 3) (v := .int (m_token S_92)) (C := RX3) (T := TX3) (N := 27) hx hb hts hiX3 hown hK hI.1 0 rfl rfl 6 (by decide) (hts (.fieldLink RX3 88 "NoughtSumsModel" "token" "I") (by decide +kernel)) (fun _ h9 => h9) rfl dX3_readsStep_153 ?_
      refine lv_iconst (v := 3) hx hb dX3_readsStep_156 (by decide) ?_
      refine lv_icmp_ne (tgt := 177) hx hb dX3_readsStep_157 (by decide) (fun c_157 => ?_) (fun c_157 => ?_)
      · replace hf := zIf c_157 hf
        exact hb177 (((3 : Int32) * v1) + (2 : Int32)) (m_step_u S_92 (upd (m_step S_92) u2.toNatClampNeg r_92)) _ _ _ hf hI (lv_sub hl [0] rfl)
      · replace hf := zIt c_157 hf
        refine lv_aload_n hx hb dX3_readsStep_160 rfl (lv_at hl 0 rfl) ?_
        refine va_get (D := D) (ci := 3) (v := .int (m_value S_92)) (C := RX3) (T := TX3) (N := 27) hx hb hts hiX3 hown hK hI.1 0 rfl rfl 8 (by decide) (hts (.fieldLink RX3 91 "NoughtSumsModel" "value" "I") (by decide +kernel)) (fun _ h9 => h9) rfl dX3_readsStep_161 ?_
        refine lv_aload_n hx hb dX3_readsStep_164 rfl (lv_at hl 0 rfl) ?_
        refine va_get (D := D) (ci := 3) (v := .int (m_given S_92)) (C := RX3) (T := TX3) (N := 27) hx hb hts hiX3 hown hK hI.1 0 rfl rfl 10 (by decide) (hts (.fieldLink RX3 129 "NoughtSumsModel" "given" "I") (by decide +kernel)) (fun _ h9 => h9) rfl dX3_readsStep_165 ?_
        refine lv_iload_n hx hb dX3_readsStep_168 rfl (lv_at hl 1 rfl) ?_
        refine lv_iadd hx hb dX3_readsStep_169 ?_
        refine lv_icmp_ge (tgt := 177) hx hb dX3_readsStep_170 (by decide) (fun c_170 => ?_) (fun c_170 => ?_)
        · replace hf := zIt c_170 hf
          exact hb177 (((3 : Int32) * v1) + (2 : Int32)) (m_step_u S_92 (upd (m_step S_92) u2.toNatClampNeg r_92)) _ _ _ hf hI (lv_sub hl [0] rfl)
        · replace hf := zIf c_170 hf
          refine lv_iconst (v := 1) hx hb dX3_readsStep_173 (by decide) ?_
          refine lv_goto (tgt := 178) hx hb dX3_readsStep_174 (by decide) ?_
          exact hb178 (1 : Int32) (((3 : Int32) * v1) + (2 : Int32)) (m_step_u S_92 (upd (m_step S_92) u2.toNatClampNeg r_92)) _ _ _ hf hI (lv_sub hl [0] rfl)
    · replace hf := zIt c_98 hf
      refine lv_aload_n hx hb dX3_readsStep_101 rfl (lv_at hl 0 rfl) ?_
      refine va_get (D := D) (ci := 3) (v := .ref (ad 5)) (C := RX3) (T := TX3) (N := 27) hx hb hts hiX3 hown hK hI.1 0 rfl rfl 16 (by decide) (hts (.fieldLink RX3 27 "NoughtSumsModel" "step" "[I") (by decide +kernel)) (fun _ h9 => h9) rfl dX3_readsStep_102 ?_
      refine lv_iconst (v := 3) hx hb dX3_readsStep_105 (by decide) ?_
      refine lv_iload_n hx hb dX3_readsStep_106 rfl (lv_at hl 1 rfl) ?_
      refine lv_imul hx hb dX3_readsStep_107 ?_
      refine lv_iconst (v := 2) hx hb dX3_readsStep_108 (by decide) ?_
      refine lv_iadd hx hb dX3_readsStep_109 ?_
      refine lv_aload_n hx hb dX3_readsStep_110 rfl (lv_at hl 0 rfl) ?_
      refine lv_aload_n hx hb dX3_readsStep_111 rfl (lv_at hl 0 rfl) ?_
      refine va_get (D := D) (ci := 3) (v := .int (m_token S_92)) (C := RX3) (T := TX3) (N := 27) hx hb hts hiX3 hown hK hI.1 0 rfl rfl 6 (by decide) (hts (.fieldLink RX3 88 "NoughtSumsModel" "token" "I") (by decide +kernel)) (fun _ h9 => h9) rfl dX3_readsStep_112 ?_
      refine lv_iconst (v := 1) hx hb dX3_readsStep_115 (by decide) ?_
      refine lv_icmp_ne (tgt := 134) hx hb dX3_readsStep_116 (by decide) (fun c_116 => ?_) (fun c_116 => ?_)
      · replace hf := zIf c_116 hf
        exact hb134 (((3 : Int32) * v1) + (2 : Int32)) (m_step_u S_92 (upd (m_step S_92) u2.toNatClampNeg r_92)) _ _ _ hf hI (lv_sub hl [0] rfl)
      · replace hf := zIt c_116 hf
        refine lv_aload_n hx hb dX3_readsStep_119 rfl (lv_at hl 0 rfl) ?_
        refine va_get (D := D) (ci := 3) (v := .int (m_value S_92)) (C := RX3) (T := TX3) (N := 27) hx hb hts hiX3 hown hK hI.1 0 rfl rfl 8 (by decide) (hts (.fieldLink RX3 91 "NoughtSumsModel" "value" "I") (by decide +kernel)) (fun _ h9 => h9) rfl dX3_readsStep_120 ?_
        obtain ⟨r_123, hf_123, hf⟩ := zB1_s hf
        refine z_callS C 1 (kX3_letters l zq D (m_value S_92) r_123 hf_123) gX3_readsStep_X3_letters rfl (by decide +kernel) ⟨by decide, by decide⟩ hI rfl hl.1 rfl (Nat.le_of_ble_eq_true rfl) dX3_readsStep_123 ⟨by decide, by decide⟩ (st2 := [.int r_123, .ref (ad 0), .int (((3 : Int32) * v1) + (2 : Int32)), .ref (ad 5)]) rfl (fun H locs hI => ?_)
        refine lv_iconst (v := 1) hx hb dX3_readsStep_126 (by decide) ?_
        refine lv_icmp_ne (tgt := 134) hx hb dX3_readsStep_127 (by decide) (fun c_127 => ?_) (fun c_127 => ?_)
        · replace hf := zIf c_127 hf
          exact hb134 (((3 : Int32) * v1) + (2 : Int32)) (m_step_u S_92 (upd (m_step S_92) u2.toNatClampNeg r_92)) _ _ _ hf hI (lv_sub hl [0] rfl)
        · replace hf := zIt c_127 hf
          refine lv_iconst (v := 1) hx hb dX3_readsStep_130 (by decide) ?_
          refine lv_goto (tgt := 135) hx hb dX3_readsStep_131 (by decide) ?_
          exact hb135 (1 : Int32) (((3 : Int32) * v1) + (2 : Int32)) (m_step_u S_92 (upd (m_step S_92) u2.toNatClampNeg r_92)) _ _ _ hf hI (lv_sub hl [0] rfl)
  have hb91 : ∀ (v1 : Int32) (v2 : Int32) (u1 : Int32) (S : MS) (H : Heap) (locs : List Loc) (ls : Array Slot), fX3_readsStep_b91 v1 v2 u1 S = some S' → zI D A s H locs (wM cy ad S) → lv_has ls 3 [(0, .ref (ad 0)), (1, .int v1), (2, .int v2)] → W p l e { frames := 6, cells := 0, slots := 0, locals := 141 } s m args below meth c H locs 0 0 Q (F0 m 91 ls [.ref (ad 0), .int u1, .ref (ad 5)]) := by
    intro v1 v2 u1 S H locs ls hf hI hl
    unfold fX3_readsStep_b91 at hf
    refine lv_iconst (v := 0) hx hb dX3_readsStep_91 (by decide) ?_
    exact hb92 v1 v2 (0 : Int32) u1 S _ _ _ hf hI (lv_sub hl [0, 1, 2] rfl)
  have hb52 : ∀ (u0 : Int64) (u1 : Int32) (S : MS) (H : Heap) (locs : List Loc) (ls : Array Slot), fX3_readsStep_b52 u0 u1 S = some S' → zI D A s H locs (wM cy ad S) → lv_has ls 3 [(0, .ref (ad 0))] → W p l e { frames := 6, cells := 0, slots := 0, locals := 141 } s m args below meth c H locs 0 0 Q (F0 m 52 ls [.long u0, .int u1, .ref (ad 6)]) := by
    intro u0 u1 S H locs ls hf hI hl
    unfold fX3_readsStep_b52 at hf
    obtain ⟨g_52, hf⟩ := zGI_s hf
    refine z_last (f := (m_claimed S)) (w2 := (wM cy ad (m_claimed_u S (vp_updL (m_claimed S) u1.toNatClampNeg u0)))) hx hb hK hI 6 5 rfl rfl g_52 dX3_readsStep_52 rfl (fun H locs hI => ?_)
    refine lv_goto (tgt := 182) hx hb dX3_readsStep_53 (by decide) ?_
    exact hb182 (m_claimed_u S (vp_updL (m_claimed S) u1.toNatClampNeg u0)) _ _ _ hf hI (lv_sub hl [0] rfl)
  have hb14 : ∀ (v1 : Int32) (u0 : Int32) (S : MS) (H : Heap) (locs : List Loc) (ls : Array Slot), fX3_readsStep_b14 v1 u0 S = some S' → zI D A s H locs (wM cy ad S) → lv_has ls 3 [(0, .ref (ad 0)), (1, .int v1)] → W p l e { frames := 6, cells := 0, slots := 0, locals := 141 } s m args below meth c H locs 0 0 Q (F0 m 14 ls [.int u0, .ref (ad 0)]) := by
    intro v1 u0 S H locs ls hf hI hl
    unfold fX3_readsStep_b14 at hf
    obtain ⟨r_14, S_14, hf_14, hf⟩ := zB2_s hf
    refine z_callV (w2 := (wM cy ad S_14)) C 1 (kX3_takes l zq D cy ad u0 S S_14 r_14 hf_14) gX3_readsStep_X3_takes rfl (by decide +kernel) ⟨by decide, by decide⟩ hI 0 rfl rfl rfl hl.1 rfl (Nat.le_of_ble_eq_true rfl) dX3_readsStep_14 ⟨by decide, by decide⟩ (st2 := [.int r_14]) rfl (fun H locs hI => ?_)
    refine lv_istore_n (lv' := [(2, .int r_14), (0, .ref (ad 0)), (1, .int v1)]) hx hb dX3_readsStep_17 rfl hl (by decide) rfl (fun ls hl => ?_)
    refine lv_aload_n hx hb dX3_readsStep_18 rfl (lv_at hl 1 rfl) ?_
    refine va_get (D := D) (ci := 3) (v := .ref (ad 5)) (C := RX3) (T := TX3) (N := 27) hx hb hts hiX3 hown hK hI.1 0 rfl rfl 16 (by decide) (hts (.fieldLink RX3 27 "NoughtSumsModel" "step" "[I") (by decide +kernel)) (fun _ h9 => h9) rfl dX3_readsStep_19 ?_
    refine lv_iconst (v := 3) hx hb dX3_readsStep_22 (by decide) ?_
    refine lv_iload_n hx hb dX3_readsStep_23 rfl (lv_at hl 2 rfl) ?_
    refine lv_imul hx hb dX3_readsStep_24 ?_
    refine lv_iload_n hx hb dX3_readsStep_25 rfl (lv_at hl 0 rfl) ?_
    obtain ⟨g_26, hf⟩ := zGI_s hf
    refine z_iast (f := (m_step S_14)) (w2 := (wM cy ad (m_step_u S_14 (upd (m_step S_14) ((3 : Int32) * v1).toNatClampNeg r_14)))) hx hb hK hI 5 4 rfl rfl g_26 dX3_readsStep_26 rfl (fun H locs hI => ?_)
    refine lv_iload_n hx hb dX3_readsStep_27 rfl (lv_at hl 0 rfl) ?_
    refine lv_iconst (v := 3) hx hb dX3_readsStep_28 (by decide) ?_
    refine lv_icmp_ne (tgt := 56) hx hb dX3_readsStep_29 (by decide) (fun c_29 => ?_) (fun c_29 => ?_)
    · replace hf := zIf c_29 hf
      refine lv_aload_n hx hb dX3_readsStep_56 rfl (lv_at hl 1 rfl) ?_
      refine va_get (D := D) (ci := 3) (v := .ref (ad 5)) (C := RX3) (T := TX3) (N := 27) hx hb hts hiX3 hown hK hI.1 0 rfl rfl 16 (by decide) (hts (.fieldLink RX3 27 "NoughtSumsModel" "step" "[I") (by decide +kernel)) (fun _ h9 => h9) rfl dX3_readsStep_57 ?_
      refine lv_iconst (v := 3) hx hb dX3_readsStep_60 (by decide) ?_
      refine lv_iload_n hx hb dX3_readsStep_61 rfl (lv_at hl 2 rfl) ?_
      refine lv_imul hx hb dX3_readsStep_62 ?_
      refine lv_iconst (v := 1) hx hb dX3_readsStep_63 (by decide) ?_
      refine lv_iadd hx hb dX3_readsStep_64 ?_
      refine lv_aload_n hx hb dX3_readsStep_65 rfl (lv_at hl 1 rfl) ?_
      refine lv_aload_n hx hb dX3_readsStep_66 rfl (lv_at hl 1 rfl) ?_
      refine va_get (D := D) (ci := 3) (v := .int (m_token S_14)) (C := RX3) (T := TX3) (N := 27) hx hb hts hiX3 hown hK hI.1 0 rfl rfl 6 (by decide) (hts (.fieldLink RX3 88 "NoughtSumsModel" "token" "I") (by decide +kernel)) (fun _ h9 => h9) rfl dX3_readsStep_67 ?_
      refine lv_iconst (v := 3) hx hb dX3_readsStep_70 (by decide) ?_
      refine lv_icmp_ne (tgt := 91) hx hb dX3_readsStep_71 (by decide) (fun c_71 => ?_) (fun c_71 => ?_)
      · replace hf := zIf c_71 hf
        exact hb91 v1 r_14 (((3 : Int32) * v1) + (1 : Int32)) (m_step_u S_14 (upd (m_step S_14) ((3 : Int32) * v1).toNatClampNeg r_14)) _ _ _ hf hI (lv_sub hl [1, 2, 0] rfl)
      · replace hf := zIt c_71 hf
        refine lv_aload_n hx hb dX3_readsStep_74 rfl (lv_at hl 1 rfl) ?_
        refine va_get (D := D) (ci := 3) (v := .int (m_value S_14)) (C := RX3) (T := TX3) (N := 27) hx hb hts hiX3 hown hK hI.1 0 rfl rfl 8 (by decide) (hts (.fieldLink RX3 91 "NoughtSumsModel" "value" "I") (by decide +kernel)) (fun _ h9 => h9) rfl dX3_readsStep_75 ?_
        refine lv_aload_n hx hb dX3_readsStep_78 rfl (lv_at hl 1 rfl) ?_
        refine va_get (D := D) (ci := 3) (v := .int (m_given S_14)) (C := RX3) (T := TX3) (N := 27) hx hb hts hiX3 hown hK hI.1 0 rfl rfl 10 (by decide) (hts (.fieldLink RX3 129 "NoughtSumsModel" "given" "I") (by decide +kernel)) (fun _ h9 => h9) rfl dX3_readsStep_79 ?_
        refine lv_iload_n hx hb dX3_readsStep_82 rfl (lv_at hl 2 rfl) ?_
        refine lv_iadd hx hb dX3_readsStep_83 ?_
        refine lv_icmp_ge (tgt := 91) hx hb dX3_readsStep_84 (by decide) (fun c_84 => ?_) (fun c_84 => ?_)
        · replace hf := zIt c_84 hf
          exact hb91 v1 r_14 (((3 : Int32) * v1) + (1 : Int32)) (m_step_u S_14 (upd (m_step S_14) ((3 : Int32) * v1).toNatClampNeg r_14)) _ _ _ hf hI (lv_sub hl [1, 2, 0] rfl)
        · replace hf := zIf c_84 hf
          refine lv_iconst (v := 1) hx hb dX3_readsStep_87 (by decide) ?_
          refine lv_goto (tgt := 92) hx hb dX3_readsStep_88 (by decide) ?_
          exact hb92 v1 r_14 (1 : Int32) (((3 : Int32) * v1) + (1 : Int32)) (m_step_u S_14 (upd (m_step S_14) ((3 : Int32) * v1).toNatClampNeg r_14)) _ _ _ hf hI (lv_sub hl [1, 2, 0] rfl)
    · replace hf := zIt c_29 hf
      refine lv_aload_n hx hb dX3_readsStep_32 rfl (lv_at hl 1 rfl) ?_
      refine va_get (D := D) (ci := 3) (v := .ref (ad 6)) (C := RX3) (T := TX3) (N := 27) hx hb hts hiX3 hown hK hI.1 0 rfl rfl 17 (by decide) (hts (.fieldLink RX3 30 "NoughtSumsModel" "claimed" "[J") (by decide +kernel)) (fun _ h9 => h9) rfl dX3_readsStep_33 ?_
      refine lv_iload_n hx hb dX3_readsStep_36 rfl (lv_at hl 2 rfl) ?_
      refine lv_aload_n hx hb dX3_readsStep_37 rfl (lv_at hl 1 rfl) ?_
      obtain ⟨r_38, S_38, hf_38, hf⟩ := zB2_s hf
      refine z_callV (w2 := (wM cy ad S_38)) C 0 (kX3_isWell l zq D cy ad (m_step_u S_14 (upd (m_step S_14) ((3 : Int32) * v1).toNatClampNeg r_14)) S_38 r_38 hf_38) gX3_readsStep_X3_isWell rfl (by decide +kernel) ⟨by decide, by decide⟩ hI 0 rfl rfl rfl hl.1 rfl (Nat.le_of_ble_eq_true rfl) dX3_readsStep_38 ⟨by decide, by decide⟩ (st2 := [.int r_38, .int v1, .ref (ad 6)]) rfl (fun H locs hI => ?_)
      refine lv_if_eq (tgt := 51) hx hb dX3_readsStep_41 (by decide) (fun c_41 => ?_) (fun c_41 => ?_)
      · replace hf := zIt c_41 hf
        refine lv_lconst (v := 0) hx hb dX3_readsStep_51 (by decide) ?_
        exact hb52 (0 : Int64) v1 S_38 _ _ _ hf hI (lv_sub hl [1] rfl)
      · replace hf := zIf c_41 hf
        refine lv_aload_n hx hb dX3_readsStep_44 rfl (lv_at hl 1 rfl) ?_
        obtain ⟨r_45, S_45, hf_45, hf⟩ := zB2_s hf
        refine z_callV (w2 := (wM cy ad S_45)) C 0 (kX3_readsSum l zq D cy ad S_38 S_45 r_45 hf_45) gX3_readsStep_X3_readsSum rfl (by decide +kernel) ⟨by decide, by decide⟩ hI 0 rfl rfl rfl hl.1 rfl (Nat.le_of_ble_eq_true rfl) dX3_readsStep_45 ⟨by decide, by decide⟩ (st2 := [.long r_45, .int v1, .ref (ad 6)]) rfl (fun H locs hI => ?_)
        refine lv_goto (tgt := 52) hx hb dX3_readsStep_48 (by decide) ?_
        exact hb52 r_45 v1 S_45 _ _ _ hf hI (lv_sub hl [1] rfl)
  unfold fX3_readsStep at hf
  refine lv_aload_n hx hb dX3_readsStep_0 rfl (lv_at hl 0 rfl) ?_
  refine lv_aload_n hx hb dX3_readsStep_1 rfl (lv_at hl 0 rfl) ?_
  refine va_get (D := D) (ci := 3) (v := .int (m_token S)) (C := RX3) (T := TX3) (N := 27) hx hb hts hiX3 hown hK hI.1 0 rfl rfl 6 (by decide) (hts (.fieldLink RX3 88 "NoughtSumsModel" "token" "I") (by decide +kernel)) (fun _ h9 => h9) rfl dX3_readsStep_2 ?_
  refine lv_iconst (v := 2) hx hb dX3_readsStep_5 (by decide) ?_
  refine lv_icmp_ne (tgt := 13) hx hb dX3_readsStep_6 (by decide) (fun c_6 => ?_) (fun c_6 => ?_)
  · replace hf := zIf c_6 hf
    refine lv_iconst (v := 0) hx hb dX3_readsStep_13 (by decide) ?_
    exact hb14 a1 (0 : Int32) S _ _ _ hf hI (lv_sub hl [0, 1] rfl)
  · replace hf := zIt c_6 hf
    refine lv_iconst (v := 1) hx hb dX3_readsStep_9 (by decide) ?_
    refine lv_goto (tgt := 14) hx hb dX3_readsStep_10 (by decide) ?_
    exact hb14 a1 (1 : Int32) S _ _ _ hf hI (lv_sub hl [0, 1] rfl)

def fX3_isFollowing (a1 : Int64) (S : MS) : Option (Int32 × MS) :=
(zB1 (fX3_values a1) (fun r_1 =>
(if (lg_cmp (r_1 &&& (m_common S)) (0 : Int64)) = 0 then some ((1 : Int32), S) else
some ((0 : Int32), S))))
set_option maxHeartbeats 4000000 in
set_option maxRecDepth 100000 in
theorem kX3_isFollowing (l : Launch) (zq : Nat → Nat) (D : va_G) (cy : Nat → ClassId) (ad : Nat → Nat) (a1 : Int64) (S S' : MS) (r : Int32) (hf : fX3_isFollowing a1 S = some (r, S')) : zMet l yX3_isFollowing wsX3_isFollowing 2 49 zq D (tM cy) (wM cy ad S) [.ref (ad 0), .long a1] (some (.int r)) (wM cy ad S') := by
  refine zMet.of cX3_isFollowing 3 (some .boolean) (by decide) rfl (Nat.le_of_ble_eq_true rfl) ?_
  intro p e s m args below meth c A ls C hl hI
  have hl : lv_has ls 3 [(0, .ref (ad 0)), (1, .long a1)] := hl
  have C : zC p s m args meth c cX3_isFollowing 3 (some .boolean) RX3 wsX3_isFollowing D (tM cy) zq A := C
  obtain ⟨hx, hb, hml, hown, hts, hret, hlk, hK, hX, hA⟩ := id C
  have hiX3 : ∀ w ∈ wsX30, w ∈ wsX3_isFollowing := by decide +kernel
  obtain ⟨Q, hQ⟩ : ∃ Q, Q = MQ below (zQ D (tM cy) (wM cy ad S') (some (.int r)) A) args s 0 0 A := ⟨_, rfl⟩
  rw [← hQ]
  unfold fX3_isFollowing at hf
  refine lv_lload_n hx hb dX3_isFollowing_0 rfl (lv_at hl 1 rfl) ?_
  obtain ⟨r_1, hf_1, hf⟩ := zB1_s hf
  refine z_callS C 1 (kX3_values l zq D a1 r_1 hf_1) gX3_isFollowing_X3_values rfl (by decide +kernel) ⟨by decide, by decide⟩ hI rfl hl.1 rfl (Nat.le_of_ble_eq_true rfl) dX3_isFollowing_1 ⟨by decide, by decide⟩ (st2 := [.long r_1]) rfl (fun H locs hI => ?_)
  refine lv_aload_n hx hb dX3_isFollowing_4 rfl (lv_at hl 0 rfl) ?_
  refine va_get (D := D) (ci := 3) (v := .long (m_common S)) (C := RX3) (T := TX3) (N := 27) hx hb hts hiX3 hown hK hI.1 0 rfl rfl 18 (by decide) (hts (.fieldLink RX3 169 "NoughtSumsModel" "common" "J") (by decide +kernel)) (fun _ h9 => h9) rfl dX3_isFollowing_5 ?_
  refine lv_land hx hb dX3_isFollowing_8 ?_
  refine lv_lconst (v := 0) hx hb dX3_isFollowing_9 (by decide) ?_
  refine W.lcmp hx hb dX3_isFollowing_10 ?_
  refine lv_if_ne (tgt := 18) hx hb dX3_isFollowing_11 (by decide) (fun c_11 => ?_) (fun c_11 => ?_)
  · replace hf := zIf c_11 hf
    refine lv_iconst (v := 0) hx hb dX3_isFollowing_18 (by decide) ?_
    obtain ⟨h1, h2⟩ := zP2 hf
    rw [hQ]
    exact z_zret C (by rw [h2]; exact hI) (by rw [h1]) rfl dX3_isFollowing_19
  · replace hf := zIt c_11 hf
    refine lv_iconst (v := 1) hx hb dX3_isFollowing_14 (by decide) ?_
    refine lv_goto (tgt := 19) hx hb dX3_isFollowing_15 (by decide) ?_
    obtain ⟨h1, h2⟩ := zP2 hf
    rw [hQ]
    exact z_zret C (by rw [h2]; exact hI) (by rw [h1]) rfl dX3_isFollowing_19

def fX3_proof_b252 (k89 : Int32 → MS → Option (Int32 × MS)) (v2 : Int32) (S : MS) : Option (Int32 × MS) :=
k89 (v2 + (1 : Int32)) S

def fX3_proof_b226 (k89 : Int32 → MS → Option (Int32 × MS)) (v2 : Int32) (v7 : Int64) (S : MS) : Option (Int32 × MS) :=
(zGI ((m_given S) + (m_made S)) 32
(fX3_proof_b252 k89 v2 (m_made_u (m_line_u S (vp_updL (m_line S) ((m_given S) + (m_made S)).toNatClampNeg v7)) ((m_made S) + (1 : Int32)))))

def fX3_proof_b202 (k89 : Int32 → MS → Option (Int32 × MS)) (v2 : Int32) (v3 : Int32) (u0 : Int64) (S : MS) : Option (Int32 × MS) :=
(if v3 = (3 : Int32) then (zB2 (fX3_isFollowing u0 S) (fun r_212 S_212 =>
(if r_212 = 0 then fX3_proof_b252 k89 v2 (m_wrongStep_u S_212 v2) else
fX3_proof_b226 k89 v2 u0 S_212))) else
fX3_proof_b226 k89 v2 u0 S)

def fX3_proof_b89 (k89 : Int32 → MS → Option (Int32 × MS)) (v2 : Int32) (S : MS) : Option (Int32 × MS) :=
(if (m_steps S) ≤ v2 then some ((m_made S), S) else
(if (m_wrongStep S) = (-9 : Int32) then (zGI ((3 : Int32) * v2) 72
((zL ((m_step S) ((3 : Int32) * v2).toNatClampNeg) (fun n_114 =>
(zGI (((3 : Int32) * v2) + (1 : Int32)) 72
((zGI ((m_step S) (((3 : Int32) * v2) + (1 : Int32)).toNatClampNeg) 32
((zL ((m_line S) ((m_step S) (((3 : Int32) * v2) + (1 : Int32)).toNatClampNeg).toNatClampNeg) (fun n_130 =>
(zGI (((3 : Int32) * v2) + (2 : Int32)) 72
((zL ((m_step S) (((3 : Int32) * v2) + (2 : Int32)).toNatClampNeg) (fun n_142 =>
(if n_114 = (3 : Int32) then (zGI v2 24
(fX3_proof_b202 k89 v2 n_114 ((m_claimed S) v2.toNatClampNeg) S)) else
(if n_114 = 0 then (zGI n_142 32
(fX3_proof_b202 k89 v2 n_114 (n_130 ^^^ ((m_line S) n_142.toNatClampNeg)) S)) else
(if n_114 = (1 : Int32) then (zB1 (fX3_raised n_130 n_142) (fun r_184 =>
fX3_proof_b202 k89 v2 n_114 r_184 S)) else
(zGI n_142 32
((zB1 (fX3_multiplied n_130 ((m_line S) n_142.toNatClampNeg)) (fun r_199 =>
fX3_proof_b202 k89 v2 n_114 r_199 S))))))))))))))))))))) else
some ((m_made S), S)))
def fX3_proof_b89L : Nat → Int32 → MS → Option (Int32 × MS)
  | 0, _, _ => none
  | n + 1, v2, S => fX3_proof_b89 (fX3_proof_b89L n) v2 S

def fX3_proof_b51 (v1 : Int32) (S : MS) : Option (Int32 × MS) :=
(zB2 (fX3_isWell S) (fun r_52 S_52 =>
(if r_52 = 0 then some (((-10 : Int32) - (m_fault S_52)), S_52) else
fX3_proof_b89L zF (0 : Int32) (m_typed_u (m_wrongStep_u (m_made_u (m_steps_u S_52 v1) (0 : Int32)) (-9 : Int32)) (0 : Int32)))))

def fX3_proof_b11 (k11 : Int32 → MS → Option (Int32 × MS)) (v1 : Int32) (S : MS) : Option (Int32 × MS) :=
(zB2 (fX3_isWell S) (fun r_12 S_12 =>
(if r_12 = 0 then fX3_proof_b51 v1 S_12 else
(if (m_token S_12) = 0 then fX3_proof_b51 v1 S_12 else
(if v1 = (24 : Int32) then (zB2 (fX3_takes (0 : Int32) S_12) (fun r_33 S_33 =>
k11 v1 S_33)) else
(zB1 (fX3_readsStep v1 S_12) (fun S_42 =>
k11 (v1 + (1 : Int32)) S_42)))))))
def fX3_proof_b11L : Nat → Int32 → MS → Option (Int32 × MS)
  | 0, _, _ => none
  | n + 1, v1, S => fX3_proof_b11 (fX3_proof_b11L n) v1 S

def fX3_proof  (S : MS) : Option (Int32 × MS) :=
(zB1 (fX3_begins (m_thrown_u S (0 : Int32))) (fun S_8 =>
fX3_proof_b11L zF (0 : Int32) S_8))
set_option maxHeartbeats 4000000 in
set_option maxRecDepth 100000 in
theorem kX3_proof (l : Launch) (zq : Nat → Nat) (D : va_G) (cy : Nat → ClassId) (ad : Nat → Nat)  (S S' : MS) (r : Int32) (hf : fX3_proof S = some (r, S')) : zMet l yX3_proof wsX3_proof 7 163 zq D (tM cy) (wM cy ad S) [.ref (ad 0)] (some (.int r)) (wM cy ad S') := by
  refine zMet.of cX3_proof 9 (some .int) (by decide) rfl (Nat.le_of_ble_eq_true rfl) ?_
  intro p e s m args below meth c A ls C hl hI
  have hl : lv_has ls 9 [(0, .ref (ad 0))] := hl
  have C : zC p s m args meth c cX3_proof 9 (some .int) RX3 wsX3_proof D (tM cy) zq A := C
  obtain ⟨hx, hb, hml, hown, hts, hret, hlk, hK, hX, hA⟩ := id C
  have hiX3 : ∀ w ∈ wsX30, w ∈ wsX3_proof := by decide +kernel
  obtain ⟨Q, hQ⟩ : ∃ Q, Q = MQ below (zQ D (tM cy) (wM cy ad S') (some (.int r)) A) args s 0 0 A := ⟨_, rfl⟩
  rw [← hQ]
  have hb252 : ∀ (k89 : Int32 → MS → Option (Int32 × MS)) (hk89 : ∀ (v2 : Int32) (S : MS) (H : Heap) (locs : List Loc) (ls : Array Slot), k89 v2 S = some (r, S') → zI D A s H locs (wM cy ad S) → lv_has ls 9 [(0, .ref (ad 0)), (2, .int v2)] → W p l e { frames := 7, cells := 0, slots := 0, locals := 163 } s m args below meth c H locs 0 0 Q (F0 m 89 ls [])), ∀ (v2 : Int32) (S : MS) (H : Heap) (locs : List Loc) (ls : Array Slot), fX3_proof_b252 k89 v2 S = some (r, S') → zI D A s H locs (wM cy ad S) → lv_has ls 9 [(0, .ref (ad 0)), (2, .int v2)] → W p l e { frames := 7, cells := 0, slots := 0, locals := 163 } s m args below meth c H locs 0 0 Q (F0 m 252 ls []) := by
    intro k89 hk89 v2 S H locs ls hf hI hl
    unfold fX3_proof_b252 at hf
    refine lv_iinc (v := (v2 + (1 : Int32))) (lv' := [(2, .int (v2 + (1 : Int32))), (0, .ref (ad 0))]) hx hb dX3_proof_252 hl (k := 1) rfl rfl (by decide) rfl (fun ls hl => ?_)
    refine lv_goto (tgt := 89) hx hb dX3_proof_255 (by decide) ?_
    exact hk89 (v2 + (1 : Int32)) S _ _ _ hf hI (lv_sub hl [1, 0] rfl)
  have hb226 : ∀ (k89 : Int32 → MS → Option (Int32 × MS)) (hk89 : ∀ (v2 : Int32) (S : MS) (H : Heap) (locs : List Loc) (ls : Array Slot), k89 v2 S = some (r, S') → zI D A s H locs (wM cy ad S) → lv_has ls 9 [(0, .ref (ad 0)), (2, .int v2)] → W p l e { frames := 7, cells := 0, slots := 0, locals := 163 } s m args below meth c H locs 0 0 Q (F0 m 89 ls [])), ∀ (v2 : Int32) (v7 : Int64) (S : MS) (H : Heap) (locs : List Loc) (ls : Array Slot), fX3_proof_b226 k89 v2 v7 S = some (r, S') → zI D A s H locs (wM cy ad S) → lv_has ls 9 [(0, .ref (ad 0)), (2, .int v2), (7, .long v7)] → W p l e { frames := 7, cells := 0, slots := 0, locals := 163 } s m args below meth c H locs 0 0 Q (F0 m 226 ls []) := by
    intro k89 hk89 v2 v7 S H locs ls hf hI hl
    unfold fX3_proof_b226 at hf
    refine lv_aload_n hx hb dX3_proof_226 rfl (lv_at hl 0 rfl) ?_
    refine va_get (D := D) (ci := 3) (v := .ref (ad 3)) (C := RX3) (T := TX3) (N := 27) hx hb hts hiX3 hown hK hI.1 0 rfl rfl 14 (by decide) (hts (.fieldLink RX3 20 "NoughtSumsModel" "line" "[J") (by decide +kernel)) (fun _ h9 => h9) rfl dX3_proof_227 ?_
    refine lv_aload_n hx hb dX3_proof_230 rfl (lv_at hl 0 rfl) ?_
    refine va_get (D := D) (ci := 3) (v := .int (m_given S)) (C := RX3) (T := TX3) (N := 27) hx hb hts hiX3 hown hK hI.1 0 rfl rfl 10 (by decide) (hts (.fieldLink RX3 129 "NoughtSumsModel" "given" "I") (by decide +kernel)) (fun _ h9 => h9) rfl dX3_proof_231 ?_
    refine lv_aload_n hx hb dX3_proof_234 rfl (lv_at hl 0 rfl) ?_
    refine va_get (D := D) (ci := 3) (v := .int (m_made S)) (C := RX3) (T := TX3) (N := 27) hx hb hts hiX3 hown hK hI.1 0 rfl rfl 11 (by decide) (hts (.fieldLink RX3 132 "NoughtSumsModel" "made" "I") (by decide +kernel)) (fun _ h9 => h9) rfl dX3_proof_235 ?_
    refine lv_iadd hx hb dX3_proof_238 ?_
    refine lv_lload hx hb dX3_proof_239 (lv_at hl 2 rfl) ?_
    obtain ⟨g_241, hf⟩ := zGI_s hf
    refine z_last (f := (m_line S)) (w2 := (wM cy ad (m_line_u S (vp_updL (m_line S) ((m_given S) + (m_made S)).toNatClampNeg v7)))) hx hb hK hI 3 2 rfl rfl g_241 dX3_proof_241 rfl (fun H locs hI => ?_)
    refine lv_aload_n hx hb dX3_proof_242 rfl (lv_at hl 0 rfl) ?_
    refine lv_dup hx hb dX3_proof_243 rfl ?_
    refine va_get (D := D) (ci := 3) (v := .int (m_made S)) (C := RX3) (T := TX3) (N := 27) hx hb hts hiX3 hown hK hI.1 0 rfl rfl 11 (by decide) (hts (.fieldLink RX3 132 "NoughtSumsModel" "made" "I") (by decide +kernel)) (fun _ h9 => h9) rfl dX3_proof_244 ?_
    refine lv_iconst (v := 1) hx hb dX3_proof_247 (by decide) ?_
    refine lv_iadd hx hb dX3_proof_248 ?_
    refine z_put (D := D) (ci := 3) (v := .int ((m_made S) + (1 : Int32))) (ty := .int) (C := RX3) (T := TX3) (N := 27) (w2 := (wM cy ad (m_made_u (m_line_u S (vp_updL (m_line S) ((m_given S) + (m_made S)).toNatClampNeg v7)) ((m_made S) + (1 : Int32))))) hx hb hts hiX3 tyX3 tyX3_ok nmX3 hown hK hI 0 rfl rfl 11 (by decide) (hts (.fieldLink RX3 132 "NoughtSumsModel" "made" "I") (by decide +kernel)) (fun _ h9 => h9) rfl (by decide +kernel) rfl rfl (Nat.le_of_ble_eq_true rfl) dX3_proof_249 rfl (fun H locs hI => ?_)
    exact hb252 k89 hk89 v2 (m_made_u (m_line_u S (vp_updL (m_line S) ((m_given S) + (m_made S)).toNatClampNeg v7)) ((m_made S) + (1 : Int32))) _ _ _ hf hI (lv_sub hl [0, 1] rfl)
  have hb202 : ∀ (k89 : Int32 → MS → Option (Int32 × MS)) (hk89 : ∀ (v2 : Int32) (S : MS) (H : Heap) (locs : List Loc) (ls : Array Slot), k89 v2 S = some (r, S') → zI D A s H locs (wM cy ad S) → lv_has ls 9 [(0, .ref (ad 0)), (2, .int v2)] → W p l e { frames := 7, cells := 0, slots := 0, locals := 163 } s m args below meth c H locs 0 0 Q (F0 m 89 ls [])), ∀ (v2 : Int32) (v3 : Int32) (u0 : Int64) (S : MS) (H : Heap) (locs : List Loc) (ls : Array Slot), fX3_proof_b202 k89 v2 v3 u0 S = some (r, S') → zI D A s H locs (wM cy ad S) → lv_has ls 9 [(0, .ref (ad 0)), (2, .int v2), (3, .int v3)] → W p l e { frames := 7, cells := 0, slots := 0, locals := 163 } s m args below meth c H locs 0 0 Q (F0 m 202 ls [.long u0]) := by
    intro k89 hk89 v2 v3 u0 S H locs ls hf hI hl
    unfold fX3_proof_b202 at hf
    refine lv_lstore (lv' := [(7, .long u0), (0, .ref (ad 0)), (2, .int v2), (3, .int v3)]) hx hb dX3_proof_202 hl (by decide) rfl (fun ls hl => ?_)
    refine lv_iload_n hx hb dX3_proof_204 rfl (lv_at hl 3 rfl) ?_
    refine lv_iconst (v := 3) hx hb dX3_proof_205 (by decide) ?_
    refine lv_icmp_ne (tgt := 226) hx hb dX3_proof_206 (by decide) (fun c_206 => ?_) (fun c_206 => ?_)
    · replace hf := zIf c_206 hf
      exact hb226 k89 hk89 v2 u0 S _ _ _ hf hI (lv_sub hl [1, 2, 0] rfl)
    · replace hf := zIt c_206 hf
      refine lv_aload_n hx hb dX3_proof_209 rfl (lv_at hl 1 rfl) ?_
      refine lv_lload hx hb dX3_proof_210 (lv_at hl 0 rfl) ?_
      obtain ⟨r_212, S_212, hf_212, hf⟩ := zB2_s hf
      refine z_callV (w2 := (wM cy ad S_212)) C 1 (kX3_isFollowing l zq D cy ad u0 S S_212 r_212 hf_212) gX3_proof_X3_isFollowing rfl (by decide +kernel) ⟨by decide, by decide⟩ hI 0 rfl rfl rfl hl.1 rfl (Nat.le_of_ble_eq_true rfl) dX3_proof_212 ⟨by decide, by decide⟩ (st2 := [.int r_212]) rfl (fun H locs hI => ?_)
      refine lv_if_ne (tgt := 226) hx hb dX3_proof_215 (by decide) (fun c_215 => ?_) (fun c_215 => ?_)
      · replace hf := zIf c_215 hf
        exact hb226 k89 hk89 v2 u0 S_212 _ _ _ hf hI (lv_sub hl [1, 2, 0] rfl)
      · replace hf := zIt c_215 hf
        refine lv_aload_n hx hb dX3_proof_218 rfl (lv_at hl 1 rfl) ?_
        refine lv_iload_n hx hb dX3_proof_219 rfl (lv_at hl 2 rfl) ?_
        refine z_put (D := D) (ci := 3) (v := .int v2) (ty := .int) (C := RX3) (T := TX3) (N := 27) (w2 := (wM cy ad (m_wrongStep_u S_212 v2))) hx hb hts hiX3 tyX3 tyX3_ok nmX3 hown hK hI 0 rfl rfl 13 (by decide) (hts (.fieldLink RX3 16 "NoughtSumsModel" "wrongStep" "I") (by decide +kernel)) (fun _ h9 => h9) rfl (by decide +kernel) rfl rfl (Nat.le_of_ble_eq_true rfl) dX3_proof_220 rfl (fun H locs hI => ?_)
        refine lv_goto (tgt := 252) hx hb dX3_proof_223 (by decide) ?_
        exact hb252 k89 hk89 v2 (m_wrongStep_u S_212 v2) _ _ _ hf hI (lv_sub hl [1, 2] rfl)
  have hb89 : ∀ (n : Nat), ∀ (v2 : Int32) (S : MS) (H : Heap) (locs : List Loc) (ls : Array Slot), fX3_proof_b89L n v2 S = some (r, S') → zI D A s H locs (wM cy ad S) → lv_has ls 9 [(0, .ref (ad 0)), (2, .int v2)] → W p l e { frames := 7, cells := 0, slots := 0, locals := 163 } s m args below meth c H locs 0 0 Q (F0 m 89 ls []) := by
    intro n
    induction n with
    | zero => intro v2 S H locs ls hf; cases (show (none : Option (Int32 × MS)) = some (r, S') from hf)
    | succ n ih =>
      intro v2 S H locs ls hf hI hl
      have hf : fX3_proof_b89 (fX3_proof_b89L n) v2 S = some (r, S') := hf
      unfold fX3_proof_b89 at hf
      refine lv_iload_n hx hb dX3_proof_89 rfl (lv_at hl 1 rfl) ?_
      refine lv_aload_n hx hb dX3_proof_90 rfl (lv_at hl 0 rfl) ?_
      refine va_get (D := D) (ci := 3) (v := .int (m_steps S)) (C := RX3) (T := TX3) (N := 27) hx hb hts hiX3 hown hK hI.1 0 rfl rfl 12 (by decide) (hts (.fieldLink RX3 135 "NoughtSumsModel" "steps" "I") (by decide +kernel)) (fun _ h9 => h9) rfl dX3_proof_91 ?_
      refine lv_icmp_ge (tgt := 258) hx hb dX3_proof_94 (by decide) (fun c_94 => ?_) (fun c_94 => ?_)
      · replace hf := zIt c_94 hf
        refine lv_aload_n hx hb dX3_proof_258 rfl (lv_at hl 0 rfl) ?_
        refine va_get (D := D) (ci := 3) (v := .int (m_made S)) (C := RX3) (T := TX3) (N := 27) hx hb hts hiX3 hown hK hI.1 0 rfl rfl 11 (by decide) (hts (.fieldLink RX3 132 "NoughtSumsModel" "made" "I") (by decide +kernel)) (fun _ h9 => h9) rfl dX3_proof_259 ?_
        obtain ⟨h1, h2⟩ := zP2 hf
        rw [hQ]
        exact z_iret C (by rw [h2]; exact hI) (by rw [h1]) dX3_proof_262
      · replace hf := zIf c_94 hf
        refine lv_aload_n hx hb dX3_proof_97 rfl (lv_at hl 0 rfl) ?_
        refine va_get (D := D) (ci := 3) (v := .int (m_wrongStep S)) (C := RX3) (T := TX3) (N := 27) hx hb hts hiX3 hown hK hI.1 0 rfl rfl 13 (by decide) (hts (.fieldLink RX3 16 "NoughtSumsModel" "wrongStep" "I") (by decide +kernel)) (fun _ h9 => h9) rfl dX3_proof_98 ?_
        refine lv_bipush (v := -9) hx hb dX3_proof_101 (by decide) ?_
        refine lv_icmp_ne (tgt := 258) hx hb dX3_proof_103 (by decide) (fun c_103 => ?_) (fun c_103 => ?_)
        · replace hf := zIf c_103 hf
          refine lv_aload_n hx hb dX3_proof_258 rfl (lv_at hl 0 rfl) ?_
          refine va_get (D := D) (ci := 3) (v := .int (m_made S)) (C := RX3) (T := TX3) (N := 27) hx hb hts hiX3 hown hK hI.1 0 rfl rfl 11 (by decide) (hts (.fieldLink RX3 132 "NoughtSumsModel" "made" "I") (by decide +kernel)) (fun _ h9 => h9) rfl dX3_proof_259 ?_
          obtain ⟨h1, h2⟩ := zP2 hf
          rw [hQ]
          exact z_iret C (by rw [h2]; exact hI) (by rw [h1]) dX3_proof_262
        · replace hf := zIt c_103 hf
          refine lv_aload_n hx hb dX3_proof_106 rfl (lv_at hl 0 rfl) ?_
          refine va_get (D := D) (ci := 3) (v := .ref (ad 5)) (C := RX3) (T := TX3) (N := 27) hx hb hts hiX3 hown hK hI.1 0 rfl rfl 16 (by decide) (hts (.fieldLink RX3 27 "NoughtSumsModel" "step" "[I") (by decide +kernel)) (fun _ h9 => h9) rfl dX3_proof_107 ?_
          refine lv_iconst (v := 3) hx hb dX3_proof_110 (by decide) ?_
          refine lv_iload_n hx hb dX3_proof_111 rfl (lv_at hl 1 rfl) ?_
          refine lv_imul hx hb dX3_proof_112 ?_
          obtain ⟨g_113, hf⟩ := zGI_s hf
          refine va_iald (f := (m_step S)) hx hb hK hI.1 5 4 rfl rfl g_113 dX3_proof_113 ?_
          refine lv_topi (fun n_114 e_114 => ?_)
          replace hf := zL_s hf e_114
          refine lv_istore_n (lv' := [(3, .int n_114), (0, .ref (ad 0)), (2, .int v2)]) hx hb dX3_proof_114 rfl hl (by decide) rfl (fun ls hl => ?_)
          refine lv_aload_n hx hb dX3_proof_115 rfl (lv_at hl 1 rfl) ?_
          refine va_get (D := D) (ci := 3) (v := .ref (ad 3)) (C := RX3) (T := TX3) (N := 27) hx hb hts hiX3 hown hK hI.1 0 rfl rfl 14 (by decide) (hts (.fieldLink RX3 20 "NoughtSumsModel" "line" "[J") (by decide +kernel)) (fun _ h9 => h9) rfl dX3_proof_116 ?_
          refine lv_aload_n hx hb dX3_proof_119 rfl (lv_at hl 1 rfl) ?_
          refine va_get (D := D) (ci := 3) (v := .ref (ad 5)) (C := RX3) (T := TX3) (N := 27) hx hb hts hiX3 hown hK hI.1 0 rfl rfl 16 (by decide) (hts (.fieldLink RX3 27 "NoughtSumsModel" "step" "[I") (by decide +kernel)) (fun _ h9 => h9) rfl dX3_proof_120 ?_
          refine lv_iconst (v := 3) hx hb dX3_proof_123 (by decide) ?_
          refine lv_iload_n hx hb dX3_proof_124 rfl (lv_at hl 2 rfl) ?_
          refine lv_imul hx hb dX3_proof_125 ?_
          refine lv_iconst (v := 1) hx hb dX3_proof_126 (by decide) ?_
          refine lv_iadd hx hb dX3_proof_127 ?_
          obtain ⟨g_128, hf⟩ := zGI_s hf
          refine va_iald (f := (m_step S)) hx hb hK hI.1 5 4 rfl rfl g_128 dX3_proof_128 ?_
          obtain ⟨g_129, hf⟩ := zGI_s hf
          refine va_lald (f := (m_line S)) hx hb hK hI.1 3 2 rfl rfl g_129 dX3_proof_129 ?_
          refine lv_topl (fun n_130 e_130 => ?_)
          replace hf := zL_s hf e_130
          refine lv_lstore (lv' := [(4, .long n_130), (3, .int n_114), (0, .ref (ad 0)), (2, .int v2)]) hx hb dX3_proof_130 hl (by decide) rfl (fun ls hl => ?_)
          refine lv_aload_n hx hb dX3_proof_132 rfl (lv_at hl 2 rfl) ?_
          refine va_get (D := D) (ci := 3) (v := .ref (ad 5)) (C := RX3) (T := TX3) (N := 27) hx hb hts hiX3 hown hK hI.1 0 rfl rfl 16 (by decide) (hts (.fieldLink RX3 27 "NoughtSumsModel" "step" "[I") (by decide +kernel)) (fun _ h9 => h9) rfl dX3_proof_133 ?_
          refine lv_iconst (v := 3) hx hb dX3_proof_136 (by decide) ?_
          refine lv_iload_n hx hb dX3_proof_137 rfl (lv_at hl 3 rfl) ?_
          refine lv_imul hx hb dX3_proof_138 ?_
          refine lv_iconst (v := 2) hx hb dX3_proof_139 (by decide) ?_
          refine lv_iadd hx hb dX3_proof_140 ?_
          obtain ⟨g_141, hf⟩ := zGI_s hf
          refine va_iald (f := (m_step S)) hx hb hK hI.1 5 4 rfl rfl g_141 dX3_proof_141 ?_
          refine lv_topi (fun n_142 e_142 => ?_)
          replace hf := zL_s hf e_142
          refine lv_istore (lv' := [(6, .int n_142), (4, .long n_130), (3, .int n_114), (0, .ref (ad 0)), (2, .int v2)]) hx hb dX3_proof_142 hl (by decide) rfl (fun ls hl => ?_)
          refine lv_iload_n hx hb dX3_proof_144 rfl (lv_at hl 2 rfl) ?_
          refine lv_iconst (v := 3) hx hb dX3_proof_145 (by decide) ?_
          refine lv_icmp_ne (tgt := 158) hx hb dX3_proof_146 (by decide) (fun c_146 => ?_) (fun c_146 => ?_)
          · replace hf := zIf c_146 hf
            refine lv_iload_n hx hb dX3_proof_158 rfl (lv_at hl 2 rfl) ?_
            refine lv_if_ne (tgt := 175) hx hb dX3_proof_159 (by decide) (fun c_159 => ?_) (fun c_159 => ?_)
            · replace hf := zIf c_159 hf
              refine lv_iload_n hx hb dX3_proof_175 rfl (lv_at hl 2 rfl) ?_
              refine lv_iconst (v := 1) hx hb dX3_proof_176 (by decide) ?_
              refine lv_icmp_ne (tgt := 190) hx hb dX3_proof_177 (by decide) (fun c_177 => ?_) (fun c_177 => ?_)
              · replace hf := zIf c_177 hf
                refine lv_lload hx hb dX3_proof_190 (lv_at hl 1 rfl) ?_
                refine lv_aload_n hx hb dX3_proof_192 rfl (lv_at hl 3 rfl) ?_
                refine va_get (D := D) (ci := 3) (v := .ref (ad 3)) (C := RX3) (T := TX3) (N := 27) hx hb hts hiX3 hown hK hI.1 0 rfl rfl 14 (by decide) (hts (.fieldLink RX3 20 "NoughtSumsModel" "line" "[J") (by decide +kernel)) (fun _ h9 => h9) rfl dX3_proof_193 ?_
                refine lv_iload hx hb dX3_proof_196 (lv_at hl 0 rfl) ?_
                obtain ⟨g_198, hf⟩ := zGI_s hf
                refine va_lald (f := (m_line S)) hx hb hK hI.1 3 2 rfl rfl g_198 dX3_proof_198 ?_
                obtain ⟨r_199, hf_199, hf⟩ := zB1_s hf
                refine z_callS C 2 (kX3_multiplied l zq D n_130 ((m_line S) n_142.toNatClampNeg) r_199 hf_199) gX3_proof_X3_multiplied rfl (by decide +kernel) ⟨by decide, by decide⟩ hI rfl hl.1 rfl (Nat.le_of_ble_eq_true rfl) dX3_proof_199 ⟨by decide, by decide⟩ (st2 := [.long r_199]) rfl (fun H locs hI => ?_)
                exact hb202 (fX3_proof_b89L n) ih v2 n_114 r_199 S _ _ _ hf hI (lv_sub hl [3, 4, 2] rfl)
              · replace hf := zIt c_177 hf
                refine lv_lload hx hb dX3_proof_180 (lv_at hl 1 rfl) ?_
                refine lv_iload hx hb dX3_proof_182 (lv_at hl 0 rfl) ?_
                obtain ⟨r_184, hf_184, hf⟩ := zB1_s hf
                refine z_callS C 2 (kX3_raised l zq D n_130 n_142 r_184 hf_184) gX3_proof_X3_raised rfl (by decide +kernel) ⟨by decide, by decide⟩ hI rfl hl.1 rfl (Nat.le_of_ble_eq_true rfl) dX3_proof_184 ⟨by decide, by decide⟩ (st2 := [.long r_184]) rfl (fun H locs hI => ?_)
                refine lv_goto (tgt := 202) hx hb dX3_proof_187 (by decide) ?_
                exact hb202 (fX3_proof_b89L n) ih v2 n_114 r_184 S _ _ _ hf hI (lv_sub hl [3, 4, 2] rfl)
            · replace hf := zIt c_159 hf
              refine lv_lload hx hb dX3_proof_162 (lv_at hl 1 rfl) ?_
              refine lv_aload_n hx hb dX3_proof_164 rfl (lv_at hl 3 rfl) ?_
              refine va_get (D := D) (ci := 3) (v := .ref (ad 3)) (C := RX3) (T := TX3) (N := 27) hx hb hts hiX3 hown hK hI.1 0 rfl rfl 14 (by decide) (hts (.fieldLink RX3 20 "NoughtSumsModel" "line" "[J") (by decide +kernel)) (fun _ h9 => h9) rfl dX3_proof_165 ?_
              refine lv_iload hx hb dX3_proof_168 (lv_at hl 0 rfl) ?_
              obtain ⟨g_170, hf⟩ := zGI_s hf
              refine va_lald (f := (m_line S)) hx hb hK hI.1 3 2 rfl rfl g_170 dX3_proof_170 ?_
              refine lv_lxor hx hb dX3_proof_171 ?_
              refine lv_goto (tgt := 202) hx hb dX3_proof_172 (by decide) ?_
              exact hb202 (fX3_proof_b89L n) ih v2 n_114 (n_130 ^^^ ((m_line S) n_142.toNatClampNeg)) S _ _ _ hf hI (lv_sub hl [3, 4, 2] rfl)
          · replace hf := zIt c_146 hf
            refine lv_aload_n hx hb dX3_proof_149 rfl (lv_at hl 3 rfl) ?_
            refine va_get (D := D) (ci := 3) (v := .ref (ad 6)) (C := RX3) (T := TX3) (N := 27) hx hb hts hiX3 hown hK hI.1 0 rfl rfl 17 (by decide) (hts (.fieldLink RX3 30 "NoughtSumsModel" "claimed" "[J") (by decide +kernel)) (fun _ h9 => h9) rfl dX3_proof_150 ?_
            refine lv_iload_n hx hb dX3_proof_153 rfl (lv_at hl 4 rfl) ?_
            obtain ⟨g_154, hf⟩ := zGI_s hf
            refine va_lald (f := (m_claimed S)) hx hb hK hI.1 6 5 rfl rfl g_154 dX3_proof_154 ?_
            refine lv_goto (tgt := 202) hx hb dX3_proof_155 (by decide) ?_
            exact hb202 (fX3_proof_b89L n) ih v2 n_114 ((m_claimed S) v2.toNatClampNeg) S _ _ _ hf hI (lv_sub hl [3, 4, 2] rfl)
  have hb51 : ∀ (v1 : Int32) (S : MS) (H : Heap) (locs : List Loc) (ls : Array Slot), fX3_proof_b51 v1 S = some (r, S') → zI D A s H locs (wM cy ad S) → lv_has ls 9 [(0, .ref (ad 0)), (1, .int v1)] → W p l e { frames := 7, cells := 0, slots := 0, locals := 163 } s m args below meth c H locs 0 0 Q (F0 m 51 ls []) := by
    intro v1 S H locs ls hf hI hl
    unfold fX3_proof_b51 at hf
    refine lv_aload_n hx hb dX3_proof_51 rfl (lv_at hl 0 rfl) ?_
    obtain ⟨r_52, S_52, hf_52, hf⟩ := zB2_s hf
    refine z_callV (w2 := (wM cy ad S_52)) C 0 (kX3_isWell l zq D cy ad S S_52 r_52 hf_52) gX3_proof_X3_isWell rfl (by decide +kernel) ⟨by decide, by decide⟩ hI 0 rfl rfl rfl hl.1 rfl (Nat.le_of_ble_eq_true rfl) dX3_proof_52 ⟨by decide, by decide⟩ (st2 := [.int r_52]) rfl (fun H locs hI => ?_)
    refine lv_if_ne (tgt := 66) hx hb dX3_proof_55 (by decide) (fun c_55 => ?_) (fun c_55 => ?_)
    · replace hf := zIf c_55 hf
      refine lv_aload_n hx hb dX3_proof_66 rfl (lv_at hl 0 rfl) ?_
      refine lv_iload_n hx hb dX3_proof_67 rfl (lv_at hl 1 rfl) ?_
      refine z_put (D := D) (ci := 3) (v := .int v1) (ty := .int) (C := RX3) (T := TX3) (N := 27) (w2 := (wM cy ad (m_steps_u S_52 v1))) hx hb hts hiX3 tyX3 tyX3_ok nmX3 hown hK hI 0 rfl rfl 12 (by decide) (hts (.fieldLink RX3 135 "NoughtSumsModel" "steps" "I") (by decide +kernel)) (fun _ h9 => h9) rfl (by decide +kernel) rfl rfl (Nat.le_of_ble_eq_true rfl) dX3_proof_68 rfl (fun H locs hI => ?_)
      refine lv_aload_n hx hb dX3_proof_71 rfl (lv_at hl 0 rfl) ?_
      refine lv_iconst (v := 0) hx hb dX3_proof_72 (by decide) ?_
      refine z_put (D := D) (ci := 3) (v := .int (0 : Int32)) (ty := .int) (C := RX3) (T := TX3) (N := 27) (w2 := (wM cy ad (m_made_u (m_steps_u S_52 v1) (0 : Int32)))) hx hb hts hiX3 tyX3 tyX3_ok nmX3 hown hK hI 0 rfl rfl 11 (by decide) (hts (.fieldLink RX3 132 "NoughtSumsModel" "made" "I") (by decide +kernel)) (fun _ h9 => h9) rfl (by decide +kernel) rfl rfl (Nat.le_of_ble_eq_true rfl) dX3_proof_73 rfl (fun H locs hI => ?_)
      refine lv_aload_n hx hb dX3_proof_76 rfl (lv_at hl 0 rfl) ?_
      refine lv_bipush (v := -9) hx hb dX3_proof_77 (by decide) ?_
      refine z_put (D := D) (ci := 3) (v := .int (-9 : Int32)) (ty := .int) (C := RX3) (T := TX3) (N := 27) (w2 := (wM cy ad (m_wrongStep_u (m_made_u (m_steps_u S_52 v1) (0 : Int32)) (-9 : Int32)))) hx hb hts hiX3 tyX3 tyX3_ok nmX3 hown hK hI 0 rfl rfl 13 (by decide) (hts (.fieldLink RX3 16 "NoughtSumsModel" "wrongStep" "I") (by decide +kernel)) (fun _ h9 => h9) rfl (by decide +kernel) rfl rfl (Nat.le_of_ble_eq_true rfl) dX3_proof_79 rfl (fun H locs hI => ?_)
      refine lv_aload_n hx hb dX3_proof_82 rfl (lv_at hl 0 rfl) ?_
      refine lv_iconst (v := 0) hx hb dX3_proof_83 (by decide) ?_
      refine z_put (D := D) (ci := 3) (v := .int (0 : Int32)) (ty := .int) (C := RX3) (T := TX3) (N := 27) (w2 := (wM cy ad (m_typed_u (m_wrongStep_u (m_made_u (m_steps_u S_52 v1) (0 : Int32)) (-9 : Int32)) (0 : Int32)))) hx hb hts hiX3 tyX3 tyX3_ok nmX3 hown hK hI 0 rfl rfl 4 (by decide) (hts (.fieldLink RX3 75 "NoughtSumsModel" "typed" "I") (by decide +kernel)) (fun _ h9 => h9) rfl (by decide +kernel) rfl rfl (Nat.le_of_ble_eq_true rfl) dX3_proof_84 rfl (fun H locs hI => ?_)
      refine lv_iconst (v := 0) hx hb dX3_proof_87 (by decide) ?_
      refine lv_istore_n (lv' := [(2, .int (0 : Int32)), (0, .ref (ad 0)), (1, .int v1)]) hx hb dX3_proof_88 rfl hl (by decide) rfl (fun ls hl => ?_)
      exact hb89 zF (0 : Int32) (m_typed_u (m_wrongStep_u (m_made_u (m_steps_u S_52 v1) (0 : Int32)) (-9 : Int32)) (0 : Int32)) _ _ _ hf hI (lv_sub hl [1, 0] rfl)
    · replace hf := zIt c_55 hf
      refine lv_bipush (v := -10) hx hb dX3_proof_58 (by decide) ?_
      refine lv_aload_n hx hb dX3_proof_60 rfl (lv_at hl 0 rfl) ?_
      refine va_get (D := D) (ci := 3) (v := .int (m_fault S_52)) (C := RX3) (T := TX3) (N := 27) hx hb hts hiX3 hown hK hI.1 0 rfl rfl 9 (by decide) (hts (.fieldLink RX3 108 "NoughtSumsModel" "fault" "I") (by decide +kernel)) (fun _ h9 => h9) rfl dX3_proof_61 ?_
      refine lv_isub hx hb dX3_proof_64 ?_
      obtain ⟨h1, h2⟩ := zP2 hf
      rw [hQ]
      exact z_iret C (by rw [h2]; exact hI) (by rw [h1]) dX3_proof_65
  have hb11 : ∀ (n : Nat), ∀ (v1 : Int32) (S : MS) (H : Heap) (locs : List Loc) (ls : Array Slot), fX3_proof_b11L n v1 S = some (r, S') → zI D A s H locs (wM cy ad S) → lv_has ls 9 [(0, .ref (ad 0)), (1, .int v1)] → W p l e { frames := 7, cells := 0, slots := 0, locals := 163 } s m args below meth c H locs 0 0 Q (F0 m 11 ls []) := by
    intro n
    induction n with
    | zero => intro v1 S H locs ls hf; cases (show (none : Option (Int32 × MS)) = some (r, S') from hf)
    | succ n ih =>
      intro v1 S H locs ls hf hI hl
      have hf : fX3_proof_b11 (fX3_proof_b11L n) v1 S = some (r, S') := hf
      unfold fX3_proof_b11 at hf
      refine lv_aload_n hx hb dX3_proof_11 rfl (lv_at hl 0 rfl) ?_
      obtain ⟨r_12, S_12, hf_12, hf⟩ := zB2_s hf
      refine z_callV (w2 := (wM cy ad S_12)) C 0 (kX3_isWell l zq D cy ad S S_12 r_12 hf_12) gX3_proof_X3_isWell rfl (by decide +kernel) ⟨by decide, by decide⟩ hI 0 rfl rfl rfl hl.1 rfl (Nat.le_of_ble_eq_true rfl) dX3_proof_12 ⟨by decide, by decide⟩ (st2 := [.int r_12]) rfl (fun H locs hI => ?_)
      refine lv_if_eq (tgt := 51) hx hb dX3_proof_15 (by decide) (fun c_15 => ?_) (fun c_15 => ?_)
      · replace hf := zIt c_15 hf
        exact hb51 v1 S_12 _ _ _ hf hI (lv_sub hl [0, 1] rfl)
      · replace hf := zIf c_15 hf
        refine lv_aload_n hx hb dX3_proof_18 rfl (lv_at hl 0 rfl) ?_
        refine va_get (D := D) (ci := 3) (v := .int (m_token S_12)) (C := RX3) (T := TX3) (N := 27) hx hb hts hiX3 hown hK hI.1 0 rfl rfl 6 (by decide) (hts (.fieldLink RX3 88 "NoughtSumsModel" "token" "I") (by decide +kernel)) (fun _ h9 => h9) rfl dX3_proof_19 ?_
        refine lv_if_eq (tgt := 51) hx hb dX3_proof_22 (by decide) (fun c_22 => ?_) (fun c_22 => ?_)
        · replace hf := zIt c_22 hf
          exact hb51 v1 S_12 _ _ _ hf hI (lv_sub hl [0, 1] rfl)
        · replace hf := zIf c_22 hf
          refine lv_iload_n hx hb dX3_proof_25 rfl (lv_at hl 1 rfl) ?_
          refine lv_bipush (v := 24) hx hb dX3_proof_26 (by decide) ?_
          refine lv_icmp_ne (tgt := 40) hx hb dX3_proof_28 (by decide) (fun c_28 => ?_) (fun c_28 => ?_)
          · replace hf := zIf c_28 hf
            refine lv_aload_n hx hb dX3_proof_40 rfl (lv_at hl 0 rfl) ?_
            refine lv_iload_n hx hb dX3_proof_41 rfl (lv_at hl 1 rfl) ?_
            obtain ⟨S_42, hf_42, hf⟩ := zB1_s hf
            refine z_callV (w2 := (wM cy ad S_42)) C 1 (kX3_readsStep l zq D cy ad v1 S_12 S_42 hf_42) gX3_proof_X3_readsStep rfl (by decide +kernel) ⟨by decide, by decide⟩ hI 0 rfl rfl rfl hl.1 rfl (Nat.le_of_ble_eq_true rfl) dX3_proof_42 ⟨by decide, by decide⟩ (st2 := []) rfl (fun H locs hI => ?_)
            refine lv_iinc (v := (v1 + (1 : Int32))) (lv' := [(1, .int (v1 + (1 : Int32))), (0, .ref (ad 0))]) hx hb dX3_proof_45 hl (k := 1) rfl rfl (by decide) rfl (fun ls hl => ?_)
            refine lv_goto (tgt := 11) hx hb dX3_proof_48 (by decide) ?_
            exact ih (v1 + (1 : Int32)) S_42 _ _ _ hf hI (lv_sub hl [1, 0] rfl)
          · replace hf := zIt c_28 hf
            refine lv_aload_n hx hb dX3_proof_31 rfl (lv_at hl 0 rfl) ?_
            refine lv_iconst (v := 0) hx hb dX3_proof_32 (by decide) ?_
            obtain ⟨r_33, S_33, hf_33, hf⟩ := zB2_s hf
            refine z_callV (w2 := (wM cy ad S_33)) C 1 (kX3_takes l zq D cy ad (0 : Int32) S_12 S_33 r_33 hf_33) gX3_proof_X3_takes rfl (by decide +kernel) ⟨by decide, by decide⟩ hI 0 rfl rfl rfl hl.1 rfl (Nat.le_of_ble_eq_true rfl) dX3_proof_33 ⟨by decide, by decide⟩ (st2 := [.int r_33]) rfl (fun H locs hI => ?_)
            refine lv_pop hx hb dX3_proof_36 rfl ?_
            refine lv_goto (tgt := 11) hx hb dX3_proof_37 (by decide) ?_
            exact ih v1 S_33 _ _ _ hf hI (lv_sub hl [0, 1] rfl)
  unfold fX3_proof at hf
  refine lv_aload_n hx hb dX3_proof_0 rfl (lv_at hl 0 rfl) ?_
  refine lv_iconst (v := 0) hx hb dX3_proof_1 (by decide) ?_
  refine z_put (D := D) (ci := 3) (v := .int (0 : Int32)) (ty := .int) (C := RX3) (T := TX3) (N := 27) (w2 := (wM cy ad (m_thrown_u S (0 : Int32)))) hx hb hts hiX3 tyX3 tyX3_ok nmX3 hown hK hI 0 rfl rfl 0 (by decide) (hts (.fieldLink RX3 56 "NoughtSumsModel" "thrown" "I") (by decide +kernel)) (fun _ h9 => h9) rfl (by decide +kernel) rfl rfl (Nat.le_of_ble_eq_true rfl) dX3_proof_2 rfl (fun H locs hI => ?_)
  refine lv_iconst (v := 0) hx hb dX3_proof_5 (by decide) ?_
  refine lv_istore_n (lv' := [(1, .int (0 : Int32)), (0, .ref (ad 0))]) hx hb dX3_proof_6 rfl hl (by decide) rfl (fun ls hl => ?_)
  refine lv_aload_n hx hb dX3_proof_7 rfl (lv_at hl 1 rfl) ?_
  obtain ⟨S_8, hf_8, hf⟩ := zB1_s hf
  refine z_callV (w2 := (wM cy ad S_8)) C 0 (kX3_begins l zq D cy ad (m_thrown_u S (0 : Int32)) S_8 hf_8) gX3_proof_X3_begins rfl (by decide +kernel) ⟨by decide, by decide⟩ hI 0 rfl rfl rfl hl.1 rfl (Nat.le_of_ble_eq_true rfl) dX3_proof_8 ⟨by decide, by decide⟩ (st2 := []) rfl (fun H locs hI => ?_)
  exact hb11 zF (0 : Int32) S_8 _ _ _ hf hI (lv_sub hl [1, 0] rfl)

