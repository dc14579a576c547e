def fX3_isWell  (S : MS) : Option (Int32 × MS) :=
(if 0 ≤ (m_fault S) then some ((0 : Int32), S) else
some ((1 : Int32), S))
set_option maxHeartbeats 4000000 in
set_option maxRecDepth 100000 in
theorem kX3_isWell (l : Launch) (zq : Nat → Nat) (D : va_G) (cy : Nat → ClassId) (ad : Nat → Nat)  (S S' : MS) (r : Int32) (hf : fX3_isWell S = some (r, S')) : zMet l yX3_isWell wsX3_isWell 0 0 zq D (tM cy) (wM cy ad S) [.ref (ad 0)] (some (.int r)) (wM cy ad S') := by
  refine zMet.of cX3_isWell 1 (some .boolean) (by decide) rfl (Nat.le_of_ble_eq_true rfl) ?_
  intro p e s m args below meth c A ls C hl hI
  have hl : lv_has ls 1 [(0, .ref (ad 0))] := hl
  have C : zC p s m args meth c cX3_isWell 1 (some .boolean) RX3 wsX3_isWell D (tM cy) zq A := C
  obtain ⟨hx, hb, hml, hown, hts, hret, hlk, hK, hX, hA⟩ := id C
  have hiX3 : ∀ w ∈ wsX30, w ∈ wsX3_isWell := by decide +kernel
  obtain ⟨Q, hQ⟩ : ∃ Q, Q = MQ below (zQ D (tM cy) (wM cy ad S') (some (.int r)) A) args s 0 0 A := ⟨_, rfl⟩
  rw [← hQ]
  unfold fX3_isWell at hf
  refine lv_aload_n hx hb dX3_isWell_0 rfl (lv_at hl 0 rfl) ?_
  refine va_get (D := D) (ci := 3) (v := .int (m_fault S)) (C := RX3) (T := TX3) (N := 27) hx hb hts hiX3 hown hK hI.1 0 rfl rfl 9 (by decide) (hts (.fieldLink RX3 108 "NoughtSumsModel" "fault" "I") (by decide +kernel)) (fun _ h9 => h9) rfl dX3_isWell_1 ?_
  refine lv_if_ge (tgt := 11) hx hb dX3_isWell_4 (by decide) (fun c_4 => ?_) (fun c_4 => ?_)
  · replace hf := zIt c_4 hf
    refine lv_iconst (v := 0) hx hb dX3_isWell_11 (by decide) ?_
    obtain ⟨h1, h2⟩ := zP2 hf
    rw [hQ]
    exact z_zret C (by rw [h2]; exact hI) (by rw [h1]) rfl dX3_isWell_12
  · replace hf := zIf c_4 hf
    refine lv_iconst (v := 1) hx hb dX3_isWell_7 (by decide) ?_
    refine lv_goto (tgt := 12) hx hb dX3_isWell_8 (by decide) ?_
    obtain ⟨h1, h2⟩ := zP2 hf
    rw [hQ]
    exact z_zret C (by rw [h2]; exact hI) (by rw [h1]) rfl dX3_isWell_12

def fX3_takes (a1 : Int32) (S : MS) : Option (Int32 × MS) :=
(zB2 (fX3_isWell S) (fun r_1 S_1 =>
(if r_1 = 0 then some ((0 : Int32), S_1) else
(if a1 = 0 then (zL (m_fault_u S_1 (m_place S_1)) (fun S_18 =>
some ((0 : Int32), S_18))) else
(zB1 (fX3_advances S_1) (fun S_29 =>
some ((m_value S_1), S_29)))))))
set_option maxHeartbeats 4000000 in
set_option maxRecDepth 100000 in
theorem kX3_takes (l : Launch) (zq : Nat → Nat) (D : va_G) (cy : Nat → ClassId) (ad : Nat → Nat) (a1 : Int32) (S S' : MS) (r : Int32) (hf : fX3_takes a1 S = some (r, S')) : zMet l yX3_takes wsX3_takes 4 94 zq D (tM cy) (wM cy ad S) [.ref (ad 0), .int a1] (some (.int r)) (wM cy ad S') := by
  refine zMet.of cX3_takes 3 (some .int) (by decide) rfl (Nat.le_of_ble_eq_true rfl) ?_
  intro p e s m args below meth c A ls C hl hI
  have hl : lv_has ls 3 [(0, .ref (ad 0)), (1, .int a1)] := hl
  have C : zC p s m args meth c cX3_takes 3 (some .int) RX3 wsX3_takes D (tM cy) zq A := C
  obtain ⟨hx, hb, hml, hown, hts, hret, hlk, hK, hX, hA⟩ := id C
  have hiX3 : ∀ w ∈ wsX30, w ∈ wsX3_takes := by decide +kernel
  obtain ⟨Q, hQ⟩ : ∃ Q, Q = MQ below (zQ D (tM cy) (wM cy ad S') (some (.int r)) A) args s 0 0 A := ⟨_, rfl⟩
  rw [← hQ]
  unfold fX3_takes at hf
  refine lv_aload_n hx hb dX3_takes_0 rfl (lv_at hl 0 rfl) ?_
  obtain ⟨r_1, S_1, hf_1, hf⟩ := zB2_s hf
  refine z_callV (w2 := (wM cy ad S_1)) C 0 (kX3_isWell l zq D cy ad S S_1 r_1 hf_1) gX3_takes_X3_isWell rfl (by decide +kernel) ⟨by decide, by decide⟩ hI 0 rfl rfl rfl hl.1 rfl (Nat.le_of_ble_eq_true rfl) dX3_takes_1 ⟨by decide, by decide⟩ (st2 := [.int r_1]) rfl (fun H locs hI => ?_)
  refine lv_if_ne (tgt := 9) hx hb dX3_takes_4 (by decide) (fun c_4 => ?_) (fun c_4 => ?_)
  · replace hf := zIf c_4 hf
    refine lv_iload_n hx hb dX3_takes_9 rfl (lv_at hl 1 rfl) ?_
    refine lv_if_ne (tgt := 23) hx hb dX3_takes_10 (by decide) (fun c_10 => ?_) (fun c_10 => ?_)
    · replace hf := zIf c_10 hf
      refine lv_aload_n hx hb dX3_takes_23 rfl (lv_at hl 0 rfl) ?_
      refine va_get (D := D) (ci := 3) (v := .int (m_value S_1)) (C := RX3) (T := TX3) (N := 27) hx hb hts hiX3 hown hK hI.1 0 rfl rfl 8 (by decide) (hts (.fieldLink RX3 91 "NoughtSumsModel" "value" "I") (by decide +kernel)) (fun _ h9 => h9) rfl dX3_takes_24 ?_
      refine lv_istore_n (lv' := [(2, .int (m_value S_1)), (0, .ref (ad 0)), (1, .int a1)]) hx hb dX3_takes_27 rfl hl (by decide) rfl (fun ls hl => ?_)
      refine lv_aload_n hx hb dX3_takes_28 rfl (lv_at hl 1 rfl) ?_
      obtain ⟨S_29, hf_29, hf⟩ := zB1_s hf
      refine z_callV (w2 := (wM cy ad S_29)) C 0 (kX3_advances l zq D cy ad S_1 S_29 hf_29) gX3_takes_X3_advances rfl (by decide +kernel) ⟨by decide, by decide⟩ hI 0 rfl rfl rfl hl.1 rfl (Nat.le_of_ble_eq_true rfl) dX3_takes_29 ⟨by decide, by decide⟩ (st2 := []) rfl (fun H locs hI => ?_)
      refine lv_iload_n hx hb dX3_takes_32 rfl (lv_at hl 0 rfl) ?_
      obtain ⟨h1, h2⟩ := zP2 hf
      rw [hQ]
      exact z_iret C (by rw [h2]; exact hI) (by rw [h1]) dX3_takes_33
    · replace hf := zIt c_10 hf
      refine lv_aload_n hx hb dX3_takes_13 rfl (lv_at hl 0 rfl) ?_
      refine lv_aload_n hx hb dX3_takes_14 rfl (lv_at hl 0 rfl) ?_
      refine va_get (D := D) (ci := 3) (v := .int (m_place S_1)) (C := RX3) (T := TX3) (N := 27) hx hb hts hiX3 hown hK hI.1 0 rfl rfl 7 (by decide) (hts (.fieldLink RX3 85 "NoughtSumsModel" "place" "I") (by decide +kernel)) (fun _ h9 => h9) rfl dX3_takes_15 ?_
      obtain ⟨S_18, eS_18, hf⟩ := zL_e hf
      refine z_put (D := D) (ci := 3) (v := .int (m_place S_1)) (ty := .int) (C := RX3) (T := TX3) (N := 27) (w2 := (wM cy ad S_18)) hx hb hts hiX3 tyX3 tyX3_ok nmX3 hown hK hI 0 rfl rfl 9 (by decide) (hts (.fieldLink RX3 108 "NoughtSumsModel" "fault" "I") (by decide +kernel)) (fun _ h9 => h9) rfl (by decide +kernel) rfl rfl (Nat.le_of_ble_eq_true rfl) dX3_takes_18 (by rw [eS_18]; rfl) (fun H locs hI => ?_)
      refine lv_iconst (v := 0) hx hb dX3_takes_21 (by decide) ?_
      obtain ⟨h1, h2⟩ := zP2 hf
      rw [hQ]
      exact z_iret C (by rw [h2]; exact hI) (by rw [h1]) dX3_takes_22
  · replace hf := zIt c_4 hf
    refine lv_iconst (v := 0) hx hb dX3_takes_7 (by decide) ?_
    obtain ⟨h1, h2⟩ := zP2 hf
    rw [hQ]
    exact z_iret C (by rw [h2]; exact hI) (by rw [h1]) dX3_takes_8

def fX3_begins  (S : MS) : Option MS :=
(zL (m_fault_u S (-1 : Int32)) (fun S_2 =>
(zL (m_next_u S_2 (0 : Int32)) (fun S_7 =>
(zB1 (fX3_advances S_7) (fun S_11 =>
some S_11))))))
set_option maxHeartbeats 4000000 in
set_option maxRecDepth 100000 in
theorem kX3_begins (l : Launch) (zq : Nat → Nat) (D : va_G) (cy : Nat → ClassId) (ad : Nat → Nat)  (S S' : MS) (hf : fX3_begins S = some S') : zMet l yX3_begins wsX3_begins 4 94 zq D (tM cy) (wM cy ad S) [.ref (ad 0)] none (wM cy ad S') := by
  refine zMet.of cX3_begins 1 none (by decide) rfl (Nat.le_of_ble_eq_true rfl) ?_
  intro p e s m args below meth c A ls C hl hI
  have hl : lv_has ls 1 [(0, .ref (ad 0))] := hl
  have C : zC p s m args meth c cX3_begins 1 none RX3 wsX3_begins D (tM cy) zq A := C
  obtain ⟨hx, hb, hml, hown, hts, hret, hlk, hK, hX, hA⟩ := id C
  have hiX3 : ∀ w ∈ wsX30, w ∈ wsX3_begins := by decide +kernel
  obtain ⟨Q, hQ⟩ : ∃ Q, Q = MQ below (zQ D (tM cy) (wM cy ad S') none A) args s 0 0 A := ⟨_, rfl⟩
  rw [← hQ]
  unfold fX3_begins at hf
  refine lv_aload_n hx hb dX3_begins_0 rfl (lv_at hl 0 rfl) ?_
  refine lv_iconst (v := -1) hx hb dX3_begins_1 (by decide) ?_
  obtain ⟨S_2, eS_2, hf⟩ := zL_e hf
  refine z_put (D := D) (ci := 3) (v := .int (-1 : Int32)) (ty := .int) (C := RX3) (T := TX3) (N := 27) (w2 := (wM cy ad S_2)) hx hb hts hiX3 tyX3 tyX3_ok nmX3 hown hK hI 0 rfl rfl 9 (by decide) (hts (.fieldLink RX3 108 "NoughtSumsModel" "fault" "I") (by decide +kernel)) (fun _ h9 => h9) rfl (by decide +kernel) rfl rfl (Nat.le_of_ble_eq_true rfl) dX3_begins_2 (by rw [eS_2]; rfl) (fun H locs hI => ?_)
  refine lv_aload_n hx hb dX3_begins_5 rfl (lv_at hl 0 rfl) ?_
  refine lv_iconst (v := 0) hx hb dX3_begins_6 (by decide) ?_
  obtain ⟨S_7, eS_7, hf⟩ := zL_e hf
  refine z_put (D := D) (ci := 3) (v := .int (0 : Int32)) (ty := .int) (C := RX3) (T := TX3) (N := 27) (w2 := (wM cy ad S_7)) hx hb hts hiX3 tyX3 tyX3_ok nmX3 hown hK hI 0 rfl rfl 5 (by decide) (hts (.fieldLink RX3 98 "NoughtSumsModel" "next" "I") (by decide +kernel)) (fun _ h9 => h9) rfl (by decide +kernel) rfl rfl (Nat.le_of_ble_eq_true rfl) dX3_begins_7 (by rw [eS_7]; rfl) (fun H locs hI => ?_)
  refine lv_aload_n hx hb dX3_begins_10 rfl (lv_at hl 0 rfl) ?_
  obtain ⟨S_11, hf_11, hf⟩ := zB1_s hf
  refine z_callV (w2 := (wM cy ad S_11)) C 0 (kX3_advances l zq D cy ad S_7 S_11 hf_11) gX3_begins_X3_advances rfl (by decide +kernel) ⟨by decide, by decide⟩ hI 0 rfl rfl rfl hl.1 rfl (Nat.le_of_ble_eq_true rfl) dX3_begins_11 ⟨by decide, by decide⟩ (st2 := []) rfl (fun H locs hI => ?_)
  have h2 := zP1 hf
  rw [hQ]
  exact z_vret C (by rw [h2]; exact hI) rfl dX3_begins_14

def fX3_readsSum_b128 (k4 : Int64 → Int32 → MS → Option (Int64 × MS)) (v1 : Int64) (v3 : Int32) (S : MS) : Option (Int64 × MS) :=
k4 v1 v3 S

def fX3_readsSum_b119 (k4 : Int64 → Int32 → MS → Option (Int64 × MS)) (v1 : Int64) (u0 : Int32) (S : MS) : Option (Int64 × MS) :=
(if u0 = 0 then fX3_readsSum_b128 k4 v1 u0 S else
(zB1 (fX3_advances S) (fun S_125 =>
fX3_readsSum_b128 k4 v1 u0 S_125)))

def fX3_readsSum_b118 (k4 : Int64 → Int32 → MS → Option (Int64 × MS)) (v1 : Int64) (S : MS) : Option (Int64 × MS) :=
fX3_readsSum_b119 k4 v1 (0 : Int32) S

def fX3_readsSum_b97 (k4 : Int64 → Int32 → MS → Option (Int64 × MS)) (u0 : Int64) (u1 : Int64) (S : MS) : Option (Int64 × MS) :=
(zB2 (fX3_isWell S) (fun r_100 S_100 =>
(if r_100 = 0 then fX3_readsSum_b118 k4 (u1 ^^^ u0) S_100 else
(if (m_token S_100) = (4 : Int32) then fX3_readsSum_b119 k4 (u1 ^^^ u0) (1 : Int32) S_100 else
fX3_readsSum_b118 k4 (u1 ^^^ u0) S_100))))

def fX3_readsSum_b57 (k4 : Int64 → Int32 → MS → Option (Int64 × MS)) (v1 : Int64) (v4 : Int32) (u0 : Int32) (S : MS) : Option (Int64 × MS) :=
(zB2 (fX3_takes u0 S) (fun r_57 S_57 =>
(zB2 (fX3_isWell S_57) (fun r_64 S_64 =>
(if r_64 = 0 then fX3_readsSum_b97 k4 (0 : Int64) v1 S_64 else
(if v4 = 0 then (if r_57 = (1 : Int32) then fX3_readsSum_b97 k4 (1 : Int64) v1 S_64 else
fX3_readsSum_b97 k4 (0 : Int64) v1 S_64) else
fX3_readsSum_b97 k4 ((1 : Int64) <<< (r_57.toInt64 &&& 63)) v1 S_64))))))

def fX3_readsSum_b56 (k4 : Int64 → Int32 → MS → Option (Int64 × MS)) (v1 : Int64) (v4 : Int32) (S : MS) : Option (Int64 × MS) :=
fX3_readsSum_b57 k4 v1 v4 (0 : Int32) S

def fX3_readsSum_b52 (k4 : Int64 → Int32 → MS → Option (Int64 × MS)) (v1 : Int64) (v4 : Int32) (S : MS) : Option (Int64 × MS) :=
fX3_readsSum_b57 k4 v1 v4 (1 : Int32) S

def fX3_readsSum_b28 (k4 : Int64 → Int32 → MS → Option (Int64 × MS)) (v1 : Int64) (u0 : Int32) (S : MS) : Option (Int64 × MS) :=
(if u0 = 0 then (if (m_token S) = (3 : Int32) then (if (2 : Int32) ≤ (m_value S) then fX3_readsSum_b56 k4 v1 u0 S else
fX3_readsSum_b52 k4 v1 u0 S) else
fX3_readsSum_b56 k4 v1 u0 S) else
fX3_readsSum_b52 k4 v1 u0 S)

def fX3_readsSum_b4 (k4 : Int64 → Int32 → MS → Option (Int64 × MS)) (v1 : Int64) (v3 : Int32) (S : MS) : Option (Int64 × MS) :=
(if v3 = 0 then some (v1, S) else
(zB2 (fX3_isWell S) (fun r_9 S_9 =>
(if r_9 = 0 then some (v1, S_9) else
(if (m_token S_9) = (1 : Int32) then fX3_readsSum_b28 k4 v1 (1 : Int32) S_9 else
fX3_readsSum_b28 k4 v1 (0 : Int32) S_9)))))
def fX3_readsSum_b4L : Nat → Int64 → Int32 → MS → Option (Int64 × MS)
  | 0, _, _, _ => none
  | n + 1, v1, v3, S => fX3_readsSum_b4 (fX3_readsSum_b4L n) v1 v3 S

def fX3_readsSum  (S : MS) : Option (Int64 × MS) :=
fX3_readsSum_b4L zF (0 : Int64) (1 : Int32) S
set_option maxHeartbeats 4000000 in
set_option maxRecDepth 100000 in
theorem kX3_readsSum (l : Launch) (zq : Nat → Nat) (D : va_G) (cy : Nat → ClassId) (ad : Nat → Nat)  (S S' : MS) (r : Int64) (hf : fX3_readsSum S = some (r, S')) : zMet l yX3_readsSum wsX3_readsSum 5 116 zq D (tM cy) (wM cy ad S) [.ref (ad 0)] (some (.long r)) (wM cy ad S') := by
  refine zMet.of cX3_readsSum 6 (some .long) (by decide) rfl (Nat.le_of_ble_eq_true rfl) ?_
  intro p e s m args below meth c A ls C hl hI
  have hl : lv_has ls 6 [(0, .ref (ad 0))] := hl
  have C : zC p s m args meth c cX3_readsSum 6 (some .long) RX3 wsX3_readsSum D (tM cy) zq A := C
  obtain ⟨hx, hb, hml, hown, hts, hret, hlk, hK, hX, hA⟩ := id C
  have hiX3 : ∀ w ∈ wsX30, w ∈ wsX3_readsSum := by decide +kernel
  obtain ⟨Q, hQ⟩ : ∃ Q, Q = MQ below (zQ D (tM cy) (wM cy ad S') (some (.long r)) A) args s 0 0 A := ⟨_, rfl⟩
  rw [← hQ]
  have hb128 : ∀ (k4 : Int64 → Int32 → MS → Option (Int64 × MS)) (hk4 : ∀ (v1 : Int64) (v3 : Int32) (S : MS) (H : Heap) (locs : List Loc) (ls : Array Slot), k4 v1 v3 S = some (r, S') → zI D A s H locs (wM cy ad S) → lv_has ls 6 [(0, .ref (ad 0)), (1, .long v1), (3, .int v3)] → W p l e { frames := 5, cells := 0, slots := 0, locals := 116 } s m args below meth c H locs 0 0 Q (F0 m 4 ls [])), ∀ (v1 : Int64) (v3 : Int32) (S : MS) (H : Heap) (locs : List Loc) (ls : Array Slot), fX3_readsSum_b128 k4 v1 v3 S = some (r, S') → zI D A s H locs (wM cy ad S) → lv_has ls 6 [(0, .ref (ad 0)), (1, .long v1), (3, .int v3)] → W p l e { frames := 5, cells := 0, slots := 0, locals := 116 } s m args below meth c H locs 0 0 Q (F0 m 128 ls []) := by
    intro k4 hk4 v1 v3 S H locs ls hf hI hl
    unfold fX3_readsSum_b128 at hf
    refine lv_goto (tgt := 4) hx hb dX3_readsSum_128 (by decide) ?_
    exact hk4 v1 v3 S _ _ _ hf hI (lv_sub hl [0, 1, 2] rfl)
  have hb119 : ∀ (k4 : Int64 → Int32 → MS → Option (Int64 × MS)) (hk4 : ∀ (v1 : Int64) (v3 : Int32) (S : MS) (H : Heap) (locs : List Loc) (ls : Array Slot), k4 v1 v3 S = some (r, S') → zI D A s H locs (wM cy ad S) → lv_has ls 6 [(0, .ref (ad 0)), (1, .long v1), (3, .int v3)] → W p l e { frames := 5, cells := 0, slots := 0, locals := 116 } s m args below meth c H locs 0 0 Q (F0 m 4 ls [])), ∀ (v1 : Int64) (u0 : Int32) (S : MS) (H : Heap) (locs : List Loc) (ls : Array Slot), fX3_readsSum_b119 k4 v1 u0 S = some (r, S') → zI D A s H locs (wM cy ad S) → lv_has ls 6 [(0, .ref (ad 0)), (1, .long v1)] → W p l e { frames := 5, cells := 0, slots := 0, locals := 116 } s m args below meth c H locs 0 0 Q (F0 m 119 ls [.int u0]) := by
    intro k4 hk4 v1 u0 S H locs ls hf hI hl
    unfold fX3_readsSum_b119 at hf
    refine lv_istore_n (lv' := [(3, .int u0), (0, .ref (ad 0)), (1, .long v1)]) hx hb dX3_readsSum_119 rfl hl (by decide) rfl (fun ls hl => ?_)
    refine lv_iload_n hx hb dX3_readsSum_120 rfl (lv_at hl 0 rfl) ?_
    refine lv_if_eq (tgt := 128) hx hb dX3_readsSum_121 (by decide) (fun c_121 => ?_) (fun c_121 => ?_)
    · replace hf := zIt c_121 hf
      exact hb128 k4 hk4 v1 u0 S _ _ _ hf hI (lv_sub hl [1, 2, 0] rfl)
    · replace hf := zIf c_121 hf
      refine lv_aload_n hx hb dX3_readsSum_124 rfl (lv_at hl 1 rfl) ?_
      obtain ⟨S_125, hf_125, hf⟩ := zB1_s hf
      refine z_callV (w2 := (wM cy ad S_125)) C 0 (kX3_advances l zq D cy ad S S_125 hf_125) gX3_readsSum_X3_advances rfl (by decide +kernel) ⟨by decide, by decide⟩ hI 0 rfl rfl rfl hl.1 rfl (Nat.le_of_ble_eq_true rfl) dX3_readsSum_125 ⟨by decide, by decide⟩ (st2 := []) rfl (fun H locs hI => ?_)
      exact hb128 k4 hk4 v1 u0 S_125 _ _ _ hf hI (lv_sub hl [1, 2, 0] rfl)
  have hb118 : ∀ (k4 : Int64 → Int32 → MS → Option (Int64 × MS)) (hk4 : ∀ (v1 : Int64) (v3 : Int32) (S : MS) (H : Heap) (locs : List Loc) (ls : Array Slot), k4 v1 v3 S = some (r, S') → zI D A s H locs (wM cy ad S) → lv_has ls 6 [(0, .ref (ad 0)), (1, .long v1), (3, .int v3)] → W p l e { frames := 5, cells := 0, slots := 0, locals := 116 } s m args below meth c H locs 0 0 Q (F0 m 4 ls [])), ∀ (v1 : Int64) (S : MS) (H : Heap) (locs : List Loc) (ls : Array Slot), fX3_readsSum_b118 k4 v1 S = some (r, S') → zI D A s H locs (wM cy ad S) → lv_has ls 6 [(0, .ref (ad 0)), (1, .long v1)] → W p l e { frames := 5, cells := 0, slots := 0, locals := 116 } s m args below meth c H locs 0 0 Q (F0 m 118 ls []) := by
    intro k4 hk4 v1 S H locs ls hf hI hl
    unfold fX3_readsSum_b118 at hf
    refine lv_iconst (v := 0) hx hb dX3_readsSum_118 (by decide) ?_
    exact hb119 k4 hk4 v1 (0 : Int32) S _ _ _ hf hI (lv_sub hl [0, 1] rfl)
  have hb97 : ∀ (k4 : Int64 → Int32 → MS → Option (Int64 × MS)) (hk4 : ∀ (v1 : Int64) (v3 : Int32) (S : MS) (H : Heap) (locs : List Loc) (ls : Array Slot), k4 v1 v3 S = some (r, S') → zI D A s H locs (wM cy ad S) → lv_has ls 6 [(0, .ref (ad 0)), (1, .long v1), (3, .int v3)] → W p l e { frames := 5, cells := 0, slots := 0, locals := 116 } s m args below meth c H locs 0 0 Q (F0 m 4 ls [])), ∀ (u0 : Int64) (u1 : Int64) (S : MS) (H : Heap) (locs : List Loc) (ls : Array Slot), fX3_readsSum_b97 k4 u0 u1 S = some (r, S') → zI D A s H locs (wM cy ad S) → lv_has ls 6 [(0, .ref (ad 0))] → W p l e { frames := 5, cells := 0, slots := 0, locals := 116 } s m args below meth c H locs 0 0 Q (F0 m 97 ls [.long u0, .long u1]) := by
    intro k4 hk4 u0 u1 S H locs ls hf hI hl
    unfold fX3_readsSum_b97 at hf
    refine lv_lxor hx hb dX3_readsSum_97 ?_
    refine lv_lstore_n (lv' := [(1, .long (u1 ^^^ u0)), (0, .ref (ad 0))]) hx hb dX3_readsSum_98 rfl hl (by decide) rfl (fun ls hl => ?_)
    refine lv_aload_n hx hb dX3_readsSum_99 rfl (lv_at hl 1 rfl) ?_
    obtain ⟨r_100, S_100, hf_100, hf⟩ := zB2_s hf
    refine z_callV (w2 := (wM cy ad S_100)) C 0 (kX3_isWell l zq D cy ad S S_100 r_100 hf_100) gX3_readsSum_X3_isWell rfl (by decide +kernel) ⟨by decide, by decide⟩ hI 0 rfl rfl rfl hl.1 rfl (Nat.le_of_ble_eq_true rfl) dX3_readsSum_100 ⟨by decide, by decide⟩ (st2 := [.int r_100]) rfl (fun H locs hI => ?_)
    refine lv_if_eq (tgt := 118) hx hb dX3_readsSum_103 (by decide) (fun c_103 => ?_) (fun c_103 => ?_)
    · replace hf := zIt c_103 hf
      exact hb118 k4 hk4 (u1 ^^^ u0) S_100 _ _ _ hf hI (lv_sub hl [1, 0] rfl)
    · replace hf := zIf c_103 hf
      refine lv_aload_n hx hb dX3_readsSum_106 rfl (lv_at hl 1 rfl) ?_
      refine va_get (D := D) (ci := 3) (v := .int (m_token S_100)) (C := RX3) (T := TX3) (N := 27) hx hb hts hiX3 hown hK hI.1 0 rfl rfl 6 (by decide) (hts (.fieldLink RX3 88 "NoughtSumsModel" "token" "I") (by decide +kernel)) (fun _ h9 => h9) rfl dX3_readsSum_107 ?_
      refine lv_iconst (v := 4) hx hb dX3_readsSum_110 (by decide) ?_
      refine lv_icmp_ne (tgt := 118) hx hb dX3_readsSum_111 (by decide) (fun c_111 => ?_) (fun c_111 => ?_)
      · replace hf := zIf c_111 hf
        exact hb118 k4 hk4 (u1 ^^^ u0) S_100 _ _ _ hf hI (lv_sub hl [1, 0] rfl)
      · replace hf := zIt c_111 hf
        refine lv_iconst (v := 1) hx hb dX3_readsSum_114 (by decide) ?_
        refine lv_goto (tgt := 119) hx hb dX3_readsSum_115 (by decide) ?_
        exact hb119 k4 hk4 (u1 ^^^ u0) (1 : Int32) S_100 _ _ _ hf hI (lv_sub hl [1, 0] rfl)
  have hb57 : ∀ (k4 : Int64 → Int32 → MS → Option (Int64 × MS)) (hk4 : ∀ (v1 : Int64) (v3 : Int32) (S : MS) (H : Heap) (locs : List Loc) (ls : Array Slot), k4 v1 v3 S = some (r, S') → zI D A s H locs (wM cy ad S) → lv_has ls 6 [(0, .ref (ad 0)), (1, .long v1), (3, .int v3)] → W p l e { frames := 5, cells := 0, slots := 0, locals := 116 } s m args below meth c H locs 0 0 Q (F0 m 4 ls [])), ∀ (v1 : Int64) (v4 : Int32) (u0 : Int32) (S : MS) (H : Heap) (locs : List Loc) (ls : Array Slot), fX3_readsSum_b57 k4 v1 v4 u0 S = some (r, S') → zI D A s H locs (wM cy ad S) → lv_has ls 6 [(0, .ref (ad 0)), (1, .long v1), (4, .int v4)] → W p l e { frames := 5, cells := 0, slots := 0, locals := 116 } s m args below meth c H locs 0 0 Q (F0 m 57 ls [.int u0, .ref (ad 0)]) := by
    intro k4 hk4 v1 v4 u0 S H locs ls hf hI hl
    unfold fX3_readsSum_b57 at hf
    obtain ⟨r_57, S_57, hf_57, hf⟩ := zB2_s hf
    refine z_callV (w2 := (wM cy ad S_57)) C 1 (kX3_takes l zq D cy ad u0 S S_57 r_57 hf_57) gX3_readsSum_X3_takes rfl (by decide +kernel) ⟨by decide, by decide⟩ hI 0 rfl rfl rfl hl.1 rfl (Nat.le_of_ble_eq_true rfl) dX3_readsSum_57 ⟨by decide, by decide⟩ (st2 := [.int r_57]) rfl (fun H locs hI => ?_)
    refine lv_istore (lv' := [(5, .int r_57), (0, .ref (ad 0)), (1, .long v1), (4, .int v4)]) hx hb dX3_readsSum_60 hl (by decide) rfl (fun ls hl => ?_)
    refine lv_lload_n hx hb dX3_readsSum_62 rfl (lv_at hl 2 rfl) ?_
    refine lv_aload_n hx hb dX3_readsSum_63 rfl (lv_at hl 1 rfl) ?_
    obtain ⟨r_64, S_64, hf_64, hf⟩ := zB2_s hf
    refine z_callV (w2 := (wM cy ad S_64)) C 0 (kX3_isWell l zq D cy ad S_57 S_64 r_64 hf_64) gX3_readsSum_X3_isWell rfl (by decide +kernel) ⟨by decide, by decide⟩ hI 0 rfl rfl rfl hl.1 rfl (Nat.le_of_ble_eq_true rfl) dX3_readsSum_64 ⟨by decide, by decide⟩ (st2 := [.int r_64, .long v1]) rfl (fun H locs hI => ?_)
    refine lv_if_ne (tgt := 74) hx hb dX3_readsSum_67 (by decide) (fun c_67 => ?_) (fun c_67 => ?_)
    · replace hf := zIf c_67 hf
      refine lv_iload hx hb dX3_readsSum_74 (lv_at hl 3 rfl) ?_
      refine lv_if_eq (tgt := 86) hx hb dX3_readsSum_76 (by decide) (fun c_76 => ?_) (fun c_76 => ?_)
      · replace hf := zIt c_76 hf
        refine lv_iload hx hb dX3_readsSum_86 (lv_at hl 0 rfl) ?_
        refine lv_iconst (v := 1) hx hb dX3_readsSum_88 (by decide) ?_
        refine lv_icmp_ne (tgt := 96) hx hb dX3_readsSum_89 (by decide) (fun c_89 => ?_) (fun c_89 => ?_)
        · replace hf := zIf c_89 hf
          refine lv_lconst (v := 0) hx hb dX3_readsSum_96 (by decide) ?_
          exact hb97 k4 hk4 (0 : Int64) v1 S_64 _ _ _ hf hI (lv_sub hl [1] rfl)
        · replace hf := zIt c_89 hf
          refine lv_lconst (v := 1) hx hb dX3_readsSum_92 (by decide) ?_
          refine lv_goto (tgt := 97) hx hb dX3_readsSum_93 (by decide) ?_
          exact hb97 k4 hk4 (1 : Int64) v1 S_64 _ _ _ hf hI (lv_sub hl [1] rfl)
      · replace hf := zIf c_76 hf
        refine lv_lconst (v := 1) hx hb dX3_readsSum_79 (by decide) ?_
        refine lv_iload hx hb dX3_readsSum_80 (lv_at hl 0 rfl) ?_
        refine lv_lshl hx hb dX3_readsSum_82 rfl ?_
        refine lv_goto (tgt := 97) hx hb dX3_readsSum_83 (by decide) ?_
        exact hb97 k4 hk4 ((1 : Int64) <<< (r_57.toInt64 &&& 63)) v1 S_64 _ _ _ hf hI (lv_sub hl [1] rfl)
    · replace hf := zIt c_67 hf
      refine lv_lconst (v := 0) hx hb dX3_readsSum_70 (by decide) ?_
      refine lv_goto (tgt := 97) hx hb dX3_readsSum_71 (by decide) ?_
      exact hb97 k4 hk4 (0 : Int64) v1 S_64 _ _ _ hf hI (lv_sub hl [1] rfl)
  have hb56 : ∀ (k4 : Int64 → Int32 → MS → Option (Int64 × MS)) (hk4 : ∀ (v1 : Int64) (v3 : Int32) (S : MS) (H : Heap) (locs : List Loc) (ls : Array Slot), k4 v1 v3 S = some (r, S') → zI D A s H locs (wM cy ad S) → lv_has ls 6 [(0, .ref (ad 0)), (1, .long v1), (3, .int v3)] → W p l e { frames := 5, cells := 0, slots := 0, locals := 116 } s m args below meth c H locs 0 0 Q (F0 m 4 ls [])), ∀ (v1 : Int64) (v4 : Int32) (S : MS) (H : Heap) (locs : List Loc) (ls : Array Slot), fX3_readsSum_b56 k4 v1 v4 S = some (r, S') → zI D A s H locs (wM cy ad S) → lv_has ls 6 [(0, .ref (ad 0)), (1, .long v1), (4, .int v4)] → W p l e { frames := 5, cells := 0, slots := 0, locals := 116 } s m args below meth c H locs 0 0 Q (F0 m 56 ls [.ref (ad 0)]) := by
    intro k4 hk4 v1 v4 S H locs ls hf hI hl
    unfold fX3_readsSum_b56 at hf
    refine lv_iconst (v := 0) hx hb dX3_readsSum_56 (by decide) ?_
    exact hb57 k4 hk4 v1 v4 (0 : Int32) S _ _ _ hf hI (lv_sub hl [0, 1, 2] rfl)
  have hb52 : ∀ (k4 : Int64 → Int32 → MS → Option (Int64 × MS)) (hk4 : ∀ (v1 : Int64) (v3 : Int32) (S : MS) (H : Heap) (locs : List Loc) (ls : Array Slot), k4 v1 v3 S = some (r, S') → zI D A s H locs (wM cy ad S) → lv_has ls 6 [(0, .ref (ad 0)), (1, .long v1), (3, .int v3)] → W p l e { frames := 5, cells := 0, slots := 0, locals := 116 } s m args below meth c H locs 0 0 Q (F0 m 4 ls [])), ∀ (v1 : Int64) (v4 : Int32) (S : MS) (H : Heap) (locs : List Loc) (ls : Array Slot), fX3_readsSum_b52 k4 v1 v4 S = some (r, S') → zI D A s H locs (wM cy ad S) → lv_has ls 6 [(0, .ref (ad 0)), (1, .long v1), (4, .int v4)] → W p l e { frames := 5, cells := 0, slots := 0, locals := 116 } s m args below meth c H locs 0 0 Q (F0 m 52 ls [.ref (ad 0)]) := by
    intro k4 hk4 v1 v4 S H locs ls hf hI hl
    unfold fX3_readsSum_b52 at hf
    refine lv_iconst (v := 1) hx hb dX3_readsSum_52 (by decide) ?_
    refine lv_goto (tgt := 57) hx hb dX3_readsSum_53 (by decide) ?_
    exact hb57 k4 hk4 v1 v4 (1 : Int32) S _ _ _ hf hI (lv_sub hl [0, 1, 2] rfl)
  have hb28 : ∀ (k4 : Int64 → Int32 → MS → Option (Int64 × MS)) (hk4 : ∀ (v1 : Int64) (v3 : Int32) (S : MS) (H : Heap) (locs : List Loc) (ls : Array Slot), k4 v1 v3 S = some (r, S') → zI D A s H locs (wM cy ad S) → lv_has ls 6 [(0, .ref (ad 0)), (1, .long v1), (3, .int v3)] → W p l e { frames := 5, cells := 0, slots := 0, locals := 116 } s m args below meth c H locs 0 0 Q (F0 m 4 ls [])), ∀ (v1 : Int64) (u0 : Int32) (S : MS) (H : Heap) (locs : List Loc) (ls : Array Slot), fX3_readsSum_b28 k4 v1 u0 S = some (r, S') → zI D A s H locs (wM cy ad S) → lv_has ls 6 [(0, .ref (ad 0)), (1, .long v1)] → W p l e { frames := 5, cells := 0, slots := 0, locals := 116 } s m args below meth c H locs 0 0 Q (F0 m 28 ls [.int u0]) := by
    intro k4 hk4 v1 u0 S H locs ls hf hI hl
    unfold fX3_readsSum_b28 at hf
    refine lv_istore (lv' := [(4, .int u0), (0, .ref (ad 0)), (1, .long v1)]) hx hb dX3_readsSum_28 hl (by decide) rfl (fun ls hl => ?_)
    refine lv_aload_n hx hb dX3_readsSum_30 rfl (lv_at hl 1 rfl) ?_
    refine lv_iload hx hb dX3_readsSum_31 (lv_at hl 0 rfl) ?_
    refine lv_if_ne (tgt := 52) hx hb dX3_readsSum_33 (by decide) (fun c_33 => ?_) (fun c_33 => ?_)
    · replace hf := zIf c_33 hf
      exact hb52 k4 hk4 v1 u0 S _ _ _ hf hI (lv_sub hl [1, 2, 0] rfl)
    · replace hf := zIt c_33 hf
      refine lv_aload_n hx hb dX3_readsSum_36 rfl (lv_at hl 1 rfl) ?_
      refine va_get (D := D) (ci := 3) (v := .int (m_token S)) (C := RX3) (T := TX3) (N := 27) hx hb hts hiX3 hown hK hI.1 0 rfl rfl 6 (by decide) (hts (.fieldLink RX3 88 "NoughtSumsModel" "token" "I") (by decide +kernel)) (fun _ h9 => h9) rfl dX3_readsSum_37 ?_
      refine lv_iconst (v := 3) hx hb dX3_readsSum_40 (by decide) ?_
      refine lv_icmp_ne (tgt := 56) hx hb dX3_readsSum_41 (by decide) (fun c_41 => ?_) (fun c_41 => ?_)
      · replace hf := zIf c_41 hf
        exact hb56 k4 hk4 v1 u0 S _ _ _ hf hI (lv_sub hl [1, 2, 0] rfl)
      · replace hf := zIt c_41 hf
        refine lv_aload_n hx hb dX3_readsSum_44 rfl (lv_at hl 1 rfl) ?_
        refine va_get (D := D) (ci := 3) (v := .int (m_value S)) (C := RX3) (T := TX3) (N := 27) hx hb hts hiX3 hown hK hI.1 0 rfl rfl 8 (by decide) (hts (.fieldLink RX3 91 "NoughtSumsModel" "value" "I") (by decide +kernel)) (fun _ h9 => h9) rfl dX3_readsSum_45 ?_
        refine lv_iconst (v := 2) hx hb dX3_readsSum_48 (by decide) ?_
        refine lv_icmp_ge (tgt := 56) hx hb dX3_readsSum_49 (by decide) (fun c_49 => ?_) (fun c_49 => ?_)
        · replace hf := zIt c_49 hf
          exact hb56 k4 hk4 v1 u0 S _ _ _ hf hI (lv_sub hl [1, 2, 0] rfl)
        · replace hf := zIf c_49 hf
          exact hb52 k4 hk4 v1 u0 S _ _ _ hf hI (lv_sub hl [1, 2, 0] rfl)
  have hb4 : ∀ (n : Nat), ∀ (v1 : Int64) (v3 : Int32) (S : MS) (H : Heap) (locs : List Loc) (ls : Array Slot), fX3_readsSum_b4L n v1 v3 S = some (r, S') → zI D A s H locs (wM cy ad S) → lv_has ls 6 [(0, .ref (ad 0)), (1, .long v1), (3, .int v3)] → W p l e { frames := 5, cells := 0, slots := 0, locals := 116 } s m args below meth c H locs 0 0 Q (F0 m 4 ls []) := by
    intro n
    induction n with
    | zero => intro v1 v3 S H locs ls hf; cases (show (none : Option (Int64 × MS)) = some (r, S') from hf)
    | succ n ih =>
      intro v1 v3 S H locs ls hf hI hl
      have hf : fX3_readsSum_b4 (fX3_readsSum_b4L n) v1 v3 S = some (r, S') := hf
      unfold fX3_readsSum_b4 at hf
      refine lv_iload_n hx hb dX3_readsSum_4 rfl (lv_at hl 2 rfl) ?_
      refine lv_if_eq (tgt := 131) hx hb dX3_readsSum_5 (by decide) (fun c_5 => ?_) (fun c_5 => ?_)
      · replace hf := zIt c_5 hf
        refine lv_lload_n hx hb dX3_readsSum_131 rfl (lv_at hl 1 rfl) ?_
        obtain ⟨h1, h2⟩ := zP2 hf
        rw [hQ]
        exact z_lret C (by rw [h2]; exact hI) (by rw [h1]) dX3_readsSum_132
      · replace hf := zIf c_5 hf
        refine lv_aload_n hx hb dX3_readsSum_8 rfl (lv_at hl 0 rfl) ?_
        obtain ⟨r_9, S_9, hf_9, hf⟩ := zB2_s hf
        refine z_callV (w2 := (wM cy ad S_9)) C 0 (kX3_isWell l zq D cy ad S S_9 r_9 hf_9) gX3_readsSum_X3_isWell rfl (by decide +kernel) ⟨by decide, by decide⟩ hI 0 rfl rfl rfl hl.1 rfl (Nat.le_of_ble_eq_true rfl) dX3_readsSum_9 ⟨by decide, by decide⟩ (st2 := [.int r_9]) rfl (fun H locs hI => ?_)
        refine lv_if_eq (tgt := 131) hx hb dX3_readsSum_12 (by decide) (fun c_12 => ?_) (fun c_12 => ?_)
        · replace hf := zIt c_12 hf
          refine lv_lload_n hx hb dX3_readsSum_131 rfl (lv_at hl 1 rfl) ?_
          obtain ⟨h1, h2⟩ := zP2 hf
          rw [hQ]
          exact z_lret C (by rw [h2]; exact hI) (by rw [h1]) dX3_readsSum_132
        · replace hf := zIf c_12 hf
          refine lv_aload_n hx hb dX3_readsSum_15 rfl (lv_at hl 0 rfl) ?_
          refine va_get (D := D) (ci := 3) (v := .int (m_token S_9)) (C := RX3) (T := TX3) (N := 27) hx hb hts hiX3 hown hK hI.1 0 rfl rfl 6 (by decide) (hts (.fieldLink RX3 88 "NoughtSumsModel" "token" "I") (by decide +kernel)) (fun _ h9 => h9) rfl dX3_readsSum_16 ?_
          refine lv_iconst (v := 1) hx hb dX3_readsSum_19 (by decide) ?_
          refine lv_icmp_ne (tgt := 27) hx hb dX3_readsSum_20 (by decide) (fun c_20 => ?_) (fun c_20 => ?_)
          · replace hf := zIf c_20 hf
            refine lv_iconst (v := 0) hx hb dX3_readsSum_27 (by decide) ?_
            exact hb28 (fX3_readsSum_b4L n) ih v1 (0 : Int32) S_9 _ _ _ hf hI (lv_sub hl [0, 1] rfl)
          · replace hf := zIt c_20 hf
            refine lv_iconst (v := 1) hx hb dX3_readsSum_23 (by decide) ?_
            refine lv_goto (tgt := 28) hx hb dX3_readsSum_24 (by decide) ?_
            exact hb28 (fX3_readsSum_b4L n) ih v1 (1 : Int32) S_9 _ _ _ hf hI (lv_sub hl [0, 1] rfl)
  unfold fX3_readsSum at hf
  refine lv_lconst (v := 0) hx hb dX3_readsSum_0 (by decide) ?_
  refine lv_lstore_n (lv' := [(1, .long (0 : Int64)), (0, .ref (ad 0))]) hx hb dX3_readsSum_1 rfl hl (by decide) rfl (fun ls hl => ?_)
  refine lv_iconst (v := 1) hx hb dX3_readsSum_2 (by decide) ?_
  refine lv_istore_n (lv' := [(3, .int (1 : Int32)), (1, .long (0 : Int64)), (0, .ref (ad 0))]) hx hb dX3_readsSum_3 rfl hl (by decide) rfl (fun ls hl => ?_)
  exact hb4 zF (0 : Int64) (1 : Int32) S _ _ _ hf hI (lv_sub hl [2, 1, 0] rfl)

def fX3_bears_b72 (k10 : Int64 → Int32 → MS → Option (Int64 × MS)) (v3 : Int64) (v5 : Int32) (S : MS) : Option (Int64 × MS) :=
k10 v3 (v5 + (1 : Int32)) S

def fX3_bears_b10 (k10 : Int64 → Int32 → MS → Option (Int64 × MS)) (v3 : Int64) (v5 : Int32) (S : MS) : Option (Int64 × MS) :=
(if (m_vectors S) ≤ v5 then some (v3, S) else
(zGI v5 64
((zGI v5 64
((zL (((m_vector S) v5.toNatClampNeg) &&& (-((m_vector S) v5.toNatClampNeg))) (fun n_35 =>
(if (lg_cmp (v3 &&& n_35) (0 : Int64)) = 0 then fX3_bears_b72 k10 v3 v5 S else
(zGI v5 64
((zGI v5 64
((zL (m_rests_u S ((m_rests S) ^^^ ((m_made0 S) v5.toNatClampNeg))) (fun S_69 =>
fX3_bears_b72 k10 (v3 ^^^ ((m_vector S) v5.toNatClampNeg)) v5 S_69))))))))))))))
def fX3_bears_b10L : Nat → Int64 → Int32 → MS → Option (Int64 × MS)
  | 0, _, _, _ => none
  | n + 1, v3, v5, S => fX3_bears_b10 (fX3_bears_b10L n) v3 v5 S

def fX3_bears (a1 : Int64) (S : MS) : Option (Int64 × MS) :=
(zL (m_rests_u S (0 : Int64)) (fun S_4 =>
fX3_bears_b10L zF a1 (0 : Int32) S_4))
set_option maxHeartbeats 4000000 in
set_option maxRecDepth 100000 in
theorem kX3_bears (l : Launch) (zq : Nat → Nat) (D : va_G) (cy : Nat → ClassId) (ad : Nat → Nat) (a1 : Int64) (S S' : MS) (r : Int64) (hf : fX3_bears a1 S = some (r, S')) : zMet l yX3_bears wsX3_bears 0 0 zq D (tM cy) (wM cy ad S) [.ref (ad 0), .long a1] (some (.long r)) (wM cy ad S') := by
  refine zMet.of cX3_bears 8 (some .long) (by decide) rfl (Nat.le_of_ble_eq_true rfl) ?_
  intro p e s m args below meth c A ls C hl hI
  have hl : lv_has ls 8 [(0, .ref (ad 0)), (1, .long a1)] := hl
  have C : zC p s m args meth c cX3_bears 8 (some .long) RX3 wsX3_bears D (tM cy) zq A := C
  obtain ⟨hx, hb, hml, hown, hts, hret, hlk, hK, hX, hA⟩ := id C
  have hiX3 : ∀ w ∈ wsX30, w ∈ wsX3_bears := by decide +kernel
  obtain ⟨Q, hQ⟩ : ∃ Q, Q = MQ below (zQ D (tM cy) (wM cy ad S') (some (.long r)) A) args s 0 0 A := ⟨_, rfl⟩
  rw [← hQ]
  have hb72 : ∀ (k10 : Int64 → Int32 → MS → Option (Int64 × MS)) (hk10 : ∀ (v3 : Int64) (v5 : Int32) (S : MS) (H : Heap) (locs : List Loc) (ls : Array Slot), k10 v3 v5 S = some (r, S') → zI D A s H locs (wM cy ad S) → lv_has ls 8 [(0, .ref (ad 0)), (3, .long v3), (5, .int v5)] → W p l e { frames := 0, cells := 0, slots := 0, locals := 0 } s m args below meth c H locs 0 0 Q (F0 m 10 ls [])), ∀ (v3 : Int64) (v5 : Int32) (S : MS) (H : Heap) (locs : List Loc) (ls : Array Slot), fX3_bears_b72 k10 v3 v5 S = some (r, S') → zI D A s H locs (wM cy ad S) → lv_has ls 8 [(0, .ref (ad 0)), (3, .long v3), (5, .int v5)] → W p l e { frames := 0, cells := 0, slots := 0, locals := 0 } s m args below meth c H locs 0 0 Q (F0 m 72 ls []) := by
    intro k10 hk10 v3 v5 S H locs ls hf hI hl
    unfold fX3_bears_b72 at hf
    refine lv_iinc (v := (v5 + (1 : Int32))) (lv' := [(5, .int (v5 + (1 : Int32))), (0, .ref (ad 0)), (3, .long v3)]) hx hb dX3_bears_72 hl (k := 2) rfl rfl (by decide) rfl (fun ls hl => ?_)
    refine lv_goto (tgt := 10) hx hb dX3_bears_75 (by decide) ?_
    exact hk10 v3 (v5 + (1 : Int32)) S _ _ _ hf hI (lv_sub hl [1, 2, 0] rfl)
  have hb10 : ∀ (n : Nat), ∀ (v3 : Int64) (v5 : Int32) (S : MS) (H : Heap) (locs : List Loc) (ls : Array Slot), fX3_bears_b10L n v3 v5 S = some (r, S') → zI D A s H locs (wM cy ad S) → lv_has ls 8 [(0, .ref (ad 0)), (3, .long v3), (5, .int v5)] → W p l e { frames := 0, cells := 0, slots := 0, locals := 0 } s m args below meth c H locs 0 0 Q (F0 m 10 ls []) := by
    intro n
    induction n with
    | zero => intro v3 v5 S H locs ls hf; cases (show (none : Option (Int64 × MS)) = some (r, S') from hf)
    | succ n ih =>
      intro v3 v5 S H locs ls hf hI hl
      have hf : fX3_bears_b10 (fX3_bears_b10L n) v3 v5 S = some (r, S') := hf
      unfold fX3_bears_b10 at hf
      refine lv_iload hx hb dX3_bears_10 (lv_at hl 2 rfl) ?_
      refine lv_aload_n hx hb dX3_bears_12 rfl (lv_at hl 0 rfl) ?_
      refine va_get (D := D) (ci := 3) (v := .int (m_vectors S)) (C := RX3) (T := TX3) (N := 27) hx hb hts hiX3 hown hK hI.1 0 rfl rfl 22 (by decide) (hts (.fieldLink RX3 164 "NoughtSumsModel" "vectors" "I") (by decide +kernel)) (fun _ h9 => h9) rfl dX3_bears_13 ?_
      refine lv_icmp_ge (tgt := 78) hx hb dX3_bears_16 (by decide) (fun c_16 => ?_) (fun c_16 => ?_)
      · replace hf := zIt c_16 hf
        refine lv_lload_n hx hb dX3_bears_78 rfl (lv_at hl 1 rfl) ?_
        obtain ⟨h1, h2⟩ := zP2 hf
        rw [hQ]
        exact z_lret C (by rw [h2]; exact hI) (by rw [h1]) dX3_bears_79
      · replace hf := zIf c_16 hf
        refine lv_aload_n hx hb dX3_bears_19 rfl (lv_at hl 0 rfl) ?_
        refine va_get (D := D) (ci := 3) (v := .ref (ad 7)) (C := RX3) (T := TX3) (N := 27) hx hb hts hiX3 hown hK hI.1 0 rfl rfl 20 (by decide) (hts (.fieldLink RX3 33 "NoughtSumsModel" "vector" "[J") (by decide +kernel)) (fun _ h9 => h9) rfl dX3_bears_20 ?_
        refine lv_iload hx hb dX3_bears_23 (lv_at hl 2 rfl) ?_
        obtain ⟨g_25, hf⟩ := zGI_s hf
        refine va_lald (f := (m_vector S)) hx hb hK hI.1 7 6 rfl rfl g_25 dX3_bears_25 ?_
        refine lv_aload_n hx hb dX3_bears_26 rfl (lv_at hl 0 rfl) ?_
        refine va_get (D := D) (ci := 3) (v := .ref (ad 7)) (C := RX3) (T := TX3) (N := 27) hx hb hts hiX3 hown hK hI.1 0 rfl rfl 20 (by decide) (hts (.fieldLink RX3 33 "NoughtSumsModel" "vector" "[J") (by decide +kernel)) (fun _ h9 => h9) rfl dX3_bears_27 ?_
        refine lv_iload hx hb dX3_bears_30 (lv_at hl 2 rfl) ?_
        obtain ⟨g_32, hf⟩ := zGI_s hf
        refine va_lald (f := (m_vector S)) hx hb hK hI.1 7 6 rfl rfl g_32 dX3_bears_32 ?_
        refine lv_lneg hx hb dX3_bears_33 ?_
        refine lv_land hx hb dX3_bears_34 ?_
        refine lv_topl (fun n_35 e_35 => ?_)
        replace hf := zL_s hf e_35
        refine lv_lstore (lv' := [(6, .long n_35), (0, .ref (ad 0)), (3, .long v3), (5, .int v5)]) hx hb dX3_bears_35 hl (by decide) rfl (fun ls hl => ?_)
        refine lv_lload_n hx hb dX3_bears_37 rfl (lv_at hl 2 rfl) ?_
        refine lv_lload hx hb dX3_bears_38 (lv_at hl 0 rfl) ?_
        refine lv_land hx hb dX3_bears_40 ?_
        refine lv_lconst (v := 0) hx hb dX3_bears_41 (by decide) ?_
        refine W.lcmp hx hb dX3_bears_42 ?_
        refine lv_if_eq (tgt := 72) hx hb dX3_bears_43 (by decide) (fun c_43 => ?_) (fun c_43 => ?_)
        · replace hf := zIt c_43 hf
          exact hb72 (fX3_bears_b10L n) ih v3 v5 S _ _ _ hf hI (lv_sub hl [1, 2, 3] rfl)
        · replace hf := zIf c_43 hf
          refine lv_lload_n hx hb dX3_bears_46 rfl (lv_at hl 2 rfl) ?_
          refine lv_aload_n hx hb dX3_bears_47 rfl (lv_at hl 1 rfl) ?_
          refine va_get (D := D) (ci := 3) (v := .ref (ad 7)) (C := RX3) (T := TX3) (N := 27) hx hb hts hiX3 hown hK hI.1 0 rfl rfl 20 (by decide) (hts (.fieldLink RX3 33 "NoughtSumsModel" "vector" "[J") (by decide +kernel)) (fun _ h9 => h9) rfl dX3_bears_48 ?_
          refine lv_iload hx hb dX3_bears_51 (lv_at hl 3 rfl) ?_
          obtain ⟨g_53, hf⟩ := zGI_s hf
          refine va_lald (f := (m_vector S)) hx hb hK hI.1 7 6 rfl rfl g_53 dX3_bears_53 ?_
          refine lv_lxor hx hb dX3_bears_54 ?_
          refine lv_lstore_n (lv' := [(3, .long (v3 ^^^ ((m_vector S) v5.toNatClampNeg))), (6, .long n_35), (0, .ref (ad 0)), (5, .int v5)]) hx hb dX3_bears_55 rfl hl (by decide) rfl (fun ls hl => ?_)
          refine lv_aload_n hx hb dX3_bears_56 rfl (lv_at hl 2 rfl) ?_
          refine lv_dup hx hb dX3_bears_57 rfl ?_
          refine va_get (D := D) (ci := 3) (v := .long (m_rests S)) (C := RX3) (T := TX3) (N := 27) hx hb hts hiX3 hown hK hI.1 0 rfl rfl 23 (by decide) (hts (.fieldLink RX3 160 "NoughtSumsModel" "rests" "J") (by decide +kernel)) (fun _ h9 => h9) rfl dX3_bears_58 ?_
          refine lv_aload_n hx hb dX3_bears_61 rfl (lv_at hl 2 rfl) ?_
          refine va_get (D := D) (ci := 3) (v := .ref (ad 8)) (C := RX3) (T := TX3) (N := 27) hx hb hts hiX3 hown hK hI.1 0 rfl rfl 21 (by decide) (hts (.fieldLink RX3 36 "NoughtSumsModel" "made0" "[J") (by decide +kernel)) (fun _ h9 => h9) rfl dX3_bears_62 ?_
          refine lv_iload hx hb dX3_bears_65 (lv_at hl 3 rfl) ?_
          obtain ⟨g_67, hf⟩ := zGI_s hf
          refine va_lald (f := (m_made0 S)) hx hb hK hI.1 8 7 rfl rfl g_67 dX3_bears_67 ?_
          refine lv_lxor hx hb dX3_bears_68 ?_
          obtain ⟨S_69, eS_69, hf⟩ := zL_e hf
          refine z_put (D := D) (ci := 3) (v := .long ((m_rests S) ^^^ ((m_made0 S) v5.toNatClampNeg))) (ty := .long) (C := RX3) (T := TX3) (N := 27) (w2 := (wM cy ad S_69)) hx hb hts hiX3 tyX3 tyX3_ok nmX3 hown hK hI 0 rfl rfl 23 (by decide) (hts (.fieldLink RX3 160 "NoughtSumsModel" "rests" "J") (by decide +kernel)) (fun _ h9 => h9) rfl (by decide +kernel) rfl rfl (Nat.le_of_ble_eq_true rfl) dX3_bears_69 (by rw [eS_69]; rfl) (fun H locs hI => ?_)
          exact hb72 (fX3_bears_b10L n) ih (v3 ^^^ ((m_vector S) v5.toNatClampNeg)) v5 S_69 _ _ _ hf hI (lv_sub hl [2, 0, 3] rfl)
  unfold fX3_bears at hf
  refine lv_lload_n hx hb dX3_bears_0 rfl (lv_at hl 1 rfl) ?_
  refine lv_lstore_n (lv' := [(3, .long a1), (0, .ref (ad 0)), (1, .long a1)]) hx hb dX3_bears_1 rfl hl (by decide) rfl (fun ls hl => ?_)
  refine lv_aload_n hx hb dX3_bears_2 rfl (lv_at hl 1 rfl) ?_
  refine lv_lconst (v := 0) hx hb dX3_bears_3 (by decide) ?_
  obtain ⟨S_4, eS_4, hf⟩ := zL_e hf
  refine z_put (D := D) (ci := 3) (v := .long (0 : Int64)) (ty := .long) (C := RX3) (T := TX3) (N := 27) (w2 := (wM cy ad S_4)) hx hb hts hiX3 tyX3 tyX3_ok nmX3 hown hK hI 0 rfl rfl 23 (by decide) (hts (.fieldLink RX3 160 "NoughtSumsModel" "rests" "J") (by decide +kernel)) (fun _ h9 => h9) rfl (by decide +kernel) rfl rfl (Nat.le_of_ble_eq_true rfl) dX3_bears_4 (by rw [eS_4]; rfl) (fun H locs hI => ?_)
  refine lv_iconst (v := 0) hx hb dX3_bears_7 (by decide) ?_
  refine lv_istore (lv' := [(5, .int (0 : Int32)), (3, .long a1), (0, .ref (ad 0)), (1, .long a1)]) hx hb dX3_bears_8 hl (by decide) rfl (fun ls hl => ?_)
  exact hb10 zF a1 (0 : Int32) S_4 _ _ _ hf hI (lv_sub hl [2, 1, 0] rfl)

def fX3_stands_b149 (k57 : Int32 → MS → Option MS) (v1 : Int32) (S : MS) : Option MS :=
k57 (v1 + (1 : Int32)) S

def fX3_stands_b57 (k57 : Int32 → MS → Option MS) (v1 : Int32) (S : MS) : Option MS :=
(if (64 : Int32) ≤ v1 then some S else
(zGI v1 64
((zB1 (fX3_values ((1 : Int64) <<< (((m_order S) v1.toNatClampNeg).toInt64 &&& 63))) (fun r_72 =>
(zB2 (fX3_bears (r_72 &&& (m_common S)) S) (fun r_80 S_80 =>
(if (lg_cmp r_80 (0 : Int64)) = 0 then fX3_stands_b149 k57 v1 S_80 else
(zGI v1 64
((zL (m_standing_u S_80 ((m_standing S_80) ||| ((1 : Int64) <<< (((m_order S_80) v1.toNatClampNeg).toInt64 &&& 63)))) (fun S_104 =>
(zGI (m_vectors S_104) 64
(zL (m_vector_u S_104 (vp_updL (m_vector S_104) (m_vectors S_104).toNatClampNeg r_80)) (fun S_116 =>
(zGI v1 64
((zGI (m_vectors S_116) 64
(zL (m_made0_u S_116 (vp_updL (m_made0 S_116) (m_vectors S_116).toNatClampNeg ((m_rests S_116) ^^^ ((1 : Int64) <<< (((m_order S_116) v1.toNatClampNeg).toInt64 &&& 63))))) (fun S_138 =>
(zL (m_vectors_u S_138 ((m_vectors S_138) + (1 : Int32))) (fun S_146 =>
fX3_stands_b149 k57 v1 S_146))))))))))))))))))))))
def fX3_stands_b57L : Nat → Int32 → MS → Option MS
  | 0, _, _ => none
  | n + 1, v1, S => fX3_stands_b57 (fX3_stands_b57L n) v1 S

def fX3_stands_b9 (k9 : Int32 → MS → Option MS) (v1 : Int32) (S : MS) : Option MS :=
(if (m_given S) ≤ v1 then (zL (m_standing_u S (0 : Int64)) (fun S_47 =>
(zL (m_vectors_u S_47 (0 : Int32)) (fun S_52 =>
fX3_stands_b57L zF (0 : Int32) S_52)))) else
(zGI v1 32
((zB1 (fX3_values ((m_line S) v1.toNatClampNeg)) (fun r_28 =>
(zL (m_common_u S ((m_common S) &&& (r_28 ^^^ (-1 : Int64)))) (fun S_36 =>
k9 (v1 + (1 : Int32)) S_36)))))))
def fX3_stands_b9L : Nat → Int32 → MS → Option MS
  | 0, _, _ => none
  | n + 1, v1, S => fX3_stands_b9 (fX3_stands_b9L n) v1 S

def fX3_stands  (S : MS) : Option MS :=
(zL (m_common_u S (-1 : Int64)) (fun S_4 =>
fX3_stands_b9L zF (0 : Int32) S_4))
set_option maxHeartbeats 4000000 in
set_option maxRecDepth 100000 in
theorem kX3_stands (l : Launch) (zq : Nat → Nat) (D : va_G) (cy : Nat → ClassId) (ad : Nat → Nat)  (S S' : MS) (hf : fX3_stands S = some S') : zMet l yX3_stands wsX3_stands 2 49 zq D (tM cy) (wM cy ad S) [.ref (ad 0)] none (wM cy ad S') := by
  refine zMet.of cX3_stands 4 none (by decide) rfl (Nat.le_of_ble_eq_true rfl) ?_
  intro p e s m args below meth c A ls C hl hI
  have hl : lv_has ls 4 [(0, .ref (ad 0))] := hl
  have C : zC p s m args meth c cX3_stands 4 none RX3 wsX3_stands D (tM cy) zq A := C
  obtain ⟨hx, hb, hml, hown, hts, hret, hlk, hK, hX, hA⟩ := id C
  have hiX3 : ∀ w ∈ wsX30, w ∈ wsX3_stands := by decide +kernel
  obtain ⟨Q, hQ⟩ : ∃ Q, Q = MQ below (zQ D (tM cy) (wM cy ad S') none A) args s 0 0 A := ⟨_, rfl⟩
  rw [← hQ]
  have hb149 : ∀ (k57 : Int32 → MS → Option MS) (hk57 : ∀ (v1 : Int32) (S : MS) (H : Heap) (locs : List Loc) (ls : Array Slot), k57 v1 S = some S' → zI D A s H locs (wM cy ad S) → lv_has ls 4 [(0, .ref (ad 0)), (1, .int v1)] → W p l e { frames := 2, cells := 0, slots := 0, locals := 49 } s m args below meth c H locs 0 0 Q (F0 m 57 ls [])), ∀ (v1 : Int32) (S : MS) (H : Heap) (locs : List Loc) (ls : Array Slot), fX3_stands_b149 k57 v1 S = some S' → zI D A s H locs (wM cy ad S) → lv_has ls 4 [(0, .ref (ad 0)), (1, .int v1)] → W p l e { frames := 2, cells := 0, slots := 0, locals := 49 } s m args below meth c H locs 0 0 Q (F0 m 149 ls []) := by
    intro k57 hk57 v1 S H locs ls hf hI hl
    unfold fX3_stands_b149 at hf
    refine lv_iinc (v := (v1 + (1 : Int32))) (lv' := [(1, .int (v1 + (1 : Int32))), (0, .ref (ad 0))]) hx hb dX3_stands_149 hl (k := 1) rfl rfl (by decide) rfl (fun ls hl => ?_)
    refine lv_goto (tgt := 57) hx hb dX3_stands_152 (by decide) ?_
    exact hk57 (v1 + (1 : Int32)) S _ _ _ hf hI (lv_sub hl [1, 0] rfl)
  have hb57 : ∀ (n : Nat), ∀ (v1 : Int32) (S : MS) (H : Heap) (locs : List Loc) (ls : Array Slot), fX3_stands_b57L n v1 S = some S' → zI D A s H locs (wM cy ad S) → lv_has ls 4 [(0, .ref (ad 0)), (1, .int v1)] → W p l e { frames := 2, cells := 0, slots := 0, locals := 49 } s m args below meth c H locs 0 0 Q (F0 m 57 ls []) := by
    intro n
    induction n with
    | zero => intro v1 S H locs ls hf; cases (show (none : Option MS) = some S' from hf)
    | succ n ih =>
      intro v1 S H locs ls hf hI hl
      have hf : fX3_stands_b57 (fX3_stands_b57L n) v1 S = some S' := hf
      unfold fX3_stands_b57 at hf
      refine lv_iload_n hx hb dX3_stands_57 rfl (lv_at hl 1 rfl) ?_
      refine lv_bipush (v := 64) hx hb dX3_stands_58 (by decide) ?_
      refine lv_icmp_ge (tgt := 155) hx hb dX3_stands_60 (by decide) (fun c_60 => ?_) (fun c_60 => ?_)
      · replace hf := zIt c_60 hf
        have h2 := zP1 hf
        rw [hQ]
        exact z_vret C (by rw [h2]; exact hI) rfl dX3_stands_155
      · replace hf := zIf c_60 hf
        refine lv_aload_n hx hb dX3_stands_63 rfl (lv_at hl 0 rfl) ?_
        refine lv_lconst (v := 1) hx hb dX3_stands_64 (by decide) ?_
        refine lv_aload_n hx hb dX3_stands_65 rfl (lv_at hl 0 rfl) ?_
        refine va_get (D := D) (ci := 3) (v := .ref (ad 1)) (C := RX3) (T := TX3) (N := 27) hx hb hts hiX3 hown hK hI.1 0 rfl rfl 2 (by decide) (hts (.fieldLink RX3 7 "NoughtSumsModel" "order" "[I") (by decide +kernel)) (fun _ h9 => h9) rfl dX3_stands_66 ?_
        refine lv_iload_n hx hb dX3_stands_69 rfl (lv_at hl 1 rfl) ?_
        obtain ⟨g_70, hf⟩ := zGI_s hf
        refine va_iald (f := (m_order S)) hx hb hK hI.1 1 0 rfl rfl g_70 dX3_stands_70 ?_
        refine lv_lshl hx hb dX3_stands_71 rfl ?_
        obtain ⟨r_72, hf_72, hf⟩ := zB1_s hf
        refine z_callS C 1 (kX3_values l zq D ((1 : Int64) <<< (((m_order S) v1.toNatClampNeg).toInt64 &&& 63)) r_72 hf_72) gX3_stands_X3_values rfl (by decide +kernel) ⟨by decide, by decide⟩ hI rfl hl.1 rfl (Nat.le_of_ble_eq_true rfl) dX3_stands_72 ⟨by decide, by decide⟩ (st2 := [.long r_72, .ref (ad 0)]) rfl (fun H locs hI => ?_)
        refine lv_aload_n hx hb dX3_stands_75 rfl (lv_at hl 0 rfl) ?_
        refine va_get (D := D) (ci := 3) (v := .long (m_common S)) (C := RX3) (T := TX3) (N := 27) hx hb hts hiX3 hown hK hI.1 0 rfl rfl 18 (by decide) (hts (.fieldLink RX3 169 "NoughtSumsModel" "common" "J") (by decide +kernel)) (fun _ h9 => h9) rfl dX3_stands_76 ?_
        refine lv_land hx hb dX3_stands_79 ?_
        obtain ⟨r_80, S_80, hf_80, hf⟩ := zB2_s hf
        refine z_callV (w2 := (wM cy ad S_80)) C 1 (kX3_bears l zq D cy ad (r_72 &&& (m_common S)) S S_80 r_80 hf_80) gX3_stands_X3_bears rfl (by decide +kernel) ⟨by decide, by decide⟩ hI 0 rfl rfl rfl hl.1 rfl (Nat.le_of_ble_eq_true rfl) dX3_stands_80 ⟨by decide, by decide⟩ (st2 := [.long r_80]) rfl (fun H locs hI => ?_)
        refine lv_lstore_n (lv' := [(2, .long r_80), (0, .ref (ad 0)), (1, .int v1)]) hx hb dX3_stands_83 rfl hl (by decide) rfl (fun ls hl => ?_)
        refine lv_lload_n hx hb dX3_stands_84 rfl (lv_at hl 0 rfl) ?_
        refine lv_lconst (v := 0) hx hb dX3_stands_85 (by decide) ?_
        refine W.lcmp hx hb dX3_stands_86 ?_
        refine lv_if_eq (tgt := 149) hx hb dX3_stands_87 (by decide) (fun c_87 => ?_) (fun c_87 => ?_)
        · replace hf := zIt c_87 hf
          exact hb149 (fX3_stands_b57L n) ih v1 S_80 _ _ _ hf hI (lv_sub hl [1, 2] rfl)
        · replace hf := zIf c_87 hf
          refine lv_aload_n hx hb dX3_stands_90 rfl (lv_at hl 1 rfl) ?_
          refine lv_dup hx hb dX3_stands_91 rfl ?_
          refine va_get (D := D) (ci := 3) (v := .long (m_standing S_80)) (C := RX3) (T := TX3) (N := 27) hx hb hts hiX3 hown hK hI.1 0 rfl rfl 19 (by decide) (hts (.fieldLink RX3 172 "NoughtSumsModel" "standing" "J") (by decide +kernel)) (fun _ h9 => h9) rfl dX3_stands_92 ?_
          refine lv_lconst (v := 1) hx hb dX3_stands_95 (by decide) ?_
          refine lv_aload_n hx hb dX3_stands_96 rfl (lv_at hl 1 rfl) ?_
          refine va_get (D := D) (ci := 3) (v := .ref (ad 1)) (C := RX3) (T := TX3) (N := 27) hx hb hts hiX3 hown hK hI.1 0 rfl rfl 2 (by decide) (hts (.fieldLink RX3 7 "NoughtSumsModel" "order" "[I") (by decide +kernel)) (fun _ h9 => h9) rfl dX3_stands_97 ?_
          refine lv_iload_n hx hb dX3_stands_100 rfl (lv_at hl 2 rfl) ?_
          obtain ⟨g_101, hf⟩ := zGI_s hf
          refine va_iald (f := (m_order S_80)) hx hb hK hI.1 1 0 rfl rfl g_101 dX3_stands_101 ?_
          refine lv_lshl hx hb dX3_stands_102 rfl ?_
          refine lv_lor hx hb dX3_stands_103 ?_
          obtain ⟨S_104, eS_104, hf⟩ := zL_e hf
          refine z_put (D := D) (ci := 3) (v := .long ((m_standing S_80) ||| ((1 : Int64) <<< (((m_order S_80) v1.toNatClampNeg).toInt64 &&& 63)))) (ty := .long) (C := RX3) (T := TX3) (N := 27) (w2 := (wM cy ad S_104)) hx hb hts hiX3 tyX3 tyX3_ok nmX3 hown hK hI 0 rfl rfl 19 (by decide) (hts (.fieldLink RX3 172 "NoughtSumsModel" "standing" "J") (by decide +kernel)) (fun _ h9 => h9) rfl (by decide +kernel) rfl rfl (Nat.le_of_ble_eq_true rfl) dX3_stands_104 (by rw [eS_104]; rfl) (fun H locs hI => ?_)
          refine lv_aload_n hx hb dX3_stands_107 rfl (lv_at hl 1 rfl) ?_
          refine va_get (D := D) (ci := 3) (v := .ref (ad 7)) (C := RX3) (T := TX3) (N := 27) hx hb hts hiX3 hown hK hI.1 0 rfl rfl 20 (by decide) (hts (.fieldLink RX3 33 "NoughtSumsModel" "vector" "[J") (by decide +kernel)) (fun _ h9 => h9) rfl dX3_stands_108 ?_
          refine lv_aload_n hx hb dX3_stands_111 rfl (lv_at hl 1 rfl) ?_
          refine va_get (D := D) (ci := 3) (v := .int (m_vectors S_104)) (C := RX3) (T := TX3) (N := 27) hx hb hts hiX3 hown hK hI.1 0 rfl rfl 22 (by decide) (hts (.fieldLink RX3 164 "NoughtSumsModel" "vectors" "I") (by decide +kernel)) (fun _ h9 => h9) rfl dX3_stands_112 ?_
          refine lv_lload_n hx hb dX3_stands_115 rfl (lv_at hl 0 rfl) ?_
          obtain ⟨g_116, hf⟩ := zGI_s hf
          obtain ⟨S_116, eS_116, hf⟩ := zL_e hf
          refine z_last (f := (m_vector S_104)) (w2 := (wM cy ad S_116)) hx hb hK hI 7 6 rfl rfl g_116 dX3_stands_116 (by rw [eS_116]; rfl) (fun H locs hI => ?_)
          refine lv_aload_n hx hb dX3_stands_117 rfl (lv_at hl 1 rfl) ?_
          refine va_get (D := D) (ci := 3) (v := .ref (ad 8)) (C := RX3) (T := TX3) (N := 27) hx hb hts hiX3 hown hK hI.1 0 rfl rfl 21 (by decide) (hts (.fieldLink RX3 36 "NoughtSumsModel" "made0" "[J") (by decide +kernel)) (fun _ h9 => h9) rfl dX3_stands_118 ?_
          refine lv_aload_n hx hb dX3_stands_121 rfl (lv_at hl 1 rfl) ?_
          refine va_get (D := D) (ci := 3) (v := .int (m_vectors S_116)) (C := RX3) (T := TX3) (N := 27) hx hb hts hiX3 hown hK hI.1 0 rfl rfl 22 (by decide) (hts (.fieldLink RX3 164 "NoughtSumsModel" "vectors" "I") (by decide +kernel)) (fun _ h9 => h9) rfl dX3_stands_122 ?_
          refine lv_aload_n hx hb dX3_stands_125 rfl (lv_at hl 1 rfl) ?_
          refine va_get (D := D) (ci := 3) (v := .long (m_rests S_116)) (C := RX3) (T := TX3) (N := 27) hx hb hts hiX3 hown hK hI.1 0 rfl rfl 23 (by decide) (hts (.fieldLink RX3 160 "NoughtSumsModel" "rests" "J") (by decide +kernel)) (fun _ h9 => h9) rfl dX3_stands_126 ?_
          refine lv_lconst (v := 1) hx hb dX3_stands_129 (by decide) ?_
          refine lv_aload_n hx hb dX3_stands_130 rfl (lv_at hl 1 rfl) ?_
          refine va_get (D := D) (ci := 3) (v := .ref (ad 1)) (C := RX3) (T := TX3) (N := 27) hx hb hts hiX3 hown hK hI.1 0 rfl rfl 2 (by decide) (hts (.fieldLink RX3 7 "NoughtSumsModel" "order" "[I") (by decide +kernel)) (fun _ h9 => h9) rfl dX3_stands_131 ?_
          refine lv_iload_n hx hb dX3_stands_134 rfl (lv_at hl 2 rfl) ?_
          obtain ⟨g_135, hf⟩ := zGI_s hf
          refine va_iald (f := (m_order S_116)) hx hb hK hI.1 1 0 rfl rfl g_135 dX3_stands_135 ?_
          refine lv_lshl hx hb dX3_stands_136 rfl ?_
          refine lv_lxor hx hb dX3_stands_137 ?_
          obtain ⟨g_138, hf⟩ := zGI_s hf
          obtain ⟨S_138, eS_138, hf⟩ := zL_e hf
          refine z_last (f := (m_made0 S_116)) (w2 := (wM cy ad S_138)) hx hb hK hI 8 7 rfl rfl g_138 dX3_stands_138 (by rw [eS_138]; rfl) (fun H locs hI => ?_)
          refine lv_aload_n hx hb dX3_stands_139 rfl (lv_at hl 1 rfl) ?_
          refine lv_dup hx hb dX3_stands_140 rfl ?_
          refine va_get (D := D) (ci := 3) (v := .int (m_vectors S_138)) (C := RX3) (T := TX3) (N := 27) hx hb hts hiX3 hown hK hI.1 0 rfl rfl 22 (by decide) (hts (.fieldLink RX3 164 "NoughtSumsModel" "vectors" "I") (by decide +kernel)) (fun _ h9 => h9) rfl dX3_stands_141 ?_
          refine lv_iconst (v := 1) hx hb dX3_stands_144 (by decide) ?_
          refine lv_iadd hx hb dX3_stands_145 ?_
          obtain ⟨S_146, eS_146, hf⟩ := zL_e hf
          refine z_put (D := D) (ci := 3) (v := .int ((m_vectors S_138) + (1 : Int32))) (ty := .int) (C := RX3) (T := TX3) (N := 27) (w2 := (wM cy ad S_146)) hx hb hts hiX3 tyX3 tyX3_ok nmX3 hown hK hI 0 rfl rfl 22 (by decide) (hts (.fieldLink RX3 164 "NoughtSumsModel" "vectors" "I") (by decide +kernel)) (fun _ h9 => h9) rfl (by decide +kernel) rfl rfl (Nat.le_of_ble_eq_true rfl) dX3_stands_146 (by rw [eS_146]; rfl) (fun H locs hI => ?_)
          exact hb149 (fX3_stands_b57L n) ih v1 S_146 _ _ _ hf hI (lv_sub hl [1, 2] rfl)
  have hb9 : ∀ (n : Nat), ∀ (v1 : Int32) (S : MS) (H : Heap) (locs : List Loc) (ls : Array Slot), fX3_stands_b9L n v1 S = some S' → zI D A s H locs (wM cy ad S) → lv_has ls 4 [(0, .ref (ad 0)), (1, .int v1)] → W p l e { frames := 2, cells := 0, slots := 0, locals := 49 } s m args below meth c H locs 0 0 Q (F0 m 9 ls []) := by
    intro n
    induction n with
    | zero => intro v1 S H locs ls hf; cases (show (none : Option MS) = some S' from hf)
    | succ n ih =>
      intro v1 S H locs ls hf hI hl
      have hf : fX3_stands_b9 (fX3_stands_b9L n) v1 S = some S' := hf
      unfold fX3_stands_b9 at hf
      refine lv_iload_n hx hb dX3_stands_9 rfl (lv_at hl 1 rfl) ?_
      refine lv_aload_n hx hb dX3_stands_10 rfl (lv_at hl 0 rfl) ?_
      refine va_get (D := D) (ci := 3) (v := .int (m_given S)) (C := RX3) (T := TX3) (N := 27) hx hb hts hiX3 hown hK hI.1 0 rfl rfl 10 (by decide) (hts (.fieldLink RX3 129 "NoughtSumsModel" "given" "I") (by decide +kernel)) (fun _ h9 => h9) rfl dX3_stands_11 ?_
      refine lv_icmp_ge (tgt := 45) hx hb dX3_stands_14 (by decide) (fun c_14 => ?_) (fun c_14 => ?_)
      · replace hf := zIt c_14 hf
        refine lv_aload_n hx hb dX3_stands_45 rfl (lv_at hl 0 rfl) ?_
        refine lv_lconst (v := 0) hx hb dX3_stands_46 (by decide) ?_
        obtain ⟨S_47, eS_47, hf⟩ := zL_e hf
        refine z_put (D := D) (ci := 3) (v := .long (0 : Int64)) (ty := .long) (C := RX3) (T := TX3) (N := 27) (w2 := (wM cy ad S_47)) hx hb hts hiX3 tyX3 tyX3_ok nmX3 hown hK hI 0 rfl rfl 19 (by decide) (hts (.fieldLink RX3 172 "NoughtSumsModel" "standing" "J") (by decide +kernel)) (fun _ h9 => h9) rfl (by decide +kernel) rfl rfl (Nat.le_of_ble_eq_true rfl) dX3_stands_47 (by rw [eS_47]; rfl) (fun H locs hI => ?_)
        refine lv_aload_n hx hb dX3_stands_50 rfl (lv_at hl 0 rfl) ?_
        refine lv_iconst (v := 0) hx hb dX3_stands_51 (by decide) ?_
        obtain ⟨S_52, eS_52, hf⟩ := zL_e hf
        refine z_put (D := D) (ci := 3) (v := .int (0 : Int32)) (ty := .int) (C := RX3) (T := TX3) (N := 27) (w2 := (wM cy ad S_52)) hx hb hts hiX3 tyX3 tyX3_ok nmX3 hown hK hI 0 rfl rfl 22 (by decide) (hts (.fieldLink RX3 164 "NoughtSumsModel" "vectors" "I") (by decide +kernel)) (fun _ h9 => h9) rfl (by decide +kernel) rfl rfl (Nat.le_of_ble_eq_true rfl) dX3_stands_52 (by rw [eS_52]; rfl) (fun H locs hI => ?_)
        refine lv_iconst (v := 0) hx hb dX3_stands_55 (by decide) ?_
        refine lv_istore_n (lv' := [(1, .int (0 : Int32)), (0, .ref (ad 0))]) hx hb dX3_stands_56 rfl hl (by decide) rfl (fun ls hl => ?_)
        exact hb57 zF (0 : Int32) S_52 _ _ _ hf hI (lv_sub hl [1, 0] rfl)
      · replace hf := zIf c_14 hf
        refine lv_aload_n hx hb dX3_stands_17 rfl (lv_at hl 0 rfl) ?_
        refine lv_dup hx hb dX3_stands_18 rfl ?_
        refine va_get (D := D) (ci := 3) (v := .long (m_common S)) (C := RX3) (T := TX3) (N := 27) hx hb hts hiX3 hown hK hI.1 0 rfl rfl 18 (by decide) (hts (.fieldLink RX3 169 "NoughtSumsModel" "common" "J") (by decide +kernel)) (fun _ h9 => h9) rfl dX3_stands_19 ?_
        refine lv_aload_n hx hb dX3_stands_22 rfl (lv_at hl 0 rfl) ?_
        refine va_get (D := D) (ci := 3) (v := .ref (ad 3)) (C := RX3) (T := TX3) (N := 27) hx hb hts hiX3 hown hK hI.1 0 rfl rfl 14 (by decide) (hts (.fieldLink RX3 20 "NoughtSumsModel" "line" "[J") (by decide +kernel)) (fun _ h9 => h9) rfl dX3_stands_23 ?_
        refine lv_iload_n hx hb dX3_stands_26 rfl (lv_at hl 1 rfl) ?_
        obtain ⟨g_27, hf⟩ := zGI_s hf
        refine va_lald (f := (m_line S)) hx hb hK hI.1 3 2 rfl rfl g_27 dX3_stands_27 ?_
        obtain ⟨r_28, hf_28, hf⟩ := zB1_s hf
        refine z_callS C 1 (kX3_values l zq D ((m_line S) v1.toNatClampNeg) r_28 hf_28) gX3_stands_X3_values rfl (by decide +kernel) ⟨by decide, by decide⟩ hI rfl hl.1 rfl (Nat.le_of_ble_eq_true rfl) dX3_stands_28 ⟨by decide, by decide⟩ (st2 := [.long r_28, .long (m_common S), .ref (ad 0)]) rfl (fun H locs hI => ?_)
        refine lv_ldc2 hx hb hown (hts (.constantLong RX3 167 (-1)) (by decide +kernel)) dX3_stands_31 ?_
        refine lv_lxor hx hb dX3_stands_34 ?_
        refine lv_land hx hb dX3_stands_35 ?_
        obtain ⟨S_36, eS_36, hf⟩ := zL_e hf
        refine z_put (D := D) (ci := 3) (v := .long ((m_common S) &&& (r_28 ^^^ (-1 : Int64)))) (ty := .long) (C := RX3) (T := TX3) (N := 27) (w2 := (wM cy ad S_36)) hx hb hts hiX3 tyX3 tyX3_ok nmX3 hown hK hI 0 rfl rfl 18 (by decide) (hts (.fieldLink RX3 169 "NoughtSumsModel" "common" "J") (by decide +kernel)) (fun _ h9 => h9) rfl (by decide +kernel) rfl rfl (Nat.le_of_ble_eq_true rfl) dX3_stands_36 (by rw [eS_36]; rfl) (fun H locs hI => ?_)
        refine lv_iinc (v := (v1 + (1 : Int32))) (lv' := [(1, .int (v1 + (1 : Int32))), (0, .ref (ad 0))]) hx hb dX3_stands_39 hl (k := 1) rfl rfl (by decide) rfl (fun ls hl => ?_)
        refine lv_goto (tgt := 9) hx hb dX3_stands_42 (by decide) ?_
        exact ih (v1 + (1 : Int32)) S_36 _ _ _ hf hI (lv_sub hl [1, 0] rfl)
  unfold fX3_stands at hf
  refine lv_aload_n hx hb dX3_stands_0 rfl (lv_at hl 0 rfl) ?_
  refine lv_ldc2 hx hb hown (hts (.constantLong RX3 167 (-1)) (by decide +kernel)) dX3_stands_1 ?_
  obtain ⟨S_4, eS_4, hf⟩ := zL_e hf
  refine z_put (D := D) (ci := 3) (v := .long (-1 : Int64)) (ty := .long) (C := RX3) (T := TX3) (N := 27) (w2 := (wM cy ad S_4)) hx hb hts hiX3 tyX3 tyX3_ok nmX3 hown hK hI 0 rfl rfl 18 (by decide) (hts (.fieldLink RX3 169 "NoughtSumsModel" "common" "J") (by decide +kernel)) (fun _ h9 => h9) rfl (by decide +kernel) rfl rfl (Nat.le_of_ble_eq_true rfl) dX3_stands_4 (by rw [eS_4]; rfl) (fun H locs hI => ?_)
  refine lv_iconst (v := 0) hx hb dX3_stands_7 (by decide) ?_
  refine lv_istore_n (lv' := [(1, .int (0 : Int32)), (0, .ref (ad 0))]) hx hb dX3_stands_8 rfl hl (by decide) rfl (fun ls hl => ?_)
  exact hb9 zF (0 : Int32) S_4 _ _ _ hf hI (lv_sub hl [1, 0] rfl)

def fX3_given_b91 (k91 : Int32 → Int32 → MS → Option (Int32 × MS)) (v1 : Int32) (v2 : Int32) (S : MS) : Option (Int32 × MS) :=
(if v1 ≤ v2 then (zL (m_given_u S v1) (fun S_116 =>
(zL (m_made_u S_116 (0 : Int32)) (fun S_121 =>
(zL (m_steps_u S_121 (0 : Int32)) (fun S_126 =>
(zL (m_wrongStep_u S_126 (-9 : Int32)) (fun S_132 =>
(zL (m_typed_u S_132 (0 : Int32)) (fun S_137 =>
(zB1 (fX3_stands S_137) (fun S_141 =>
some ((m_given S_141), S_141))))))))))))) else
(zGI v2 8
((zGI v2 32
(zL (m_line_u S (vp_updL (m_line S) v2.toNatClampNeg ((m_draft S) v2.toNatClampNeg))) (fun S_107 =>
k91 v1 (v2 + (1 : Int32)) S_107))))))
def fX3_given_b91L : Nat → Int32 → Int32 → MS → Option (Int32 × MS)
  | 0, _, _, _ => none
  | n + 1, v1, v2, S => fX3_given_b91 (fX3_given_b91L n) v1 v2 S

def fX3_given_b74 (v1 : Int32) (S : MS) : Option (Int32 × MS) :=
(zB2 (fX3_isWell S) (fun r_75 S_75 =>
(if r_75 = 0 then some (((-10 : Int32) - (m_fault S_75)), S_75) else
fX3_given_b91L zF v1 (0 : Int32) S_75)))

def fX3_given_b64 (k11 : Int32 → MS → Option (Int32 × MS)) (v1 : Int32) (u0 : Int32) (S : MS) : Option (Int32 × MS) :=
(zB2 (fX3_takes u0 S) (fun r_64 S_64 =>
k11 (v1 + (1 : Int32)) S_64))

def fX3_given_b11 (k11 : Int32 → MS → Option (Int32 × MS)) (v1 : Int32) (S : MS) : Option (Int32 × MS) :=
(zB2 (fX3_isWell S) (fun r_12 S_12 =>
(if r_12 = 0 then fX3_given_b74 v1 S_12 else
(if (m_token S_12) = 0 then fX3_given_b74 v1 S_12 else
(if v1 = (8 : Int32) then (zB2 (fX3_takes (0 : Int32) S_12) (fun r_33 S_33 =>
k11 v1 S_33)) else
(zB2 (fX3_readsSum S_12) (fun r_46 S_46 =>
(zGI v1 8
(zL (m_draft_u S_46 (vp_updL (m_draft S_46) v1.toNatClampNeg r_46)) (fun S_49 =>
(if (m_token S_49) = (5 : Int32) then fX3_given_b64 k11 v1 (1 : Int32) S_49 else
fX3_given_b64 k11 v1 (0 : Int32) S_49)))))))))))
def fX3_given_b11L : Nat → Int32 → MS → Option (Int32 × MS)
  | 0, _, _ => none
  | n + 1, v1, S => fX3_given_b11 (fX3_given_b11L n) v1 S

def fX3_given  (S : MS) : Option (Int32 × MS) :=
(zL (m_thrown_u S (0 : Int32)) (fun S_2 =>
(zB1 (fX3_begins S_2) (fun S_8 =>
fX3_given_b11L zF (0 : Int32) S_8))))
set_option maxHeartbeats 4000000 in
set_option maxRecDepth 100000 in
theorem kX3_given (l : Launch) (zq : Nat → Nat) (D : va_G) (cy : Nat → ClassId) (ad : Nat → Nat)  (S S' : MS) (r : Int32) (hf : fX3_given S = some (r, S')) : zMet l yX3_given wsX3_given 6 141 zq D (tM cy) (wM cy ad S) [.ref (ad 0)] (some (.int r)) (wM cy ad S') := by
  refine zMet.of cX3_given 3 (some .int) (by decide) rfl (Nat.le_of_ble_eq_true rfl) ?_
  intro p e s m args below meth c A ls C hl hI
  have hl : lv_has ls 3 [(0, .ref (ad 0))] := hl
  have C : zC p s m args meth c cX3_given 3 (some .int) RX3 wsX3_given D (tM cy) zq A := C
  obtain ⟨hx, hb, hml, hown, hts, hret, hlk, hK, hX, hA⟩ := id C
  have hiX3 : ∀ w ∈ wsX30, w ∈ wsX3_given := by decide +kernel
  obtain ⟨Q, hQ⟩ : ∃ Q, Q = MQ below (zQ D (tM cy) (wM cy ad S') (some (.int r)) A) args s 0 0 A := ⟨_, rfl⟩
  rw [← hQ]
  have hb91 : ∀ (n : Nat), ∀ (v1 : Int32) (v2 : Int32) (S : MS) (H : Heap) (locs : List Loc) (ls : Array Slot), fX3_given_b91L n v1 v2 S = some (r, S') → zI D A s H locs (wM cy ad S) → lv_has ls 3 [(0, .ref (ad 0)), (1, .int v1), (2, .int v2)] → W p l e { frames := 6, cells := 0, slots := 0, locals := 141 } s m args below meth c H locs 0 0 Q (F0 m 91 ls []) := by
    intro n
    induction n with
    | zero => intro v1 v2 S H locs ls hf; cases (show (none : Option (Int32 × MS)) = some (r, S') from hf)
    | succ n ih =>
      intro v1 v2 S H locs ls hf hI hl
      have hf : fX3_given_b91 (fX3_given_b91L n) v1 v2 S = some (r, S') := hf
      unfold fX3_given_b91 at hf
      refine lv_iload_n hx hb dX3_given_91 rfl (lv_at hl 2 rfl) ?_
      refine lv_iload_n hx hb dX3_given_92 rfl (lv_at hl 1 rfl) ?_
      refine lv_icmp_ge (tgt := 114) hx hb dX3_given_93 (by decide) (fun c_93 => ?_) (fun c_93 => ?_)
      · replace hf := zIt c_93 hf
        refine lv_aload_n hx hb dX3_given_114 rfl (lv_at hl 0 rfl) ?_
        refine lv_iload_n hx hb dX3_given_115 rfl (lv_at hl 1 rfl) ?_
        obtain ⟨S_116, eS_116, hf⟩ := zL_e hf
        refine z_put (D := D) (ci := 3) (v := .int v1) (ty := .int) (C := RX3) (T := TX3) (N := 27) (w2 := (wM cy ad S_116)) hx hb hts hiX3 tyX3 tyX3_ok nmX3 hown hK hI 0 rfl rfl 10 (by decide) (hts (.fieldLink RX3 129 "NoughtSumsModel" "given" "I") (by decide +kernel)) (fun _ h9 => h9) rfl (by decide +kernel) rfl rfl (Nat.le_of_ble_eq_true rfl) dX3_given_116 (by rw [eS_116]; rfl) (fun H locs hI => ?_)
        refine lv_aload_n hx hb dX3_given_119 rfl (lv_at hl 0 rfl) ?_
        refine lv_iconst (v := 0) hx hb dX3_given_120 (by decide) ?_
        obtain ⟨S_121, eS_121, hf⟩ := zL_e hf
        refine z_put (D := D) (ci := 3) (v := .int (0 : Int32)) (ty := .int) (C := RX3) (T := TX3) (N := 27) (w2 := (wM cy ad S_121)) hx hb hts hiX3 tyX3 tyX3_ok nmX3 hown hK hI 0 rfl rfl 11 (by decide) (hts (.fieldLink RX3 132 "NoughtSumsModel" "made" "I") (by decide +kernel)) (fun _ h9 => h9) rfl (by decide +kernel) rfl rfl (Nat.le_of_ble_eq_true rfl) dX3_given_121 (by rw [eS_121]; rfl) (fun H locs hI => ?_)
        refine lv_aload_n hx hb dX3_given_124 rfl (lv_at hl 0 rfl) ?_
        refine lv_iconst (v := 0) hx hb dX3_given_125 (by decide) ?_
        obtain ⟨S_126, eS_126, hf⟩ := zL_e hf
        refine z_put (D := D) (ci := 3) (v := .int (0 : Int32)) (ty := .int) (C := RX3) (T := TX3) (N := 27) (w2 := (wM cy ad S_126)) hx hb hts hiX3 tyX3 tyX3_ok nmX3 hown hK hI 0 rfl rfl 12 (by decide) (hts (.fieldLink RX3 135 "NoughtSumsModel" "steps" "I") (by decide +kernel)) (fun _ h9 => h9) rfl (by decide +kernel) rfl rfl (Nat.le_of_ble_eq_true rfl) dX3_given_126 (by rw [eS_126]; rfl) (fun H locs hI => ?_)
        refine lv_aload_n hx hb dX3_given_129 rfl (lv_at hl 0 rfl) ?_
        refine lv_bipush (v := -9) hx hb dX3_given_130 (by decide) ?_
        obtain ⟨S_132, eS_132, hf⟩ := zL_e hf
        refine z_put (D := D) (ci := 3) (v := .int (-9 : Int32)) (ty := .int) (C := RX3) (T := TX3) (N := 27) (w2 := (wM cy ad S_132)) hx hb hts hiX3 tyX3 tyX3_ok nmX3 hown hK hI 0 rfl rfl 13 (by decide) (hts (.fieldLink RX3 16 "NoughtSumsModel" "wrongStep" "I") (by decide +kernel)) (fun _ h9 => h9) rfl (by decide +kernel) rfl rfl (Nat.le_of_ble_eq_true rfl) dX3_given_132 (by rw [eS_132]; rfl) (fun H locs hI => ?_)
        refine lv_aload_n hx hb dX3_given_135 rfl (lv_at hl 0 rfl) ?_
        refine lv_iconst (v := 0) hx hb dX3_given_136 (by decide) ?_
        obtain ⟨S_137, eS_137, hf⟩ := zL_e hf
        refine z_put (D := D) (ci := 3) (v := .int (0 : Int32)) (ty := .int) (C := RX3) (T := TX3) (N := 27) (w2 := (wM cy ad S_137)) hx hb hts hiX3 tyX3 tyX3_ok nmX3 hown hK hI 0 rfl rfl 4 (by decide) (hts (.fieldLink RX3 75 "NoughtSumsModel" "typed" "I") (by decide +kernel)) (fun _ h9 => h9) rfl (by decide +kernel) rfl rfl (Nat.le_of_ble_eq_true rfl) dX3_given_137 (by rw [eS_137]; rfl) (fun H locs hI => ?_)
        refine lv_aload_n hx hb dX3_given_140 rfl (lv_at hl 0 rfl) ?_
        obtain ⟨S_141, hf_141, hf⟩ := zB1_s hf
        refine z_callV (w2 := (wM cy ad S_141)) C 0 (kX3_stands l zq D cy ad S_137 S_141 hf_141) gX3_given_X3_stands rfl (by decide +kernel) ⟨by decide, by decide⟩ hI 0 rfl rfl rfl hl.1 rfl (Nat.le_of_ble_eq_true rfl) dX3_given_141 ⟨by decide, by decide⟩ (st2 := []) rfl (fun H locs hI => ?_)
        refine lv_aload_n hx hb dX3_given_144 rfl (lv_at hl 0 rfl) ?_
        refine va_get (D := D) (ci := 3) (v := .int (m_given S_141)) (C := RX3) (T := TX3) (N := 27) hx hb hts hiX3 hown hK hI.1 0 rfl rfl 10 (by decide) (hts (.fieldLink RX3 129 "NoughtSumsModel" "given" "I") (by decide +kernel)) (fun _ h9 => h9) rfl dX3_given_145 ?_
        obtain ⟨h1, h2⟩ := zP2 hf
        rw [hQ]
        exact z_iret C (by rw [h2]; exact hI) (by rw [h1]) dX3_given_148
      · replace hf := zIf c_93 hf
        refine lv_aload_n hx hb dX3_given_96 rfl (lv_at hl 0 rfl) ?_
        refine va_get (D := D) (ci := 3) (v := .ref (ad 3)) (C := RX3) (T := TX3) (N := 27) hx hb hts hiX3 hown hK hI.1 0 rfl rfl 14 (by decide) (hts (.fieldLink RX3 20 "NoughtSumsModel" "line" "[J") (by decide +kernel)) (fun _ h9 => h9) rfl dX3_given_97 ?_
        refine lv_iload_n hx hb dX3_given_100 rfl (lv_at hl 2 rfl) ?_
        refine lv_aload_n hx hb dX3_given_101 rfl (lv_at hl 0 rfl) ?_
        refine va_get (D := D) (ci := 3) (v := .ref (ad 4)) (C := RX3) (T := TX3) (N := 27) hx hb hts hiX3 hown hK hI.1 0 rfl rfl 15 (by decide) (hts (.fieldLink RX3 24 "NoughtSumsModel" "draft" "[J") (by decide +kernel)) (fun _ h9 => h9) rfl dX3_given_102 ?_
        refine lv_iload_n hx hb dX3_given_105 rfl (lv_at hl 2 rfl) ?_
        obtain ⟨g_106, hf⟩ := zGI_s hf
        refine va_lald (f := (m_draft S)) hx hb hK hI.1 4 3 rfl rfl g_106 dX3_given_106 ?_
        obtain ⟨g_107, hf⟩ := zGI_s hf
        obtain ⟨S_107, eS_107, hf⟩ := zL_e hf
        refine z_last (f := (m_line S)) (w2 := (wM cy ad S_107)) hx hb hK hI 3 2 rfl rfl g_107 dX3_given_107 (by rw [eS_107]; rfl) (fun H locs hI => ?_)
        refine lv_iinc (v := (v2 + (1 : Int32))) (lv' := [(2, .int (v2 + (1 : Int32))), (0, .ref (ad 0)), (1, .int v1)]) hx hb dX3_given_108 hl (k := 2) rfl rfl (by decide) rfl (fun ls hl => ?_)
        refine lv_goto (tgt := 91) hx hb dX3_given_111 (by decide) ?_
        exact ih v1 (v2 + (1 : Int32)) S_107 _ _ _ hf hI (lv_sub hl [1, 2, 0] rfl)
  have hb74 : ∀ (v1 : Int32) (S : MS) (H : Heap) (locs : List Loc) (ls : Array Slot), fX3_given_b74 v1 S = some (r, S') → zI D A s H locs (wM cy ad S) → lv_has ls 3 [(0, .ref (ad 0)), (1, .int v1)] → W p l e { frames := 6, cells := 0, slots := 0, locals := 141 } s m args below meth c H locs 0 0 Q (F0 m 74 ls []) := by
    intro v1 S H locs ls hf hI hl
    unfold fX3_given_b74 at hf
    refine lv_aload_n hx hb dX3_given_74 rfl (lv_at hl 0 rfl) ?_
    obtain ⟨r_75, S_75, hf_75, hf⟩ := zB2_s hf
    refine z_callV (w2 := (wM cy ad S_75)) C 0 (kX3_isWell l zq D cy ad S S_75 r_75 hf_75) gX3_given_X3_isWell rfl (by decide +kernel) ⟨by decide, by decide⟩ hI 0 rfl rfl rfl hl.1 rfl (Nat.le_of_ble_eq_true rfl) dX3_given_75 ⟨by decide, by decide⟩ (st2 := [.int r_75]) rfl (fun H locs hI => ?_)
    refine lv_if_ne (tgt := 89) hx hb dX3_given_78 (by decide) (fun c_78 => ?_) (fun c_78 => ?_)
    · replace hf := zIf c_78 hf
      refine lv_iconst (v := 0) hx hb dX3_given_89 (by decide) ?_
      refine lv_istore_n (lv' := [(2, .int (0 : Int32)), (0, .ref (ad 0)), (1, .int v1)]) hx hb dX3_given_90 rfl hl (by decide) rfl (fun ls hl => ?_)
      exact hb91 zF v1 (0 : Int32) S_75 _ _ _ hf hI (lv_sub hl [1, 2, 0] rfl)
    · replace hf := zIt c_78 hf
      refine lv_bipush (v := -10) hx hb dX3_given_81 (by decide) ?_
      refine lv_aload_n hx hb dX3_given_83 rfl (lv_at hl 0 rfl) ?_
      refine va_get (D := D) (ci := 3) (v := .int (m_fault S_75)) (C := RX3) (T := TX3) (N := 27) hx hb hts hiX3 hown hK hI.1 0 rfl rfl 9 (by decide) (hts (.fieldLink RX3 108 "NoughtSumsModel" "fault" "I") (by decide +kernel)) (fun _ h9 => h9) rfl dX3_given_84 ?_
      refine lv_isub hx hb dX3_given_87 ?_
      obtain ⟨h1, h2⟩ := zP2 hf
      rw [hQ]
      exact z_iret C (by rw [h2]; exact hI) (by rw [h1]) dX3_given_88
  have hb64 : ∀ (k11 : Int32 → MS → Option (Int32 × MS)) (hk11 : ∀ (v1 : Int32) (S : MS) (H : Heap) (locs : List Loc) (ls : Array Slot), k11 v1 S = some (r, S') → zI D A s H locs (wM cy ad S) → lv_has ls 3 [(0, .ref (ad 0)), (1, .int v1)] → W p l e { frames := 6, cells := 0, slots := 0, locals := 141 } s m args below meth c H locs 0 0 Q (F0 m 11 ls [])), ∀ (v1 : Int32) (u0 : Int32) (S : MS) (H : Heap) (locs : List Loc) (ls : Array Slot), fX3_given_b64 k11 v1 u0 S = some (r, S') → zI D A s H locs (wM cy ad S) → lv_has ls 3 [(0, .ref (ad 0)), (1, .int v1)] → W p l e { frames := 6, cells := 0, slots := 0, locals := 141 } s m args below meth c H locs 0 0 Q (F0 m 64 ls [.int u0, .ref (ad 0)]) := by
    intro k11 hk11 v1 u0 S H locs ls hf hI hl
    unfold fX3_given_b64 at hf
    obtain ⟨r_64, S_64, hf_64, hf⟩ := zB2_s hf
    refine z_callV (w2 := (wM cy ad S_64)) C 1 (kX3_takes l zq D cy ad u0 S S_64 r_64 hf_64) gX3_given_X3_takes rfl (by decide +kernel) ⟨by decide, by decide⟩ hI 0 rfl rfl rfl hl.1 rfl (Nat.le_of_ble_eq_true rfl) dX3_given_64 ⟨by decide, by decide⟩ (st2 := [.int r_64]) rfl (fun H locs hI => ?_)
    refine lv_pop hx hb dX3_given_67 rfl ?_
    refine lv_iinc (v := (v1 + (1 : Int32))) (lv' := [(1, .int (v1 + (1 : Int32))), (0, .ref (ad 0))]) hx hb dX3_given_68 hl (k := 1) rfl rfl (by decide) rfl (fun ls hl => ?_)
    refine lv_goto (tgt := 11) hx hb dX3_given_71 (by decide) ?_
    exact hk11 (v1 + (1 : Int32)) S_64 _ _ _ hf hI (lv_sub hl [1, 0] rfl)
  have hb11 : ∀ (n : Nat), ∀ (v1 : Int32) (S : MS) (H : Heap) (locs : List Loc) (ls : Array Slot), fX3_given_b11L n v1 S = some (r, S') → zI D A s H locs (wM cy ad S) → lv_has ls 3 [(0, .ref (ad 0)), (1, .int v1)] → W p l e { frames := 6, cells := 0, slots := 0, locals := 141 } s m args below meth c H locs 0 0 Q (F0 m 11 ls []) := by
    intro n
    induction n with
    | zero => intro v1 S H locs ls hf; cases (show (none : Option (Int32 × MS)) = some (r, S') from hf)
    | succ n ih =>
      intro v1 S H locs ls hf hI hl
      have hf : fX3_given_b11 (fX3_given_b11L n) v1 S = some (r, S') := hf
      unfold fX3_given_b11 at hf
      refine lv_aload_n hx hb dX3_given_11 rfl (lv_at hl 0 rfl) ?_
      obtain ⟨r_12, S_12, hf_12, hf⟩ := zB2_s hf
      refine z_callV (w2 := (wM cy ad S_12)) C 0 (kX3_isWell l zq D cy ad S S_12 r_12 hf_12) gX3_given_X3_isWell rfl (by decide +kernel) ⟨by decide, by decide⟩ hI 0 rfl rfl rfl hl.1 rfl (Nat.le_of_ble_eq_true rfl) dX3_given_12 ⟨by decide, by decide⟩ (st2 := [.int r_12]) rfl (fun H locs hI => ?_)
      refine lv_if_eq (tgt := 74) hx hb dX3_given_15 (by decide) (fun c_15 => ?_) (fun c_15 => ?_)
      · replace hf := zIt c_15 hf
        exact hb74 v1 S_12 _ _ _ hf hI (lv_sub hl [0, 1] rfl)
      · replace hf := zIf c_15 hf
        refine lv_aload_n hx hb dX3_given_18 rfl (lv_at hl 0 rfl) ?_
        refine va_get (D := D) (ci := 3) (v := .int (m_token S_12)) (C := RX3) (T := TX3) (N := 27) hx hb hts hiX3 hown hK hI.1 0 rfl rfl 6 (by decide) (hts (.fieldLink RX3 88 "NoughtSumsModel" "token" "I") (by decide +kernel)) (fun _ h9 => h9) rfl dX3_given_19 ?_
        refine lv_if_eq (tgt := 74) hx hb dX3_given_22 (by decide) (fun c_22 => ?_) (fun c_22 => ?_)
        · replace hf := zIt c_22 hf
          exact hb74 v1 S_12 _ _ _ hf hI (lv_sub hl [0, 1] rfl)
        · replace hf := zIf c_22 hf
          refine lv_iload_n hx hb dX3_given_25 rfl (lv_at hl 1 rfl) ?_
          refine lv_bipush (v := 8) hx hb dX3_given_26 (by decide) ?_
          refine lv_icmp_ne (tgt := 40) hx hb dX3_given_28 (by decide) (fun c_28 => ?_) (fun c_28 => ?_)
          · replace hf := zIf c_28 hf
            refine lv_aload_n hx hb dX3_given_40 rfl (lv_at hl 0 rfl) ?_
            refine va_get (D := D) (ci := 3) (v := .ref (ad 4)) (C := RX3) (T := TX3) (N := 27) hx hb hts hiX3 hown hK hI.1 0 rfl rfl 15 (by decide) (hts (.fieldLink RX3 24 "NoughtSumsModel" "draft" "[J") (by decide +kernel)) (fun _ h9 => h9) rfl dX3_given_41 ?_
            refine lv_iload_n hx hb dX3_given_44 rfl (lv_at hl 1 rfl) ?_
            refine lv_aload_n hx hb dX3_given_45 rfl (lv_at hl 0 rfl) ?_
            obtain ⟨r_46, S_46, hf_46, hf⟩ := zB2_s hf
            refine z_callV (w2 := (wM cy ad S_46)) C 0 (kX3_readsSum l zq D cy ad S_12 S_46 r_46 hf_46) gX3_given_X3_readsSum rfl (by decide +kernel) ⟨by decide, by decide⟩ hI 0 rfl rfl rfl hl.1 rfl (Nat.le_of_ble_eq_true rfl) dX3_given_46 ⟨by decide, by decide⟩ (st2 := [.long r_46, .int v1, .ref (ad 4)]) rfl (fun H locs hI => ?_)
            obtain ⟨g_49, hf⟩ := zGI_s hf
            obtain ⟨S_49, eS_49, hf⟩ := zL_e hf
            refine z_last (f := (m_draft S_46)) (w2 := (wM cy ad S_49)) hx hb hK hI 4 3 rfl rfl g_49 dX3_given_49 (by rw [eS_49]; rfl) (fun H locs hI => ?_)
            refine lv_aload_n hx hb dX3_given_50 rfl (lv_at hl 0 rfl) ?_
            refine lv_aload_n hx hb dX3_given_51 rfl (lv_at hl 0 rfl) ?_
            refine va_get (D := D) (ci := 3) (v := .int (m_token S_49)) (C := RX3) (T := TX3) (N := 27) hx hb hts hiX3 hown hK hI.1 0 rfl rfl 6 (by decide) (hts (.fieldLink RX3 88 "NoughtSumsModel" "token" "I") (by decide +kernel)) (fun _ h9 => h9) rfl dX3_given_52 ?_
            refine lv_iconst (v := 5) hx hb dX3_given_55 (by decide) ?_
            refine lv_icmp_ne (tgt := 63) hx hb dX3_given_56 (by decide) (fun c_56 => ?_) (fun c_56 => ?_)
            · replace hf := zIf c_56 hf
              refine lv_iconst (v := 0) hx hb dX3_given_63 (by decide) ?_
              exact hb64 (fX3_given_b11L n) ih v1 (0 : Int32) S_49 _ _ _ hf hI (lv_sub hl [0, 1] rfl)
            · replace hf := zIt c_56 hf
              refine lv_iconst (v := 1) hx hb dX3_given_59 (by decide) ?_
              refine lv_goto (tgt := 64) hx hb dX3_given_60 (by decide) ?_
              exact hb64 (fX3_given_b11L n) ih v1 (1 : Int32) S_49 _ _ _ hf hI (lv_sub hl [0, 1] rfl)
          · replace hf := zIt c_28 hf
            refine lv_aload_n hx hb dX3_given_31 rfl (lv_at hl 0 rfl) ?_
            refine lv_iconst (v := 0) hx hb dX3_given_32 (by decide) ?_
            obtain ⟨r_33, S_33, hf_33, hf⟩ := zB2_s hf
            refine z_callV (w2 := (wM cy ad S_33)) C 1 (kX3_takes l zq D cy ad (0 : Int32) S_12 S_33 r_33 hf_33) gX3_given_X3_takes rfl (by decide +kernel) ⟨by decide, by decide⟩ hI 0 rfl rfl rfl hl.1 rfl (Nat.le_of_ble_eq_true rfl) dX3_given_33 ⟨by decide, by decide⟩ (st2 := [.int r_33]) rfl (fun H locs hI => ?_)
            refine lv_pop hx hb dX3_given_36 rfl ?_
            refine lv_goto (tgt := 11) hx hb dX3_given_37 (by decide) ?_
            exact ih v1 S_33 _ _ _ hf hI (lv_sub hl [0, 1] rfl)
  unfold fX3_given at hf
  refine lv_aload_n hx hb dX3_given_0 rfl (lv_at hl 0 rfl) ?_
  refine lv_iconst (v := 0) hx hb dX3_given_1 (by decide) ?_
  obtain ⟨S_2, eS_2, hf⟩ := zL_e hf
  refine z_put (D := D) (ci := 3) (v := .int (0 : Int32)) (ty := .int) (C := RX3) (T := TX3) (N := 27) (w2 := (wM cy ad S_2)) hx hb hts hiX3 tyX3 tyX3_ok nmX3 hown hK hI 0 rfl rfl 0 (by decide) (hts (.fieldLink RX3 56 "NoughtSumsModel" "thrown" "I") (by decide +kernel)) (fun _ h9 => h9) rfl (by decide +kernel) rfl rfl (Nat.le_of_ble_eq_true rfl) dX3_given_2 (by rw [eS_2]; rfl) (fun H locs hI => ?_)
  refine lv_iconst (v := 0) hx hb dX3_given_5 (by decide) ?_
  refine lv_istore_n (lv' := [(1, .int (0 : Int32)), (0, .ref (ad 0))]) hx hb dX3_given_6 rfl hl (by decide) rfl (fun ls hl => ?_)
  refine lv_aload_n hx hb dX3_given_7 rfl (lv_at hl 1 rfl) ?_
  obtain ⟨S_8, hf_8, hf⟩ := zB1_s hf
  refine z_callV (w2 := (wM cy ad S_8)) C 0 (kX3_begins l zq D cy ad S_2 S_8 hf_8) gX3_given_X3_begins rfl (by decide +kernel) ⟨by decide, by decide⟩ hI 0 rfl rfl rfl hl.1 rfl (Nat.le_of_ble_eq_true rfl) dX3_given_8 ⟨by decide, by decide⟩ (st2 := []) rfl (fun H locs hI => ?_)
  exact hb11 zF (0 : Int32) S_8 _ _ _ hf hI (lv_sub hl [1, 0] rfl)

def fX3_readsStep_b182 (S : MS) : Option MS :=
(if (m_token S) = (5 : Int32) then (zB2 (fX3_takes (1 : Int32) S) (fun r_196 S_196 =>
some S_196)) else
(zB2 (fX3_takes (0 : Int32) S) (fun r_196 S_196 =>
some S_196)))

def fX3_readsStep_b178 (u0 : Int32) (u2 : Int32) (S : MS) : Option MS :=
(zB2 (fX3_takes u0 S) (fun r_178 S_178 =>
(zGI u2 72
(zL (m_step_u S_178 (upd (m_step S_178) u2.toNatClampNeg r_178)) (fun S_181 =>
fX3_readsStep_b182 S_181)))))

def fX3_readsStep_b177 (u1 : Int32) (S : MS) : Option MS :=
fX3_readsStep_b178 (0 : Int32) u1 S

def fX3_readsStep_b135 (u0 : Int32) (u2 : Int32) (S : MS) : Option MS :=
(zB2 (fX3_takes u0 S) (fun r_135 S_135 =>
(zGI u2 72
(zL (m_step_u S_135 (upd (m_step S_135) u2.toNatClampNeg r_135)) (fun S_138 =>
fX3_readsStep_b182 S_138)))))

def fX3_readsStep_b134 (u1 : Int32) (S : MS) : Option MS :=
fX3_readsStep_b135 (0 : Int32) u1 S

def fX3_readsStep_b92 (v1 : Int32) (v2 : Int32) (u0 : Int32) (u2 : Int32) (S : MS) : Option MS :=
(zB2 (fX3_takes u0 S) (fun r_92 S_92 =>
(zGI u2 72
(zL (m_step_u S_92 (upd (m_step S_92) u2.toNatClampNeg r_92)) (fun S_95 =>
(if v2 = (1 : Int32) then (if (m_token S_95) = (1 : Int32) then (zB1 (fX3_letters (m_value S_95)) (fun r_123 =>
(if r_123 = (1 : Int32) then fX3_readsStep_b135 (1 : Int32) (((3 : Int32) * v1) + (2 : Int32)) S_95 else
fX3_readsStep_b134 (((3 : Int32) * v1) + (2 : Int32)) S_95))) else
fX3_readsStep_b134 (((3 : Int32) * v1) + (2 : Int32)) S_95) else
(if (m_token S_95) = (3 : Int32) then (if ((m_given S_95) + v1) ≤ (m_value S_95) then fX3_readsStep_b177 (((3 : Int32) * v1) + (2 : Int32)) S_95 else
fX3_readsStep_b178 (1 : Int32) (((3 : Int32) * v1) + (2 : Int32)) S_95) else
fX3_readsStep_b177 (((3 : Int32) * v1) + (2 : Int32)) S_95)))))))

def fX3_readsStep_b91 (v1 : Int32) (v2 : Int32) (u1 : Int32) (S : MS) : Option MS :=
fX3_readsStep_b92 v1 v2 (0 : Int32) u1 S

def fX3_readsStep_b52 (u0 : Int64) (u1 : Int32) (S : MS) : Option MS :=
(zGI u1 24
(zL (m_claimed_u S (vp_updL (m_claimed S) u1.toNatClampNeg u0)) (fun S_52 =>
fX3_readsStep_b182 S_52)))

def fX3_readsStep_b14 (v1 : Int32) (u0 : Int32) (S : MS) : Option MS :=
(zB2 (fX3_takes u0 S) (fun r_14 S_14 =>
(zGI ((3 : Int32) * v1) 72
(zL (m_step_u S_14 (upd (m_step S_14) ((3 : Int32) * v1).toNatClampNeg r_14)) (fun S_26 =>
(if r_14 = (3 : Int32) then (zB2 (fX3_isWell S_26) (fun r_38 S_38 =>
(if r_38 = 0 then fX3_readsStep_b52 (0 : Int64) v1 S_38 else
(zB2 (fX3_readsSum S_38) (fun r_45 S_45 =>
fX3_readsStep_b52 r_45 v1 S_45))))) else
(if (m_token S_26) = (3 : Int32) then (if ((m_given S_26) + v1) ≤ (m_value S_26) then fX3_readsStep_b91 v1 r_14 (((3 : Int32) * v1) + (1 : Int32)) S_26 else
fX3_readsStep_b92 v1 r_14 (1 : Int32) (((3 : Int32) * v1) + (1 : Int32)) S_26) else
fX3_readsStep_b91 v1 r_14 (((3 : Int32) * v1) + (1 : Int32)) S_26)))))))

def fX3_readsStep (a1 : Int32) (S : MS) : Option MS :=
(if (m_token S) = (2 : Int32) then fX3_readsStep_b14 a1 (1 : Int32) S else
fX3_readsStep_b14 a1 (0 : Int32) S)
set_option maxHeartbeats 4000000 in
set_option maxRecDepth 100000 in
theorem kX3_readsStep (l : Launch) (zq : Nat → Nat) (D : va_G) (cy : Nat → ClassId) (ad : Nat → Nat) (a1 : Int32) (S S' : MS) (hf : fX3_readsStep a1 S = some S') : zMet l yX3_readsStep wsX3_readsStep 6 141 zq D (tM cy) (wM cy ad S) [.ref (ad 0), .int a1] none (wM cy ad S') := by
  refine zMet.of cX3_readsStep 3 none (by decide) rfl (Nat.le_of_ble_eq_true rfl) ?_
  intro p e s m args below meth c A ls C hl hI
  have hl : lv_has ls 3 [(0, .ref (ad 0)), (1, .int a1)] := hl
  have C : zC p s m args meth c cX3_readsStep 3 none RX3 wsX3_readsStep D (tM cy) zq A := C
  obtain ⟨hx, hb, hml, hown, hts, hret, hlk, hK, hX, hA⟩ := id C
  have hiX3 : ∀ w ∈ wsX30, w ∈ wsX3_readsStep := by decide +kernel
  obtain ⟨Q, hQ⟩ : ∃ Q, Q = MQ below (zQ D (tM cy) (wM cy ad S') none A) args s 0 0 A := ⟨_, rfl⟩
  rw [← hQ]
  have hb182 : ∀ (S : MS) (H : Heap) (locs : List Loc) (ls : Array Slot), fX3_readsStep_b182 S = some S' → zI D A s H locs (wM cy ad S) → lv_has ls 3 [(0, .ref (ad 0))] → W p l e { frames := 6, cells := 0, slots := 0, locals := 141 } s m args below meth c H locs 0 0 Q (F0 m 182 ls []) := by
    intro S H locs ls hf hI hl
    unfold fX3_readsStep_b182 at hf
    refine lv_aload_n hx hb dX3_readsStep_182 rfl (lv_at hl 0 rfl) ?_
    refine lv_aload_n hx hb dX3_readsStep_183 rfl (lv_at hl 0 rfl) ?_
    refine va_get (D := D) (ci := 3) (v := .int (m_token S)) (C := RX3) (T := TX3) (N := 27) hx hb hts hiX3 hown hK hI.1 0 rfl rfl 6 (by decide) (hts (.fieldLink RX3 88 "NoughtSumsModel" "token" "I") (by decide +kernel)) (fun _ h9 => h9) rfl dX3_readsStep_184 ?_
    refine lv_iconst (v := 5) hx hb dX3_readsStep_187 (by decide) ?_
    refine lv_icmp_ne (tgt := 195) hx hb dX3_readsStep_188 (by decide) (fun c_188 => ?_) (fun c_188 => ?_)
    · replace hf := zIf c_188 hf
      refine lv_iconst (v := 0) hx hb dX3_readsStep_195 (by decide) ?_
      obtain ⟨r_196, S_196, hf_196, hf⟩ := zB2_s hf
      refine z_callV (w2 := (wM cy ad S_196)) C 1 (kX3_takes l zq D cy ad (0 : Int32) S S_196 r_196 hf_196) gX3_readsStep_X3_takes rfl (by decide +kernel) ⟨by decide, by decide⟩ hI 0 rfl rfl rfl hl.1 rfl (Nat.le_of_ble_eq_true rfl) dX3_readsStep_196 ⟨by decide, by decide⟩ (st2 := [.int r_196]) rfl (fun H locs hI => ?_)
      refine lv_pop hx hb dX3_readsStep_199 rfl ?_
      have h2 := zP1 hf
      rw [hQ]
      exact z_vret C (by rw [h2]; exact hI) rfl dX3_readsStep_200
    · replace hf := zIt c_188 hf
      refine lv_iconst (v := 1) hx hb dX3_readsStep_191 (by decide) ?_
      refine lv_goto (tgt := 196) hx hb dX3_readsStep_192 (by decide) ?_
      obtain ⟨r_196, S_196, hf_196, hf⟩ := zB2_s hf
      refine z_callV (w2 := (wM cy ad S_196)) C 1 (kX3_takes l zq D cy ad (1 : Int32) S S_196 r_196 hf_196) gX3_readsStep_X3_takes rfl (by decide +kernel) ⟨by decide, by decide⟩ hI 0 rfl rfl rfl hl.1 rfl (Nat.le_of_ble_eq_true rfl) dX3_readsStep_196 ⟨by decide, by decide⟩ (st2 := [.int r_196]) rfl (fun H locs hI => ?_)
      refine lv_pop hx hb dX3_readsStep_199 rfl ?_
      have h2 := zP1 hf
      rw [hQ]
      exact z_vret C (by rw [h2]; exact hI) rfl dX3_readsStep_200
  have hb178 : ∀ (u0 : Int32) (u2 : Int32) (S : MS) (H : Heap) (locs : List Loc) (ls : Array Slot), fX3_readsStep_b178 u0 u2 S = some S' → zI D A s H locs (wM cy ad S) → lv_has ls 3 [(0, .ref (ad 0))] → W p l e { frames := 6, cells := 0, slots := 0, locals := 141 } s m args below meth c H locs 0 0 Q (F0 m 178 ls [.int u0, .ref (ad 0), .int u2, .ref (ad 5)]) := by
    intro u0 u2 S H locs ls hf hI hl
    unfold fX3_readsStep_b178 at hf
    obtain ⟨r_178, S_178, hf_178, hf⟩ := zB2_s hf
    refine z_callV (w2 := (wM cy ad S_178)) C 1 (kX3_takes l zq D cy ad u0 S S_178 r_178 hf_178) gX3_readsStep_X3_takes rfl (by decide +kernel) ⟨by decide, by decide⟩ hI 0 rfl rfl rfl hl.1 rfl (Nat.le_of_ble_eq_true rfl) dX3_readsStep_178 ⟨by decide, by decide⟩ (st2 := [.int r_178, .int u2, .ref (ad 5)]) rfl (fun H locs hI => ?_)
    obtain ⟨g_181, hf⟩ := zGI_s hf
    obtain ⟨S_181, eS_181, hf⟩ := zL_e hf
    refine z_iast (f := (m_step S_178)) (w2 := (wM cy ad S_181)) hx hb hK hI 5 4 rfl rfl g_181 dX3_readsStep_181 (by rw [eS_181]; rfl) (fun H locs hI => ?_)
    exact hb182 S_181 _ _ _ hf hI (lv_sub hl [0] rfl)
  have hb177 : ∀ (u1 : Int32) (S : MS) (H : Heap) (locs : List Loc) (ls : Array Slot), fX3_readsStep_b177 u1 S = some S' → zI D A s H locs (wM cy ad S) → lv_has ls 3 [(0, .ref (ad 0))] → W p l e { frames := 6, cells := 0, slots := 0, locals := 141 } s m args below meth c H locs 0 0 Q (F0 m 177 ls [.ref (ad 0), .int u1, .ref (ad 5)]) := by
    intro u1 S H locs ls hf hI hl
    unfold fX3_readsStep_b177 at hf
    refine lv_iconst (v := 0) hx hb dX3_readsStep_177 (by decide) ?_
    exact hb178 (0 : Int32) u1 S _ _ _ hf hI (lv_sub hl [0] rfl)
  have hb135 : ∀ (u0 : Int32) (u2 : Int32) (S : MS) (H : Heap) (locs : List Loc) (ls : Array Slot), fX3_readsStep_b135 u0 u2 S = some S' → zI D A s H locs (wM cy ad S) → lv_has ls 3 [(0, .ref (ad 0))] → W p l e { frames := 6, cells := 0, slots := 0, locals := 141 } s m args below meth c H locs 0 0 Q (F0 m 135 ls [.int u0, .ref (ad 0), .int u2, .ref (ad 5)]) := by
    intro u0 u2 S H locs ls hf hI hl
    unfold fX3_readsStep_b135 at hf
    obtain ⟨r_135, S_135, hf_135, hf⟩ := zB2_s hf
    refine z_callV (w2 := (wM cy ad S_135)) C 1 (kX3_takes l zq D cy ad u0 S S_135 r_135 hf_135) gX3_readsStep_X3_takes rfl (by decide +kernel) ⟨by decide, by decide⟩ hI 0 rfl rfl rfl hl.1 rfl (Nat.le_of_ble_eq_true rfl) dX3_readsStep_135 ⟨by decide, by decide⟩ (st2 := [.int r_135, .int u2, .ref (ad 5)]) rfl (fun H locs hI => ?_)
    obtain ⟨g_138, hf⟩ := zGI_s hf
    obtain ⟨S_138, eS_138, hf⟩ := zL_e hf
    refine z_iast (f := (m_step S_135)) (w2 := (wM cy ad S_138)) hx hb hK hI 5 4 rfl rfl g_138 dX3_readsStep_138 (by rw [eS_138]; rfl) (fun H locs hI => ?_)
    refine lv_goto (tgt := 182) hx hb dX3_readsStep_139 (by decide) ?_
    exact hb182 S_138 _ _ _ hf hI (lv_sub hl [0] rfl)
  have hb134 : ∀ (u1 : Int32) (S : MS) (H : Heap) (locs : List Loc) (ls : Array Slot), fX3_readsStep_b134 u1 S = some S' → zI D A s H locs (wM cy ad S) → lv_has ls 3 [(0, .ref (ad 0))] → W p l e { frames := 6, cells := 0, slots := 0, locals := 141 } s m args below meth c H locs 0 0 Q (F0 m 134 ls [.ref (ad 0), .int u1, .ref (ad 5)]) := by
    intro u1 S H locs ls hf hI hl
    unfold fX3_readsStep_b134 at hf
    refine lv_iconst (v := 0) hx hb dX3_readsStep_134 (by decide) ?_
    exact hb135 (0 : Int32) u1 S _ _ _ hf hI (lv_sub hl [0] rfl)
  have hb92 : ∀ (v1 : Int32) (v2 : Int32) (u0 : Int32) (u2 : Int32) (S : MS) (H : Heap) (locs : List Loc) (ls : Array Slot), fX3_readsStep_b92 v1 v2 u0 u2 S = some S' → zI D A s H locs (wM cy ad S) → lv_has ls 3 [(0, .ref (ad 0)), (1, .int v1), (2, .int v2)] → W p l e { frames := 6, cells := 0, slots := 0, locals := 141 } s m args below meth c H locs 0 0 Q (F0 m 92 ls [.int u0, .ref (ad 0), .int u2, .ref (ad 5)]) := by
    intro v1 v2 u0 u2 S H locs ls hf hI hl
    unfold fX3_readsStep_b92 at hf
    obtain ⟨r_92, S_92, hf_92, hf⟩ := zB2_s hf
    refine z_callV (w2 := (wM cy ad S_92)) C 1 (kX3_takes l zq D cy ad u0 S S_92 r_92 hf_92) gX3_readsStep_X3_takes rfl (by decide +kernel) ⟨by decide, by decide⟩ hI 0 rfl rfl rfl hl.1 rfl (Nat.le_of_ble_eq_true rfl) dX3_readsStep_92 ⟨by decide, by decide⟩ (st2 := [.int r_92, .int u2, .ref (ad 5)]) rfl (fun H locs hI => ?_)
    obtain ⟨g_95, hf⟩ := zGI_s hf
    obtain ⟨S_95, eS_95, hf⟩ := zL_e hf
    refine z_iast (f := (m_step S_92)) (w2 := (wM cy ad S_95)) hx hb hK hI 5 4 rfl rfl g_95 dX3_readsStep_95 (by rw [eS_95]; rfl) (fun H locs hI => ?_)
    refine lv_iload_n hx hb dX3_readsStep_96 rfl (lv_at hl 2 rfl) ?_
    refine lv_iconst (v := 1) hx hb dX3_readsStep_97 (by decide) ?_
    refine lv_icmp_ne (tgt := 142) hx hb dX3_readsStep_98 (by decide) (fun c_98 => ?_) (fun c_98 => ?_)
    · replace hf := zIf c_98 hf
      refine lv_aload_n hx hb dX3_readsStep_142 rfl (lv_at hl 0 rfl) ?_
      refine va_get (D := D) (ci := 3) (v := .ref (ad 5)) (C := RX3) (T := TX3) (N := 27) hx hb hts hiX3 hown hK hI.1 0 rfl rfl 16 (by decide) (hts (.fieldLink RX3 27 "NoughtSumsModel" "step" "[I") (by decide +kernel)) (fun _ h9 => h9) rfl dX3_readsStep_143 ?_
      refine lv_iconst (v := 3) hx hb dX3_readsStep_146 (by decide) ?_
      refine lv_iload_n hx hb dX3_readsStep_147 rfl (lv_at hl 1 rfl) ?_
      refine lv_imul hx hb dX3_readsStep_148 ?_
      refine lv_iconst (v := 2) hx hb dX3_readsStep_149 (by decide) ?_
      refine lv_iadd hx hb dX3_readsStep_150 ?_
      refine lv_aload_n hx hb dX3_readsStep_151 rfl (lv_at hl 0 rfl) ?_
      refine lv_aload_n hx hb dX3_readsStep_152 rfl (lv_at hl 0 rfl) ?_
      refine va_get (D := D) (ci := 3) (v := .int (m_token S_95)) (C := RX3) (T := TX3) (N := 27) hx hb hts hiX3 hown hK hI.1 0 rfl rfl 6 (by decide) (hts (.fieldLink RX3 88 "NoughtSumsModel" "token" "I") (by decide +kernel)) (fun _ h9 => h9) rfl dX3_readsStep_153 ?_
      refine lv_iconst (v := 3) hx hb dX3_readsStep_156 (by decide) ?_
      refine lv_icmp_ne (tgt := 177) hx hb dX3_readsStep_157 (by decide) (fun c_157 => ?_) (fun c_157 => ?_)
      · replace hf := zIf c_157 hf
        exact hb177 (((3 : Int32) * v1) + (2 : Int32)) S_95 _ _ _ hf hI (lv_sub hl [0] rfl)
      · replace hf := zIt c_157 hf
        refine lv_aload_n hx hb dX3_readsStep_160 rfl (lv_at hl 0 rfl) ?_
        refine va_get (D := D) (ci := 3) (v := .int (m_value S_95)) (C := RX3) (T := TX3) (N := 27) hx hb hts hiX3 hown hK hI.1 0 rfl rfl 8 (by decide) (hts (.fieldLink RX3 91 "NoughtSumsModel" "value" "I") (by decide +kernel)) (fun _ h9 => h9) rfl dX3_readsStep_161 ?_
        refine lv_aload_n hx hb dX3_readsStep_164 rfl (lv_at hl 0 rfl) ?_
        refine va_get (D := D) (ci := 3) (v := .int (m_given S_95)) (C := RX3) (T := TX3) (N := 27) hx hb hts hiX3 hown hK hI.1 0 rfl rfl 10 (by decide) (hts (.fieldLink RX3 129 "NoughtSumsModel" "given" "I") (by decide +kernel)) (fun _ h9 => h9) rfl dX3_readsStep_165 ?_
        refine lv_iload_n hx hb dX3_readsStep_168 rfl (lv_at hl 1 rfl) ?_
        refine lv_iadd hx hb dX3_readsStep_169 ?_
        refine lv_icmp_ge (tgt := 177) hx hb dX3_readsStep_170 (by decide) (fun c_170 => ?_) (fun c_170 => ?_)
        · replace hf := zIt c_170 hf
          exact hb177 (((3 : Int32) * v1) + (2 : Int32)) S_95 _ _ _ hf hI (lv_sub hl [0] rfl)
        · replace hf := zIf c_170 hf
          refine lv_iconst (v := 1) hx hb dX3_readsStep_173 (by decide) ?_
          refine lv_goto (tgt := 178) hx hb dX3_readsStep_174 (by decide) ?_
          exact hb178 (1 : Int32) (((3 : Int32) * v1) + (2 : Int32)) S_95 _ _ _ hf hI (lv_sub hl [0] rfl)
    · replace hf := zIt c_98 hf
      refine lv_aload_n hx hb dX3_readsStep_101 rfl (lv_at hl 0 rfl) ?_
      refine va_get (D := D) (ci := 3) (v := .ref (ad 5)) (C := RX3) (T := TX3) (N := 27) hx hb hts hiX3 hown hK hI.1 0 rfl rfl 16 (by decide) (hts (.fieldLink RX3 27 "NoughtSumsModel" "step" "[I") (by decide +kernel)) (fun _ h9 => h9) rfl dX3_readsStep_102 ?_
      refine lv_iconst (v := 3) hx hb dX3_readsStep_105 (by decide) ?_
      refine lv_iload_n hx hb dX3_readsStep_106 rfl (lv_at hl 1 rfl) ?_
      refine lv_imul hx hb dX3_readsStep_107 ?_
      refine lv_iconst (v := 2) hx hb dX3_readsStep_108 (by decide) ?_
      refine lv_iadd hx hb dX3_readsStep_109 ?_
      refine lv_aload_n hx hb dX3_readsStep_110 rfl (lv_at hl 0 rfl) ?_
      refine lv_aload_n hx hb dX3_readsStep_111 rfl (lv_at hl 0 rfl) ?_
      refine va_get (D := D) (ci := 3) (v := .int (m_token S_95)) (C := RX3) (T := TX3) (N := 27) hx hb hts hiX3 hown hK hI.1 0 rfl rfl 6 (by decide) (hts (.fieldLink RX3 88 "NoughtSumsModel" "token" "I") (by decide +kernel)) (fun _ h9 => h9) rfl dX3_readsStep_112 ?_
      refine lv_iconst (v := 1) hx hb dX3_readsStep_115 (by decide) ?_
      refine lv_icmp_ne (tgt := 134) hx hb dX3_readsStep_116 (by decide) (fun c_116 => ?_) (fun c_116 => ?_)
      · replace hf := zIf c_116 hf
        exact hb134 (((3 : Int32) * v1) + (2 : Int32)) S_95 _ _ _ hf hI (lv_sub hl [0] rfl)
      · replace hf := zIt c_116 hf
        refine lv_aload_n hx hb dX3_readsStep_119 rfl (lv_at hl 0 rfl) ?_
        refine va_get (D := D) (ci := 3) (v := .int (m_value S_95)) (C := RX3) (T := TX3) (N := 27) hx hb hts hiX3 hown hK hI.1 0 rfl rfl 8 (by decide) (hts (.fieldLink RX3 91 "NoughtSumsModel" "value" "I") (by decide +kernel)) (fun _ h9 => h9) rfl dX3_readsStep_120 ?_
        obtain ⟨r_123, hf_123, hf⟩ := zB1_s hf
        refine z_callS C 1 (kX3_letters l zq D (m_value S_95) r_123 hf_123) gX3_readsStep_X3_letters rfl (by decide +kernel) ⟨by decide, by decide⟩ hI rfl hl.1 rfl (Nat.le_of_ble_eq_true rfl) dX3_readsStep_123 ⟨by decide, by decide⟩ (st2 := [.int r_123, .ref (ad 0), .int (((3 : Int32) * v1) + (2 : Int32)), .ref (ad 5)]) rfl (fun H locs hI => ?_)
        refine lv_iconst (v := 1) hx hb dX3_readsStep_126 (by decide) ?_
        refine lv_icmp_ne (tgt := 134) hx hb dX3_readsStep_127 (by decide) (fun c_127 => ?_) (fun c_127 => ?_)
        · replace hf := zIf c_127 hf
          exact hb134 (((3 : Int32) * v1) + (2 : Int32)) S_95 _ _ _ hf hI (lv_sub hl [0] rfl)
        · replace hf := zIt c_127 hf
          refine lv_iconst (v := 1) hx hb dX3_readsStep_130 (by decide) ?_
          refine lv_goto (tgt := 135) hx hb dX3_readsStep_131 (by decide) ?_
          exact hb135 (1 : Int32) (((3 : Int32) * v1) + (2 : Int32)) S_95 _ _ _ hf hI (lv_sub hl [0] rfl)
  have hb91 : ∀ (v1 : Int32) (v2 : Int32) (u1 : Int32) (S : MS) (H : Heap) (locs : List Loc) (ls : Array Slot), fX3_readsStep_b91 v1 v2 u1 S = some S' → zI D A s H locs (wM cy ad S) → lv_has ls 3 [(0, .ref (ad 0)), (1, .int v1), (2, .int v2)] → W p l e { frames := 6, cells := 0, slots := 0, locals := 141 } s m args below meth c H locs 0 0 Q (F0 m 91 ls [.ref (ad 0), .int u1, .ref (ad 5)]) := by
    intro v1 v2 u1 S H locs ls hf hI hl
    unfold fX3_readsStep_b91 at hf
    refine lv_iconst (v := 0) hx hb dX3_readsStep_91 (by decide) ?_
    exact hb92 v1 v2 (0 : Int32) u1 S _ _ _ hf hI (lv_sub hl [0, 1, 2] rfl)
  have hb52 : ∀ (u0 : Int64) (u1 : Int32) (S : MS) (H : Heap) (locs : List Loc) (ls : Array Slot), fX3_readsStep_b52 u0 u1 S = some S' → zI D A s H locs (wM cy ad S) → lv_has ls 3 [(0, .ref (ad 0))] → W p l e { frames := 6, cells := 0, slots := 0, locals := 141 } s m args below meth c H locs 0 0 Q (F0 m 52 ls [.long u0, .int u1, .ref (ad 6)]) := by
    intro u0 u1 S H locs ls hf hI hl
    unfold fX3_readsStep_b52 at hf
    obtain ⟨g_52, hf⟩ := zGI_s hf
    obtain ⟨S_52, eS_52, hf⟩ := zL_e hf
    refine z_last (f := (m_claimed S)) (w2 := (wM cy ad S_52)) hx hb hK hI 6 5 rfl rfl g_52 dX3_readsStep_52 (by rw [eS_52]; rfl) (fun H locs hI => ?_)
    refine lv_goto (tgt := 182) hx hb dX3_readsStep_53 (by decide) ?_
    exact hb182 S_52 _ _ _ hf hI (lv_sub hl [0] rfl)
  have hb14 : ∀ (v1 : Int32) (u0 : Int32) (S : MS) (H : Heap) (locs : List Loc) (ls : Array Slot), fX3_readsStep_b14 v1 u0 S = some S' → zI D A s H locs (wM cy ad S) → lv_has ls 3 [(0, .ref (ad 0)), (1, .int v1)] → W p l e { frames := 6, cells := 0, slots := 0, locals := 141 } s m args below meth c H locs 0 0 Q (F0 m 14 ls [.int u0, .ref (ad 0)]) := by
    intro v1 u0 S H locs ls hf hI hl
    unfold fX3_readsStep_b14 at hf
    obtain ⟨r_14, S_14, hf_14, hf⟩ := zB2_s hf
    refine z_callV (w2 := (wM cy ad S_14)) C 1 (kX3_takes l zq D cy ad u0 S S_14 r_14 hf_14) gX3_readsStep_X3_takes rfl (by decide +kernel) ⟨by decide, by decide⟩ hI 0 rfl rfl rfl hl.1 rfl (Nat.le_of_ble_eq_true rfl) dX3_readsStep_14 ⟨by decide, by decide⟩ (st2 := [.int r_14]) rfl (fun H locs hI => ?_)
    refine lv_istore_n (lv' := [(2, .int r_14), (0, .ref (ad 0)), (1, .int v1)]) hx hb dX3_readsStep_17 rfl hl (by decide) rfl (fun ls hl => ?_)
    refine lv_aload_n hx hb dX3_readsStep_18 rfl (lv_at hl 1 rfl) ?_
    refine va_get (D := D) (ci := 3) (v := .ref (ad 5)) (C := RX3) (T := TX3) (N := 27) hx hb hts hiX3 hown hK hI.1 0 rfl rfl 16 (by decide) (hts (.fieldLink RX3 27 "NoughtSumsModel" "step" "[I") (by decide +kernel)) (fun _ h9 => h9) rfl dX3_readsStep_19 ?_
    refine lv_iconst (v := 3) hx hb dX3_readsStep_22 (by decide) ?_
    refine lv_iload_n hx hb dX3_readsStep_23 rfl (lv_at hl 2 rfl) ?_
    refine lv_imul hx hb dX3_readsStep_24 ?_
    refine lv_iload_n hx hb dX3_readsStep_25 rfl (lv_at hl 0 rfl) ?_
    obtain ⟨g_26, hf⟩ := zGI_s hf
    obtain ⟨S_26, eS_26, hf⟩ := zL_e hf
    refine z_iast (f := (m_step S_14)) (w2 := (wM cy ad S_26)) hx hb hK hI 5 4 rfl rfl g_26 dX3_readsStep_26 (by rw [eS_26]; rfl) (fun H locs hI => ?_)
    refine lv_iload_n hx hb dX3_readsStep_27 rfl (lv_at hl 0 rfl) ?_
    refine lv_iconst (v := 3) hx hb dX3_readsStep_28 (by decide) ?_
    refine lv_icmp_ne (tgt := 56) hx hb dX3_readsStep_29 (by decide) (fun c_29 => ?_) (fun c_29 => ?_)
    · replace hf := zIf c_29 hf
      refine lv_aload_n hx hb dX3_readsStep_56 rfl (lv_at hl 1 rfl) ?_
      refine va_get (D := D) (ci := 3) (v := .ref (ad 5)) (C := RX3) (T := TX3) (N := 27) hx hb hts hiX3 hown hK hI.1 0 rfl rfl 16 (by decide) (hts (.fieldLink RX3 27 "NoughtSumsModel" "step" "[I") (by decide +kernel)) (fun _ h9 => h9) rfl dX3_readsStep_57 ?_
      refine lv_iconst (v := 3) hx hb dX3_readsStep_60 (by decide) ?_
      refine lv_iload_n hx hb dX3_readsStep_61 rfl (lv_at hl 2 rfl) ?_
      refine lv_imul hx hb dX3_readsStep_62 ?_
      refine lv_iconst (v := 1) hx hb dX3_readsStep_63 (by decide) ?_
      refine lv_iadd hx hb dX3_readsStep_64 ?_
      refine lv_aload_n hx hb dX3_readsStep_65 rfl (lv_at hl 1 rfl) ?_
      refine lv_aload_n hx hb dX3_readsStep_66 rfl (lv_at hl 1 rfl) ?_
      refine va_get (D := D) (ci := 3) (v := .int (m_token S_26)) (C := RX3) (T := TX3) (N := 27) hx hb hts hiX3 hown hK hI.1 0 rfl rfl 6 (by decide) (hts (.fieldLink RX3 88 "NoughtSumsModel" "token" "I") (by decide +kernel)) (fun _ h9 => h9) rfl dX3_readsStep_67 ?_
      refine lv_iconst (v := 3) hx hb dX3_readsStep_70 (by decide) ?_
      refine lv_icmp_ne (tgt := 91) hx hb dX3_readsStep_71 (by decide) (fun c_71 => ?_) (fun c_71 => ?_)
      · replace hf := zIf c_71 hf
        exact hb91 v1 r_14 (((3 : Int32) * v1) + (1 : Int32)) S_26 _ _ _ hf hI (lv_sub hl [1, 2, 0] rfl)
      · replace hf := zIt c_71 hf
        refine lv_aload_n hx hb dX3_readsStep_74 rfl (lv_at hl 1 rfl) ?_
        refine va_get (D := D) (ci := 3) (v := .int (m_value S_26)) (C := RX3) (T := TX3) (N := 27) hx hb hts hiX3 hown hK hI.1 0 rfl rfl 8 (by decide) (hts (.fieldLink RX3 91 "NoughtSumsModel" "value" "I") (by decide +kernel)) (fun _ h9 => h9) rfl dX3_readsStep_75 ?_
        refine lv_aload_n hx hb dX3_readsStep_78 rfl (lv_at hl 1 rfl) ?_
        refine va_get (D := D) (ci := 3) (v := .int (m_given S_26)) (C := RX3) (T := TX3) (N := 27) hx hb hts hiX3 hown hK hI.1 0 rfl rfl 10 (by decide) (hts (.fieldLink RX3 129 "NoughtSumsModel" "given" "I") (by decide +kernel)) (fun _ h9 => h9) rfl dX3_readsStep_79 ?_
        refine lv_iload_n hx hb dX3_readsStep_82 rfl (lv_at hl 2 rfl) ?_
        refine lv_iadd hx hb dX3_readsStep_83 ?_
        refine lv_icmp_ge (tgt := 91) hx hb dX3_readsStep_84 (by decide) (fun c_84 => ?_) (fun c_84 => ?_)
        · replace hf := zIt c_84 hf
          exact hb91 v1 r_14 (((3 : Int32) * v1) + (1 : Int32)) S_26 _ _ _ hf hI (lv_sub hl [1, 2, 0] rfl)
        · replace hf := zIf c_84 hf
          refine lv_iconst (v := 1) hx hb dX3_readsStep_87 (by decide) ?_
          refine lv_goto (tgt := 92) hx hb dX3_readsStep_88 (by decide) ?_
          exact hb92 v1 r_14 (1 : Int32) (((3 : Int32) * v1) + (1 : Int32)) S_26 _ _ _ hf hI (lv_sub hl [1, 2, 0] rfl)
    · replace hf := zIt c_29 hf
      refine lv_aload_n hx hb dX3_readsStep_32 rfl (lv_at hl 1 rfl) ?_
      refine va_get (D := D) (ci := 3) (v := .ref (ad 6)) (C := RX3) (T := TX3) (N := 27) hx hb hts hiX3 hown hK hI.1 0 rfl rfl 17 (by decide) (hts (.fieldLink RX3 30 "NoughtSumsModel" "claimed" "[J") (by decide +kernel)) (fun _ h9 => h9) rfl dX3_readsStep_33 ?_
      refine lv_iload_n hx hb dX3_readsStep_36 rfl (lv_at hl 2 rfl) ?_
      refine lv_aload_n hx hb dX3_readsStep_37 rfl (lv_at hl 1 rfl) ?_
      obtain ⟨r_38, S_38, hf_38, hf⟩ := zB2_s hf
      refine z_callV (w2 := (wM cy ad S_38)) C 0 (kX3_isWell l zq D cy ad S_26 S_38 r_38 hf_38) gX3_readsStep_X3_isWell rfl (by decide +kernel) ⟨by decide, by decide⟩ hI 0 rfl rfl rfl hl.1 rfl (Nat.le_of_ble_eq_true rfl) dX3_readsStep_38 ⟨by decide, by decide⟩ (st2 := [.int r_38, .int v1, .ref (ad 6)]) rfl (fun H locs hI => ?_)
      refine lv_if_eq (tgt := 51) hx hb dX3_readsStep_41 (by decide) (fun c_41 => ?_) (fun c_41 => ?_)
      · replace hf := zIt c_41 hf
        refine lv_lconst (v := 0) hx hb dX3_readsStep_51 (by decide) ?_
        exact hb52 (0 : Int64) v1 S_38 _ _ _ hf hI (lv_sub hl [1] rfl)
      · replace hf := zIf c_41 hf
        refine lv_aload_n hx hb dX3_readsStep_44 rfl (lv_at hl 1 rfl) ?_
        obtain ⟨r_45, S_45, hf_45, hf⟩ := zB2_s hf
        refine z_callV (w2 := (wM cy ad S_45)) C 0 (kX3_readsSum l zq D cy ad S_38 S_45 r_45 hf_45) gX3_readsStep_X3_readsSum rfl (by decide +kernel) ⟨by decide, by decide⟩ hI 0 rfl rfl rfl hl.1 rfl (Nat.le_of_ble_eq_true rfl) dX3_readsStep_45 ⟨by decide, by decide⟩ (st2 := [.long r_45, .int v1, .ref (ad 6)]) rfl (fun H locs hI => ?_)
        refine lv_goto (tgt := 52) hx hb dX3_readsStep_48 (by decide) ?_
        exact hb52 r_45 v1 S_45 _ _ _ hf hI (lv_sub hl [1] rfl)
  unfold fX3_readsStep at hf
  refine lv_aload_n hx hb dX3_readsStep_0 rfl (lv_at hl 0 rfl) ?_
  refine lv_aload_n hx hb dX3_readsStep_1 rfl (lv_at hl 0 rfl) ?_
  refine va_get (D := D) (ci := 3) (v := .int (m_token S)) (C := RX3) (T := TX3) (N := 27) hx hb hts hiX3 hown hK hI.1 0 rfl rfl 6 (by decide) (hts (.fieldLink RX3 88 "NoughtSumsModel" "token" "I") (by decide +kernel)) (fun _ h9 => h9) rfl dX3_readsStep_2 ?_
  refine lv_iconst (v := 2) hx hb dX3_readsStep_5 (by decide) ?_
  refine lv_icmp_ne (tgt := 13) hx hb dX3_readsStep_6 (by decide) (fun c_6 => ?_) (fun c_6 => ?_)
  · replace hf := zIf c_6 hf
    refine lv_iconst (v := 0) hx hb dX3_readsStep_13 (by decide) ?_
    exact hb14 a1 (0 : Int32) S _ _ _ hf hI (lv_sub hl [0, 1] rfl)
  · replace hf := zIt c_6 hf
    refine lv_iconst (v := 1) hx hb dX3_readsStep_9 (by decide) ?_
    refine lv_goto (tgt := 14) hx hb dX3_readsStep_10 (by decide) ?_
    exact hb14 a1 (1 : Int32) S _ _ _ hf hI (lv_sub hl [0, 1] rfl)

def fX3_isFollowing (a1 : Int64) (S : MS) : Option (Int32 × MS) :=
(zB1 (fX3_values a1) (fun r_1 =>
(if (lg_cmp (r_1 &&& (m_common S)) (0 : Int64)) = 0 then some ((1 : Int32), S) else
some ((0 : Int32), S))))
set_option maxHeartbeats 4000000 in
set_option maxRecDepth 100000 in
theorem kX3_isFollowing (l : Launch) (zq : Nat → Nat) (D : va_G) (cy : Nat → ClassId) (ad : Nat → Nat) (a1 : Int64) (S S' : MS) (r : Int32) (hf : fX3_isFollowing a1 S = some (r, S')) : zMet l yX3_isFollowing wsX3_isFollowing 2 49 zq D (tM cy) (wM cy ad S) [.ref (ad 0), .long a1] (some (.int r)) (wM cy ad S') := by
  refine zMet.of cX3_isFollowing 3 (some .boolean) (by decide) rfl (Nat.le_of_ble_eq_true rfl) ?_
  intro p e s m args below meth c A ls C hl hI
  have hl : lv_has ls 3 [(0, .ref (ad 0)), (1, .long a1)] := hl
  have C : zC p s m args meth c cX3_isFollowing 3 (some .boolean) RX3 wsX3_isFollowing D (tM cy) zq A := C
  obtain ⟨hx, hb, hml, hown, hts, hret, hlk, hK, hX, hA⟩ := id C
  have hiX3 : ∀ w ∈ wsX30, w ∈ wsX3_isFollowing := by decide +kernel
  obtain ⟨Q, hQ⟩ : ∃ Q, Q = MQ below (zQ D (tM cy) (wM cy ad S') (some (.int r)) A) args s 0 0 A := ⟨_, rfl⟩
  rw [← hQ]
  unfold fX3_isFollowing at hf
  refine lv_lload_n hx hb dX3_isFollowing_0 rfl (lv_at hl 1 rfl) ?_
  obtain ⟨r_1, hf_1, hf⟩ := zB1_s hf
  refine z_callS C 1 (kX3_values l zq D a1 r_1 hf_1) gX3_isFollowing_X3_values rfl (by decide +kernel) ⟨by decide, by decide⟩ hI rfl hl.1 rfl (Nat.le_of_ble_eq_true rfl) dX3_isFollowing_1 ⟨by decide, by decide⟩ (st2 := [.long r_1]) rfl (fun H locs hI => ?_)
  refine lv_aload_n hx hb dX3_isFollowing_4 rfl (lv_at hl 0 rfl) ?_
  refine va_get (D := D) (ci := 3) (v := .long (m_common S)) (C := RX3) (T := TX3) (N := 27) hx hb hts hiX3 hown hK hI.1 0 rfl rfl 18 (by decide) (hts (.fieldLink RX3 169 "NoughtSumsModel" "common" "J") (by decide +kernel)) (fun _ h9 => h9) rfl dX3_isFollowing_5 ?_
  refine lv_land hx hb dX3_isFollowing_8 ?_
  refine lv_lconst (v := 0) hx hb dX3_isFollowing_9 (by decide) ?_
  refine W.lcmp hx hb dX3_isFollowing_10 ?_
  refine lv_if_ne (tgt := 18) hx hb dX3_isFollowing_11 (by decide) (fun c_11 => ?_) (fun c_11 => ?_)
  · replace hf := zIf c_11 hf
    refine lv_iconst (v := 0) hx hb dX3_isFollowing_18 (by decide) ?_
    obtain ⟨h1, h2⟩ := zP2 hf
    rw [hQ]
    exact z_zret C (by rw [h2]; exact hI) (by rw [h1]) rfl dX3_isFollowing_19
  · replace hf := zIt c_11 hf
    refine lv_iconst (v := 1) hx hb dX3_isFollowing_14 (by decide) ?_
    refine lv_goto (tgt := 19) hx hb dX3_isFollowing_15 (by decide) ?_
    obtain ⟨h1, h2⟩ := zP2 hf
    rw [hQ]
    exact z_zret C (by rw [h2]; exact hI) (by rw [h1]) rfl dX3_isFollowing_19

def fX3_proof_b252 (k89 : Int32 → MS → Option (Int32 × MS)) (v2 : Int32) (S : MS) : Option (Int32 × MS) :=
k89 (v2 + (1 : Int32)) S

def fX3_proof_b226 (k89 : Int32 → MS → Option (Int32 × MS)) (v2 : Int32) (v7 : Int64) (S : MS) : Option (Int32 × MS) :=
(zGI ((m_given S) + (m_made S)) 32
(zL (m_line_u S (vp_updL (m_line S) ((m_given S) + (m_made S)).toNatClampNeg v7)) (fun S_241 =>
(zL (m_made_u S_241 ((m_made S_241) + (1 : Int32))) (fun S_249 =>
fX3_proof_b252 k89 v2 S_249)))))

def fX3_proof_b202 (k89 : Int32 → MS → Option (Int32 × MS)) (v2 : Int32) (v3 : Int32) (u0 : Int64) (S : MS) : Option (Int32 × MS) :=
(if v3 = (3 : Int32) then (zB2 (fX3_isFollowing u0 S) (fun r_212 S_212 =>
(if r_212 = 0 then (zL (m_wrongStep_u S_212 v2) (fun S_220 =>
fX3_proof_b252 k89 v2 S_220)) else
fX3_proof_b226 k89 v2 u0 S_212))) else
fX3_proof_b226 k89 v2 u0 S)

def fX3_proof_b89 (k89 : Int32 → MS → Option (Int32 × MS)) (v2 : Int32) (S : MS) : Option (Int32 × MS) :=
(if (m_steps S) ≤ v2 then some ((m_made S), S) else
(if (m_wrongStep S) = (-9 : Int32) then (zGI ((3 : Int32) * v2) 72
((zL ((m_step S) ((3 : Int32) * v2).toNatClampNeg) (fun n_114 =>
(zGI (((3 : Int32) * v2) + (1 : Int32)) 72
((zGI ((m_step S) (((3 : Int32) * v2) + (1 : Int32)).toNatClampNeg) 32
((zL ((m_line S) ((m_step S) (((3 : Int32) * v2) + (1 : Int32)).toNatClampNeg).toNatClampNeg) (fun n_130 =>
(zGI (((3 : Int32) * v2) + (2 : Int32)) 72
((zL ((m_step S) (((3 : Int32) * v2) + (2 : Int32)).toNatClampNeg) (fun n_142 =>
(if n_114 = (3 : Int32) then (zGI v2 24
(fX3_proof_b202 k89 v2 n_114 ((m_claimed S) v2.toNatClampNeg) S)) else
(if n_114 = 0 then (zGI n_142 32
(fX3_proof_b202 k89 v2 n_114 (n_130 ^^^ ((m_line S) n_142.toNatClampNeg)) S)) else
(if n_114 = (1 : Int32) then (zB1 (fX3_raised n_130 n_142) (fun r_184 =>
fX3_proof_b202 k89 v2 n_114 r_184 S)) else
(zGI n_142 32
((zB1 (fX3_multiplied n_130 ((m_line S) n_142.toNatClampNeg)) (fun r_199 =>
fX3_proof_b202 k89 v2 n_114 r_199 S))))))))))))))))))))) else
some ((m_made S), S)))
def fX3_proof_b89L : Nat → Int32 → MS → Option (Int32 × MS)
  | 0, _, _ => none
  | n + 1, v2, S => fX3_proof_b89 (fX3_proof_b89L n) v2 S

def fX3_proof_b51 (v1 : Int32) (S : MS) : Option (Int32 × MS) :=
(zB2 (fX3_isWell S) (fun r_52 S_52 =>
(if r_52 = 0 then some (((-10 : Int32) - (m_fault S_52)), S_52) else
(zL (m_steps_u S_52 v1) (fun S_68 =>
(zL (m_made_u S_68 (0 : Int32)) (fun S_73 =>
(zL (m_wrongStep_u S_73 (-9 : Int32)) (fun S_79 =>
(zL (m_typed_u S_79 (0 : Int32)) (fun S_84 =>
fX3_proof_b89L zF (0 : Int32) S_84)))))))))))

def fX3_proof_b11 (k11 : Int32 → MS → Option (Int32 × MS)) (v1 : Int32) (S : MS) : Option (Int32 × MS) :=
(zB2 (fX3_isWell S) (fun r_12 S_12 =>
(if r_12 = 0 then fX3_proof_b51 v1 S_12 else
(if (m_token S_12) = 0 then fX3_proof_b51 v1 S_12 else
(if v1 = (24 : Int32) then (zB2 (fX3_takes (0 : Int32) S_12) (fun r_33 S_33 =>
k11 v1 S_33)) else
(zB1 (fX3_readsStep v1 S_12) (fun S_42 =>
k11 (v1 + (1 : Int32)) S_42)))))))
def fX3_proof_b11L : Nat → Int32 → MS → Option (Int32 × MS)
  | 0, _, _ => none
  | n + 1, v1, S => fX3_proof_b11 (fX3_proof_b11L n) v1 S

def fX3_proof  (S : MS) : Option (Int32 × MS) :=
(zL (m_thrown_u S (0 : Int32)) (fun S_2 =>
(zB1 (fX3_begins S_2) (fun S_8 =>
fX3_proof_b11L zF (0 : Int32) S_8))))
set_option maxHeartbeats 4000000 in
set_option maxRecDepth 100000 in
theorem kX3_proof (l : Launch) (zq : Nat → Nat) (D : va_G) (cy : Nat → ClassId) (ad : Nat → Nat)  (S S' : MS) (r : Int32) (hf : fX3_proof S = some (r, S')) : zMet l yX3_proof wsX3_proof 7 163 zq D (tM cy) (wM cy ad S) [.ref (ad 0)] (some (.int r)) (wM cy ad S') := by
  refine zMet.of cX3_proof 9 (some .int) (by decide) rfl (Nat.le_of_ble_eq_true rfl) ?_
  intro p e s m args below meth c A ls C hl hI
  have hl : lv_has ls 9 [(0, .ref (ad 0))] := hl
  have C : zC p s m args meth c cX3_proof 9 (some .int) RX3 wsX3_proof D (tM cy) zq A := C
  obtain ⟨hx, hb, hml, hown, hts, hret, hlk, hK, hX, hA⟩ := id C
  have hiX3 : ∀ w ∈ wsX30, w ∈ wsX3_proof := by decide +kernel
  obtain ⟨Q, hQ⟩ : ∃ Q, Q = MQ below (zQ D (tM cy) (wM cy ad S') (some (.int r)) A) args s 0 0 A := ⟨_, rfl⟩
  rw [← hQ]
  have hb252 : ∀ (k89 : Int32 → MS → Option (Int32 × MS)) (hk89 : ∀ (v2 : Int32) (S : MS) (H : Heap) (locs : List Loc) (ls : Array Slot), k89 v2 S = some (r, S') → zI D A s H locs (wM cy ad S) → lv_has ls 9 [(0, .ref (ad 0)), (2, .int v2)] → W p l e { frames := 7, cells := 0, slots := 0, locals := 163 } s m args below meth c H locs 0 0 Q (F0 m 89 ls [])), ∀ (v2 : Int32) (S : MS) (H : Heap) (locs : List Loc) (ls : Array Slot), fX3_proof_b252 k89 v2 S = some (r, S') → zI D A s H locs (wM cy ad S) → lv_has ls 9 [(0, .ref (ad 0)), (2, .int v2)] → W p l e { frames := 7, cells := 0, slots := 0, locals := 163 } s m args below meth c H locs 0 0 Q (F0 m 252 ls []) := by
    intro k89 hk89 v2 S H locs ls hf hI hl
    unfold fX3_proof_b252 at hf
    refine lv_iinc (v := (v2 + (1 : Int32))) (lv' := [(2, .int (v2 + (1 : Int32))), (0, .ref (ad 0))]) hx hb dX3_proof_252 hl (k := 1) rfl rfl (by decide) rfl (fun ls hl => ?_)
    refine lv_goto (tgt := 89) hx hb dX3_proof_255 (by decide) ?_
    exact hk89 (v2 + (1 : Int32)) S _ _ _ hf hI (lv_sub hl [1, 0] rfl)
  have hb226 : ∀ (k89 : Int32 → MS → Option (Int32 × MS)) (hk89 : ∀ (v2 : Int32) (S : MS) (H : Heap) (locs : List Loc) (ls : Array Slot), k89 v2 S = some (r, S') → zI D A s H locs (wM cy ad S) → lv_has ls 9 [(0, .ref (ad 0)), (2, .int v2)] → W p l e { frames := 7, cells := 0, slots := 0, locals := 163 } s m args below meth c H locs 0 0 Q (F0 m 89 ls [])), ∀ (v2 : Int32) (v7 : Int64) (S : MS) (H : Heap) (locs : List Loc) (ls : Array Slot), fX3_proof_b226 k89 v2 v7 S = some (r, S') → zI D A s H locs (wM cy ad S) → lv_has ls 9 [(0, .ref (ad 0)), (2, .int v2), (7, .long v7)] → W p l e { frames := 7, cells := 0, slots := 0, locals := 163 } s m args below meth c H locs 0 0 Q (F0 m 226 ls []) := by
    intro k89 hk89 v2 v7 S H locs ls hf hI hl
    unfold fX3_proof_b226 at hf
    refine lv_aload_n hx hb dX3_proof_226 rfl (lv_at hl 0 rfl) ?_
    refine va_get (D := D) (ci := 3) (v := .ref (ad 3)) (C := RX3) (T := TX3) (N := 27) hx hb hts hiX3 hown hK hI.1 0 rfl rfl 14 (by decide) (hts (.fieldLink RX3 20 "NoughtSumsModel" "line" "[J") (by decide +kernel)) (fun _ h9 => h9) rfl dX3_proof_227 ?_
    refine lv_aload_n hx hb dX3_proof_230 rfl (lv_at hl 0 rfl) ?_
    refine va_get (D := D) (ci := 3) (v := .int (m_given S)) (C := RX3) (T := TX3) (N := 27) hx hb hts hiX3 hown hK hI.1 0 rfl rfl 10 (by decide) (hts (.fieldLink RX3 129 "NoughtSumsModel" "given" "I") (by decide +kernel)) (fun _ h9 => h9) rfl dX3_proof_231 ?_
    refine lv_aload_n hx hb dX3_proof_234 rfl (lv_at hl 0 rfl) ?_
    refine va_get (D := D) (ci := 3) (v := .int (m_made S)) (C := RX3) (T := TX3) (N := 27) hx hb hts hiX3 hown hK hI.1 0 rfl rfl 11 (by decide) (hts (.fieldLink RX3 132 "NoughtSumsModel" "made" "I") (by decide +kernel)) (fun _ h9 => h9) rfl dX3_proof_235 ?_
    refine lv_iadd hx hb dX3_proof_238 ?_
    refine lv_lload hx hb dX3_proof_239 (lv_at hl 2 rfl) ?_
    obtain ⟨g_241, hf⟩ := zGI_s hf
    obtain ⟨S_241, eS_241, hf⟩ := zL_e hf
    refine z_last (f := (m_line S)) (w2 := (wM cy ad S_241)) hx hb hK hI 3 2 rfl rfl g_241 dX3_proof_241 (by rw [eS_241]; rfl) (fun H locs hI => ?_)
    refine lv_aload_n hx hb dX3_proof_242 rfl (lv_at hl 0 rfl) ?_
    refine lv_dup hx hb dX3_proof_243 rfl ?_
    refine va_get (D := D) (ci := 3) (v := .int (m_made S_241)) (C := RX3) (T := TX3) (N := 27) hx hb hts hiX3 hown hK hI.1 0 rfl rfl 11 (by decide) (hts (.fieldLink RX3 132 "NoughtSumsModel" "made" "I") (by decide +kernel)) (fun _ h9 => h9) rfl dX3_proof_244 ?_
    refine lv_iconst (v := 1) hx hb dX3_proof_247 (by decide) ?_
    refine lv_iadd hx hb dX3_proof_248 ?_
    obtain ⟨S_249, eS_249, hf⟩ := zL_e hf
    refine z_put (D := D) (ci := 3) (v := .int ((m_made S_241) + (1 : Int32))) (ty := .int) (C := RX3) (T := TX3) (N := 27) (w2 := (wM cy ad S_249)) hx hb hts hiX3 tyX3 tyX3_ok nmX3 hown hK hI 0 rfl rfl 11 (by decide) (hts (.fieldLink RX3 132 "NoughtSumsModel" "made" "I") (by decide +kernel)) (fun _ h9 => h9) rfl (by decide +kernel) rfl rfl (Nat.le_of_ble_eq_true rfl) dX3_proof_249 (by rw [eS_249]; rfl) (fun H locs hI => ?_)
    exact hb252 k89 hk89 v2 S_249 _ _ _ hf hI (lv_sub hl [0, 1] rfl)
  have hb202 : ∀ (k89 : Int32 → MS → Option (Int32 × MS)) (hk89 : ∀ (v2 : Int32) (S : MS) (H : Heap) (locs : List Loc) (ls : Array Slot), k89 v2 S = some (r, S') → zI D A s H locs (wM cy ad S) → lv_has ls 9 [(0, .ref (ad 0)), (2, .int v2)] → W p l e { frames := 7, cells := 0, slots := 0, locals := 163 } s m args below meth c H locs 0 0 Q (F0 m 89 ls [])), ∀ (v2 : Int32) (v3 : Int32) (u0 : Int64) (S : MS) (H : Heap) (locs : List Loc) (ls : Array Slot), fX3_proof_b202 k89 v2 v3 u0 S = some (r, S') → zI D A s H locs (wM cy ad S) → lv_has ls 9 [(0, .ref (ad 0)), (2, .int v2), (3, .int v3)] → W p l e { frames := 7, cells := 0, slots := 0, locals := 163 } s m args below meth c H locs 0 0 Q (F0 m 202 ls [.long u0]) := by
    intro k89 hk89 v2 v3 u0 S H locs ls hf hI hl
    unfold fX3_proof_b202 at hf
    refine lv_lstore (lv' := [(7, .long u0), (0, .ref (ad 0)), (2, .int v2), (3, .int v3)]) hx hb dX3_proof_202 hl (by decide) rfl (fun ls hl => ?_)
    refine lv_iload_n hx hb dX3_proof_204 rfl (lv_at hl 3 rfl) ?_
    refine lv_iconst (v := 3) hx hb dX3_proof_205 (by decide) ?_
    refine lv_icmp_ne (tgt := 226) hx hb dX3_proof_206 (by decide) (fun c_206 => ?_) (fun c_206 => ?_)
    · replace hf := zIf c_206 hf
      exact hb226 k89 hk89 v2 u0 S _ _ _ hf hI (lv_sub hl [1, 2, 0] rfl)
    · replace hf := zIt c_206 hf
      refine lv_aload_n hx hb dX3_proof_209 rfl (lv_at hl 1 rfl) ?_
      refine lv_lload hx hb dX3_proof_210 (lv_at hl 0 rfl) ?_
      obtain ⟨r_212, S_212, hf_212, hf⟩ := zB2_s hf
      refine z_callV (w2 := (wM cy ad S_212)) C 1 (kX3_isFollowing l zq D cy ad u0 S S_212 r_212 hf_212) gX3_proof_X3_isFollowing rfl (by decide +kernel) ⟨by decide, by decide⟩ hI 0 rfl rfl rfl hl.1 rfl (Nat.le_of_ble_eq_true rfl) dX3_proof_212 ⟨by decide, by decide⟩ (st2 := [.int r_212]) rfl (fun H locs hI => ?_)
      refine lv_if_ne (tgt := 226) hx hb dX3_proof_215 (by decide) (fun c_215 => ?_) (fun c_215 => ?_)
      · replace hf := zIf c_215 hf
        exact hb226 k89 hk89 v2 u0 S_212 _ _ _ hf hI (lv_sub hl [1, 2, 0] rfl)
      · replace hf := zIt c_215 hf
        refine lv_aload_n hx hb dX3_proof_218 rfl (lv_at hl 1 rfl) ?_
        refine lv_iload_n hx hb dX3_proof_219 rfl (lv_at hl 2 rfl) ?_
        obtain ⟨S_220, eS_220, hf⟩ := zL_e hf
        refine z_put (D := D) (ci := 3) (v := .int v2) (ty := .int) (C := RX3) (T := TX3) (N := 27) (w2 := (wM cy ad S_220)) hx hb hts hiX3 tyX3 tyX3_ok nmX3 hown hK hI 0 rfl rfl 13 (by decide) (hts (.fieldLink RX3 16 "NoughtSumsModel" "wrongStep" "I") (by decide +kernel)) (fun _ h9 => h9) rfl (by decide +kernel) rfl rfl (Nat.le_of_ble_eq_true rfl) dX3_proof_220 (by rw [eS_220]; rfl) (fun H locs hI => ?_)
        refine lv_goto (tgt := 252) hx hb dX3_proof_223 (by decide) ?_
        exact hb252 k89 hk89 v2 S_220 _ _ _ hf hI (lv_sub hl [1, 2] rfl)
  have hb89 : ∀ (n : Nat), ∀ (v2 : Int32) (S : MS) (H : Heap) (locs : List Loc) (ls : Array Slot), fX3_proof_b89L n v2 S = some (r, S') → zI D A s H locs (wM cy ad S) → lv_has ls 9 [(0, .ref (ad 0)), (2, .int v2)] → W p l e { frames := 7, cells := 0, slots := 0, locals := 163 } s m args below meth c H locs 0 0 Q (F0 m 89 ls []) := by
    intro n
    induction n with
    | zero => intro v2 S H locs ls hf; cases (show (none : Option (Int32 × MS)) = some (r, S') from hf)
    | succ n ih =>
      intro v2 S H locs ls hf hI hl
      have hf : fX3_proof_b89 (fX3_proof_b89L n) v2 S = some (r, S') := hf
      unfold fX3_proof_b89 at hf
      refine lv_iload_n hx hb dX3_proof_89 rfl (lv_at hl 1 rfl) ?_
      refine lv_aload_n hx hb dX3_proof_90 rfl (lv_at hl 0 rfl) ?_
      refine va_get (D := D) (ci := 3) (v := .int (m_steps S)) (C := RX3) (T := TX3) (N := 27) hx hb hts hiX3 hown hK hI.1 0 rfl rfl 12 (by decide) (hts (.fieldLink RX3 135 "NoughtSumsModel" "steps" "I") (by decide +kernel)) (fun _ h9 => h9) rfl dX3_proof_91 ?_
      refine lv_icmp_ge (tgt := 258) hx hb dX3_proof_94 (by decide) (fun c_94 => ?_) (fun c_94 => ?_)
      · replace hf := zIt c_94 hf
        refine lv_aload_n hx hb dX3_proof_258 rfl (lv_at hl 0 rfl) ?_
        refine va_get (D := D) (ci := 3) (v := .int (m_made S)) (C := RX3) (T := TX3) (N := 27) hx hb hts hiX3 hown hK hI.1 0 rfl rfl 11 (by decide) (hts (.fieldLink RX3 132 "NoughtSumsModel" "made" "I") (by decide +kernel)) (fun _ h9 => h9) rfl dX3_proof_259 ?_
        obtain ⟨h1, h2⟩ := zP2 hf
        rw [hQ]
        exact z_iret C (by rw [h2]; exact hI) (by rw [h1]) dX3_proof_262
      · replace hf := zIf c_94 hf
        refine lv_aload_n hx hb dX3_proof_97 rfl (lv_at hl 0 rfl) ?_
        refine va_get (D := D) (ci := 3) (v := .int (m_wrongStep S)) (C := RX3) (T := TX3) (N := 27) hx hb hts hiX3 hown hK hI.1 0 rfl rfl 13 (by decide) (hts (.fieldLink RX3 16 "NoughtSumsModel" "wrongStep" "I") (by decide +kernel)) (fun _ h9 => h9) rfl dX3_proof_98 ?_
        refine lv_bipush (v := -9) hx hb dX3_proof_101 (by decide) ?_
        refine lv_icmp_ne (tgt := 258) hx hb dX3_proof_103 (by decide) (fun c_103 => ?_) (fun c_103 => ?_)
        · replace hf := zIf c_103 hf
          refine lv_aload_n hx hb dX3_proof_258 rfl (lv_at hl 0 rfl) ?_
          refine va_get (D := D) (ci := 3) (v := .int (m_made S)) (C := RX3) (T := TX3) (N := 27) hx hb hts hiX3 hown hK hI.1 0 rfl rfl 11 (by decide) (hts (.fieldLink RX3 132 "NoughtSumsModel" "made" "I") (by decide +kernel)) (fun _ h9 => h9) rfl dX3_proof_259 ?_
          obtain ⟨h1, h2⟩ := zP2 hf
          rw [hQ]
          exact z_iret C (by rw [h2]; exact hI) (by rw [h1]) dX3_proof_262
        · replace hf := zIt c_103 hf
          refine lv_aload_n hx hb dX3_proof_106 rfl (lv_at hl 0 rfl) ?_
          refine va_get (D := D) (ci := 3) (v := .ref (ad 5)) (C := RX3) (T := TX3) (N := 27) hx hb hts hiX3 hown hK hI.1 0 rfl rfl 16 (by decide) (hts (.fieldLink RX3 27 "NoughtSumsModel" "step" "[I") (by decide +kernel)) (fun _ h9 => h9) rfl dX3_proof_107 ?_
          refine lv_iconst (v := 3) hx hb dX3_proof_110 (by decide) ?_
          refine lv_iload_n hx hb dX3_proof_111 rfl (lv_at hl 1 rfl) ?_
          refine lv_imul hx hb dX3_proof_112 ?_
          obtain ⟨g_113, hf⟩ := zGI_s hf
          refine va_iald (f := (m_step S)) hx hb hK hI.1 5 4 rfl rfl g_113 dX3_proof_113 ?_
          refine lv_topi (fun n_114 e_114 => ?_)
          replace hf := zL_s hf e_114
          refine lv_istore_n (lv' := [(3, .int n_114), (0, .ref (ad 0)), (2, .int v2)]) hx hb dX3_proof_114 rfl hl (by decide) rfl (fun ls hl => ?_)
          refine lv_aload_n hx hb dX3_proof_115 rfl (lv_at hl 1 rfl) ?_
          refine va_get (D := D) (ci := 3) (v := .ref (ad 3)) (C := RX3) (T := TX3) (N := 27) hx hb hts hiX3 hown hK hI.1 0 rfl rfl 14 (by decide) (hts (.fieldLink RX3 20 "NoughtSumsModel" "line" "[J") (by decide +kernel)) (fun _ h9 => h9) rfl dX3_proof_116 ?_
          refine lv_aload_n hx hb dX3_proof_119 rfl (lv_at hl 1 rfl) ?_
          refine va_get (D := D) (ci := 3) (v := .ref (ad 5)) (C := RX3) (T := TX3) (N := 27) hx hb hts hiX3 hown hK hI.1 0 rfl rfl 16 (by decide) (hts (.fieldLink RX3 27 "NoughtSumsModel" "step" "[I") (by decide +kernel)) (fun _ h9 => h9) rfl dX3_proof_120 ?_
          refine lv_iconst (v := 3) hx hb dX3_proof_123 (by decide) ?_
          refine lv_iload_n hx hb dX3_proof_124 rfl (lv_at hl 2 rfl) ?_
          refine lv_imul hx hb dX3_proof_125 ?_
          refine lv_iconst (v := 1) hx hb dX3_proof_126 (by decide) ?_
          refine lv_iadd hx hb dX3_proof_127 ?_
          obtain ⟨g_128, hf⟩ := zGI_s hf
          refine va_iald (f := (m_step S)) hx hb hK hI.1 5 4 rfl rfl g_128 dX3_proof_128 ?_
          obtain ⟨g_129, hf⟩ := zGI_s hf
          refine va_lald (f := (m_line S)) hx hb hK hI.1 3 2 rfl rfl g_129 dX3_proof_129 ?_
          refine lv_topl (fun n_130 e_130 => ?_)
          replace hf := zL_s hf e_130
          refine lv_lstore (lv' := [(4, .long n_130), (3, .int n_114), (0, .ref (ad 0)), (2, .int v2)]) hx hb dX3_proof_130 hl (by decide) rfl (fun ls hl => ?_)
          refine lv_aload_n hx hb dX3_proof_132 rfl (lv_at hl 2 rfl) ?_
          refine va_get (D := D) (ci := 3) (v := .ref (ad 5)) (C := RX3) (T := TX3) (N := 27) hx hb hts hiX3 hown hK hI.1 0 rfl rfl 16 (by decide) (hts (.fieldLink RX3 27 "NoughtSumsModel" "step" "[I") (by decide +kernel)) (fun _ h9 => h9) rfl dX3_proof_133 ?_
          refine lv_iconst (v := 3) hx hb dX3_proof_136 (by decide) ?_
          refine lv_iload_n hx hb dX3_proof_137 rfl (lv_at hl 3 rfl) ?_
          refine lv_imul hx hb dX3_proof_138 ?_
          refine lv_iconst (v := 2) hx hb dX3_proof_139 (by decide) ?_
          refine lv_iadd hx hb dX3_proof_140 ?_
          obtain ⟨g_141, hf⟩ := zGI_s hf
          refine va_iald (f := (m_step S)) hx hb hK hI.1 5 4 rfl rfl g_141 dX3_proof_141 ?_
          refine lv_topi (fun n_142 e_142 => ?_)
          replace hf := zL_s hf e_142
          refine lv_istore (lv' := [(6, .int n_142), (4, .long n_130), (3, .int n_114), (0, .ref (ad 0)), (2, .int v2)]) hx hb dX3_proof_142 hl (by decide) rfl (fun ls hl => ?_)
          refine lv_iload_n hx hb dX3_proof_144 rfl (lv_at hl 2 rfl) ?_
          refine lv_iconst (v := 3) hx hb dX3_proof_145 (by decide) ?_
          refine lv_icmp_ne (tgt := 158) hx hb dX3_proof_146 (by decide) (fun c_146 => ?_) (fun c_146 => ?_)
          · replace hf := zIf c_146 hf
            refine lv_iload_n hx hb dX3_proof_158 rfl (lv_at hl 2 rfl) ?_
            refine lv_if_ne (tgt := 175) hx hb dX3_proof_159 (by decide) (fun c_159 => ?_) (fun c_159 => ?_)
            · replace hf := zIf c_159 hf
              refine lv_iload_n hx hb dX3_proof_175 rfl (lv_at hl 2 rfl) ?_
              refine lv_iconst (v := 1) hx hb dX3_proof_176 (by decide) ?_
              refine lv_icmp_ne (tgt := 190) hx hb dX3_proof_177 (by decide) (fun c_177 => ?_) (fun c_177 => ?_)
              · replace hf := zIf c_177 hf
                refine lv_lload hx hb dX3_proof_190 (lv_at hl 1 rfl) ?_
                refine lv_aload_n hx hb dX3_proof_192 rfl (lv_at hl 3 rfl) ?_
                refine va_get (D := D) (ci := 3) (v := .ref (ad 3)) (C := RX3) (T := TX3) (N := 27) hx hb hts hiX3 hown hK hI.1 0 rfl rfl 14 (by decide) (hts (.fieldLink RX3 20 "NoughtSumsModel" "line" "[J") (by decide +kernel)) (fun _ h9 => h9) rfl dX3_proof_193 ?_
                refine lv_iload hx hb dX3_proof_196 (lv_at hl 0 rfl) ?_
                obtain ⟨g_198, hf⟩ := zGI_s hf
                refine va_lald (f := (m_line S)) hx hb hK hI.1 3 2 rfl rfl g_198 dX3_proof_198 ?_
                obtain ⟨r_199, hf_199, hf⟩ := zB1_s hf
                refine z_callS C 2 (kX3_multiplied l zq D n_130 ((m_line S) n_142.toNatClampNeg) r_199 hf_199) gX3_proof_X3_multiplied rfl (by decide +kernel) ⟨by decide, by decide⟩ hI rfl hl.1 rfl (Nat.le_of_ble_eq_true rfl) dX3_proof_199 ⟨by decide, by decide⟩ (st2 := [.long r_199]) rfl (fun H locs hI => ?_)
                exact hb202 (fX3_proof_b89L n) ih v2 n_114 r_199 S _ _ _ hf hI (lv_sub hl [3, 4, 2] rfl)
              · replace hf := zIt c_177 hf
                refine lv_lload hx hb dX3_proof_180 (lv_at hl 1 rfl) ?_
                refine lv_iload hx hb dX3_proof_182 (lv_at hl 0 rfl) ?_
                obtain ⟨r_184, hf_184, hf⟩ := zB1_s hf
                refine z_callS C 2 (kX3_raised l zq D n_130 n_142 r_184 hf_184) gX3_proof_X3_raised rfl (by decide +kernel) ⟨by decide, by decide⟩ hI rfl hl.1 rfl (Nat.le_of_ble_eq_true rfl) dX3_proof_184 ⟨by decide, by decide⟩ (st2 := [.long r_184]) rfl (fun H locs hI => ?_)
                refine lv_goto (tgt := 202) hx hb dX3_proof_187 (by decide) ?_
                exact hb202 (fX3_proof_b89L n) ih v2 n_114 r_184 S _ _ _ hf hI (lv_sub hl [3, 4, 2] rfl)
            · replace hf := zIt c_159 hf
              refine lv_lload hx hb dX3_proof_162 (lv_at hl 1 rfl) ?_
              refine lv_aload_n hx hb dX3_proof_164 rfl (lv_at hl 3 rfl) ?_
              refine va_get (D := D) (ci := 3) (v := .ref (ad 3)) (C := RX3) (T := TX3) (N := 27) hx hb hts hiX3 hown hK hI.1 0 rfl rfl 14 (by decide) (hts (.fieldLink RX3 20 "NoughtSumsModel" "line" "[J") (by decide +kernel)) (fun _ h9 => h9) rfl dX3_proof_165 ?_
              refine lv_iload hx hb dX3_proof_168 (lv_at hl 0 rfl) ?_
              obtain ⟨g_170, hf⟩ := zGI_s hf
              refine va_lald (f := (m_line S)) hx hb hK hI.1 3 2 rfl rfl g_170 dX3_proof_170 ?_
              refine lv_lxor hx hb dX3_proof_171 ?_
              refine lv_goto (tgt := 202) hx hb dX3_proof_172 (by decide) ?_
              exact hb202 (fX3_proof_b89L n) ih v2 n_114 (n_130 ^^^ ((m_line S) n_142.toNatClampNeg)) S _ _ _ hf hI (lv_sub hl [3, 4, 2] rfl)
          · replace hf := zIt c_146 hf
            refine lv_aload_n hx hb dX3_proof_149 rfl (lv_at hl 3 rfl) ?_
            refine va_get (D := D) (ci := 3) (v := .ref (ad 6)) (C := RX3) (T := TX3) (N := 27) hx hb hts hiX3 hown hK hI.1 0 rfl rfl 17 (by decide) (hts (.fieldLink RX3 30 "NoughtSumsModel" "claimed" "[J") (by decide +kernel)) (fun _ h9 => h9) rfl dX3_proof_150 ?_
            refine lv_iload_n hx hb dX3_proof_153 rfl (lv_at hl 4 rfl) ?_
            obtain ⟨g_154, hf⟩ := zGI_s hf
            refine va_lald (f := (m_claimed S)) hx hb hK hI.1 6 5 rfl rfl g_154 dX3_proof_154 ?_
            refine lv_goto (tgt := 202) hx hb dX3_proof_155 (by decide) ?_
            exact hb202 (fX3_proof_b89L n) ih v2 n_114 ((m_claimed S) v2.toNatClampNeg) S _ _ _ hf hI (lv_sub hl [3, 4, 2] rfl)
  have hb51 : ∀ (v1 : Int32) (S : MS) (H : Heap) (locs : List Loc) (ls : Array Slot), fX3_proof_b51 v1 S = some (r, S') → zI D A s H locs (wM cy ad S) → lv_has ls 9 [(0, .ref (ad 0)), (1, .int v1)] → W p l e { frames := 7, cells := 0, slots := 0, locals := 163 } s m args below meth c H locs 0 0 Q (F0 m 51 ls []) := by
    intro v1 S H locs ls hf hI hl
    unfold fX3_proof_b51 at hf
    refine lv_aload_n hx hb dX3_proof_51 rfl (lv_at hl 0 rfl) ?_
    obtain ⟨r_52, S_52, hf_52, hf⟩ := zB2_s hf
    refine z_callV (w2 := (wM cy ad S_52)) C 0 (kX3_isWell l zq D cy ad S S_52 r_52 hf_52) gX3_proof_X3_isWell rfl (by decide +kernel) ⟨by decide, by decide⟩ hI 0 rfl rfl rfl hl.1 rfl (Nat.le_of_ble_eq_true rfl) dX3_proof_52 ⟨by decide, by decide⟩ (st2 := [.int r_52]) rfl (fun H locs hI => ?_)
    refine lv_if_ne (tgt := 66) hx hb dX3_proof_55 (by decide) (fun c_55 => ?_) (fun c_55 => ?_)
    · replace hf := zIf c_55 hf
      refine lv_aload_n hx hb dX3_proof_66 rfl (lv_at hl 0 rfl) ?_
      refine lv_iload_n hx hb dX3_proof_67 rfl (lv_at hl 1 rfl) ?_
      obtain ⟨S_68, eS_68, hf⟩ := zL_e hf
      refine z_put (D := D) (ci := 3) (v := .int v1) (ty := .int) (C := RX3) (T := TX3) (N := 27) (w2 := (wM cy ad S_68)) hx hb hts hiX3 tyX3 tyX3_ok nmX3 hown hK hI 0 rfl rfl 12 (by decide) (hts (.fieldLink RX3 135 "NoughtSumsModel" "steps" "I") (by decide +kernel)) (fun _ h9 => h9) rfl (by decide +kernel) rfl rfl (Nat.le_of_ble_eq_true rfl) dX3_proof_68 (by rw [eS_68]; rfl) (fun H locs hI => ?_)
      refine lv_aload_n hx hb dX3_proof_71 rfl (lv_at hl 0 rfl) ?_
      refine lv_iconst (v := 0) hx hb dX3_proof_72 (by decide) ?_
      obtain ⟨S_73, eS_73, hf⟩ := zL_e hf
      refine z_put (D := D) (ci := 3) (v := .int (0 : Int32)) (ty := .int) (C := RX3) (T := TX3) (N := 27) (w2 := (wM cy ad S_73)) hx hb hts hiX3 tyX3 tyX3_ok nmX3 hown hK hI 0 rfl rfl 11 (by decide) (hts (.fieldLink RX3 132 "NoughtSumsModel" "made" "I") (by decide +kernel)) (fun _ h9 => h9) rfl (by decide +kernel) rfl rfl (Nat.le_of_ble_eq_true rfl) dX3_proof_73 (by rw [eS_73]; rfl) (fun H locs hI => ?_)
      refine lv_aload_n hx hb dX3_proof_76 rfl (lv_at hl 0 rfl) ?_
      refine lv_bipush (v := -9) hx hb dX3_proof_77 (by decide) ?_
      obtain ⟨S_79, eS_79, hf⟩ := zL_e hf
      refine z_put (D := D) (ci := 3) (v := .int (-9 : Int32)) (ty := .int) (C := RX3) (T := TX3) (N := 27) (w2 := (wM cy ad S_79)) hx hb hts hiX3 tyX3 tyX3_ok nmX3 hown hK hI 0 rfl rfl 13 (by decide) (hts (.fieldLink RX3 16 "NoughtSumsModel" "wrongStep" "I") (by decide +kernel)) (fun _ h9 => h9) rfl (by decide +kernel) rfl rfl (Nat.le_of_ble_eq_true rfl) dX3_proof_79 (by rw [eS_79]; rfl) (fun H locs hI => ?_)
      refine lv_aload_n hx hb dX3_proof_82 rfl (lv_at hl 0 rfl) ?_
      refine lv_iconst (v := 0) hx hb dX3_proof_83 (by decide) ?_
      obtain ⟨S_84, eS_84, hf⟩ := zL_e hf
      refine z_put (D := D) (ci := 3) (v := .int (0 : Int32)) (ty := .int) (C := RX3) (T := TX3) (N := 27) (w2 := (wM cy ad S_84)) hx hb hts hiX3 tyX3 tyX3_ok nmX3 hown hK hI 0 rfl rfl 4 (by decide) (hts (.fieldLink RX3 75 "NoughtSumsModel" "typed" "I") (by decide +kernel)) (fun _ h9 => h9) rfl (by decide +kernel) rfl rfl (Nat.le_of_ble_eq_true rfl) dX3_proof_84 (by rw [eS_84]; rfl) (fun H locs hI => ?_)
      refine lv_iconst (v := 0) hx hb dX3_proof_87 (by decide) ?_
      refine lv_istore_n (lv' := [(2, .int (0 : Int32)), (0, .ref (ad 0)), (1, .int v1)]) hx hb dX3_proof_88 rfl hl (by decide) rfl (fun ls hl => ?_)
      exact hb89 zF (0 : Int32) S_84 _ _ _ hf hI (lv_sub hl [1, 0] rfl)
    · replace hf := zIt c_55 hf
      refine lv_bipush (v := -10) hx hb dX3_proof_58 (by decide) ?_
      refine lv_aload_n hx hb dX3_proof_60 rfl (lv_at hl 0 rfl) ?_
      refine va_get (D := D) (ci := 3) (v := .int (m_fault S_52)) (C := RX3) (T := TX3) (N := 27) hx hb hts hiX3 hown hK hI.1 0 rfl rfl 9 (by decide) (hts (.fieldLink RX3 108 "NoughtSumsModel" "fault" "I") (by decide +kernel)) (fun _ h9 => h9) rfl dX3_proof_61 ?_
      refine lv_isub hx hb dX3_proof_64 ?_
      obtain ⟨h1, h2⟩ := zP2 hf
      rw [hQ]
      exact z_iret C (by rw [h2]; exact hI) (by rw [h1]) dX3_proof_65
  have hb11 : ∀ (n : Nat), ∀ (v1 : Int32) (S : MS) (H : Heap) (locs : List Loc) (ls : Array Slot), fX3_proof_b11L n v1 S = some (r, S') → zI D A s H locs (wM cy ad S) → lv_has ls 9 [(0, .ref (ad 0)), (1, .int v1)] → W p l e { frames := 7, cells := 0, slots := 0, locals := 163 } s m args below meth c H locs 0 0 Q (F0 m 11 ls []) := by
    intro n
    induction n with
    | zero => intro v1 S H locs ls hf; cases (show (none : Option (Int32 × MS)) = some (r, S') from hf)
    | succ n ih =>
      intro v1 S H locs ls hf hI hl
      have hf : fX3_proof_b11 (fX3_proof_b11L n) v1 S = some (r, S') := hf
      unfold fX3_proof_b11 at hf
      refine lv_aload_n hx hb dX3_proof_11 rfl (lv_at hl 0 rfl) ?_
      obtain ⟨r_12, S_12, hf_12, hf⟩ := zB2_s hf
      refine z_callV (w2 := (wM cy ad S_12)) C 0 (kX3_isWell l zq D cy ad S S_12 r_12 hf_12) gX3_proof_X3_isWell rfl (by decide +kernel) ⟨by decide, by decide⟩ hI 0 rfl rfl rfl hl.1 rfl (Nat.le_of_ble_eq_true rfl) dX3_proof_12 ⟨by decide, by decide⟩ (st2 := [.int r_12]) rfl (fun H locs hI => ?_)
      refine lv_if_eq (tgt := 51) hx hb dX3_proof_15 (by decide) (fun c_15 => ?_) (fun c_15 => ?_)
      · replace hf := zIt c_15 hf
        exact hb51 v1 S_12 _ _ _ hf hI (lv_sub hl [0, 1] rfl)
      · replace hf := zIf c_15 hf
        refine lv_aload_n hx hb dX3_proof_18 rfl (lv_at hl 0 rfl) ?_
        refine va_get (D := D) (ci := 3) (v := .int (m_token S_12)) (C := RX3) (T := TX3) (N := 27) hx hb hts hiX3 hown hK hI.1 0 rfl rfl 6 (by decide) (hts (.fieldLink RX3 88 "NoughtSumsModel" "token" "I") (by decide +kernel)) (fun _ h9 => h9) rfl dX3_proof_19 ?_
        refine lv_if_eq (tgt := 51) hx hb dX3_proof_22 (by decide) (fun c_22 => ?_) (fun c_22 => ?_)
        · replace hf := zIt c_22 hf
          exact hb51 v1 S_12 _ _ _ hf hI (lv_sub hl [0, 1] rfl)
        · replace hf := zIf c_22 hf
          refine lv_iload_n hx hb dX3_proof_25 rfl (lv_at hl 1 rfl) ?_
          refine lv_bipush (v := 24) hx hb dX3_proof_26 (by decide) ?_
          refine lv_icmp_ne (tgt := 40) hx hb dX3_proof_28 (by decide) (fun c_28 => ?_) (fun c_28 => ?_)
          · replace hf := zIf c_28 hf
            refine lv_aload_n hx hb dX3_proof_40 rfl (lv_at hl 0 rfl) ?_
            refine lv_iload_n hx hb dX3_proof_41 rfl (lv_at hl 1 rfl) ?_
            obtain ⟨S_42, hf_42, hf⟩ := zB1_s hf
            refine z_callV (w2 := (wM cy ad S_42)) C 1 (kX3_readsStep l zq D cy ad v1 S_12 S_42 hf_42) gX3_proof_X3_readsStep rfl (by decide +kernel) ⟨by decide, by decide⟩ hI 0 rfl rfl rfl hl.1 rfl (Nat.le_of_ble_eq_true rfl) dX3_proof_42 ⟨by decide, by decide⟩ (st2 := []) rfl (fun H locs hI => ?_)
            refine lv_iinc (v := (v1 + (1 : Int32))) (lv' := [(1, .int (v1 + (1 : Int32))), (0, .ref (ad 0))]) hx hb dX3_proof_45 hl (k := 1) rfl rfl (by decide) rfl (fun ls hl => ?_)
            refine lv_goto (tgt := 11) hx hb dX3_proof_48 (by decide) ?_
            exact ih (v1 + (1 : Int32)) S_42 _ _ _ hf hI (lv_sub hl [1, 0] rfl)
          · replace hf := zIt c_28 hf
            refine lv_aload_n hx hb dX3_proof_31 rfl (lv_at hl 0 rfl) ?_
            refine lv_iconst (v := 0) hx hb dX3_proof_32 (by decide) ?_
            obtain ⟨r_33, S_33, hf_33, hf⟩ := zB2_s hf
            refine z_callV (w2 := (wM cy ad S_33)) C 1 (kX3_takes l zq D cy ad (0 : Int32) S_12 S_33 r_33 hf_33) gX3_proof_X3_takes rfl (by decide +kernel) ⟨by decide, by decide⟩ hI 0 rfl rfl rfl hl.1 rfl (Nat.le_of_ble_eq_true rfl) dX3_proof_33 ⟨by decide, by decide⟩ (st2 := [.int r_33]) rfl (fun H locs hI => ?_)
            refine lv_pop hx hb dX3_proof_36 rfl ?_
            refine lv_goto (tgt := 11) hx hb dX3_proof_37 (by decide) ?_
            exact ih v1 S_33 _ _ _ hf hI (lv_sub hl [0, 1] rfl)
  unfold fX3_proof at hf
  refine lv_aload_n hx hb dX3_proof_0 rfl (lv_at hl 0 rfl) ?_
  refine lv_iconst (v := 0) hx hb dX3_proof_1 (by decide) ?_
  obtain ⟨S_2, eS_2, hf⟩ := zL_e hf
  refine z_put (D := D) (ci := 3) (v := .int (0 : Int32)) (ty := .int) (C := RX3) (T := TX3) (N := 27) (w2 := (wM cy ad S_2)) hx hb hts hiX3 tyX3 tyX3_ok nmX3 hown hK hI 0 rfl rfl 0 (by decide) (hts (.fieldLink RX3 56 "NoughtSumsModel" "thrown" "I") (by decide +kernel)) (fun _ h9 => h9) rfl (by decide +kernel) rfl rfl (Nat.le_of_ble_eq_true rfl) dX3_proof_2 (by rw [eS_2]; rfl) (fun H locs hI => ?_)
  refine lv_iconst (v := 0) hx hb dX3_proof_5 (by decide) ?_
  refine lv_istore_n (lv' := [(1, .int (0 : Int32)), (0, .ref (ad 0))]) hx hb dX3_proof_6 rfl hl (by decide) rfl (fun ls hl => ?_)
  refine lv_aload_n hx hb dX3_proof_7 rfl (lv_at hl 1 rfl) ?_
  obtain ⟨S_8, hf_8, hf⟩ := zB1_s hf
  refine z_callV (w2 := (wM cy ad S_8)) C 0 (kX3_begins l zq D cy ad S_2 S_8 hf_8) gX3_proof_X3_begins rfl (by decide +kernel) ⟨by decide, by decide⟩ hI 0 rfl rfl rfl hl.1 rfl (Nat.le_of_ble_eq_true rfl) dX3_proof_8 ⟨by decide, by decide⟩ (st2 := []) rfl (fun H locs hI => ?_)
  exact hb11 zF (0 : Int32) S_8 _ _ _ hf hI (lv_sub hl [1, 0] rfl)

