/-! ===== the four word constants: length() and charAt() of them ===== -/
section ZSTR
variable {p : Program} {l : Launch} {e : Env} {R : Room} {s : State} {m : MethodId} {args : Array Value} {below : List Frame} {meth : Method} {c : Code} {H : Heap} {locs : List Loc} {cells slots : Nat} {Q : State → Prop}
variable {cc : ByteArray} {pc nL : Nat} {ret : Option FieldType} {own : String} {Ts : List Cond} {ls : Array Slot} {rest : List Value} {A : Nat → Prop} {D : va_G} {tys : List (ClassId × FieldType)} {w w2 : va_W} {zq : Nat → Nat}
/-- a call upon one of the word constants -/
theorem z_callT {y : MethodName} {ws ws' : List Cond} {bytes : ByteArray} {maxL fr lo index : Nat} {rt : Option FieldType} {As st : List Value} {r : Option Value} (C : zC p s m args meth c cc nL ret own Ts D tys zq A) (n i : Nat) (hi : i < 4) (hM : zMet l y ws fr lo zq D [] [] (.ref (zq (2 + i)) :: As) r []) (hg : GoodIn Ts (wsV own index RJ0 y ws)) (hw : ws = Cond.code y bytes maxL rt :: ws') (hd : y.cls = RJ0 ∧ y.cls ≠ "java/lang/invoke/MethodHandle" ∧ y.cls ≠ "java/lang/invoke/VarHandle" ∧ (parseMethodDescriptor y.desc).map (fun d => d.parameters.length) = some n) (hR : fr + 1 ≤ R.frames ∧ 8 + (maxL + 11) + lo ≤ R.locals) (hI : zI D A s H locs w)
    (hn : As.length = n) (hl : ls.size = nL) (hst : st = As.reverse ++ .ref (zq (2 + i)) :: rest) (hrm : (rest.map fun v => v.category).sum ≤ 8) (hdg : decode cc pc = .ok (.invokevirtual index, 3)) (hcs : cells + 0 ≤ R.cells ∧ slots + 0 ≤ R.slots) {st2 : List Value} (hs2 : r.toList ++ rest = st2) (kk : ∀ (H1 : Heap) (locs1 : List Loc), zI D A s H1 locs1 w → W p l e R s m args below meth c H1 locs1 cells slots Q (F0 m (pc + 3) ls st2)) : W p l e R s m args below meth c H locs cells slots Q (F0 m pc ls st) := by
  obtain ⟨hx, hb, hml, hown, hts, hret, hlk, hK, hX, hA⟩ := C
  exact z_after (wc := []) (wc' := []) (wr := w) (tysC := []) (r := r) hA hI [] (List.range w.length) rfl (z_rng w) (z_nd _) (fun i _ h => absurd h List.not_mem_nil) (List.range w.length) (z_nd _) (by rw [List.append_nil]; exact z_rng w) (va_runV (rest := rest) (As := As) ⟨hx, hb, hml, hown, hts⟩ (hM H.size) (cwV n hts hg hw rfl rfl hd hR) ⟨z_blind, vk_recv hX.2.2.2.2.2.1 hi hI.2.2, z_pre hK hX hA hI [] [] rfl rfl rfl⟩ rfl hn hl hst (lv_room hrm) hdg hcs) hs2 kk
end ZSTR
set_option maxHeartbeats 4000000 in
set_option maxRecDepth 100000 in
theorem kJ0_coder_7d493 (l : Launch) (zq : Nat → Nat) (D : va_G) (i : Nat) (hi : i < 4) : zMet l yJ0_coder_7d493 wsJ0_coder_7d493 0 0 zq D [] [] [.ref (zq (2 + i))] (some (.int 0)) [] := by
  refine zMet.of cJ0_coder_7d493 1 (some .byte) (by decide) rfl (Nat.le_of_ble_eq_true rfl) ?_
  intro p e s m args below meth c A ls C hl hI
  have hl : lv_has ls 1 [(0, .ref (zq (2 + i)))] := hl
  have C : zC p s m args meth c cJ0_coder_7d493 1 (some .byte) RJ0 wsJ0_coder_7d493 D [] zq A := C
  obtain ⟨hx, hb, hml, hown, hts, hret, hlk, hK, hX, hA⟩ := id C
  refine va_gets (C := RJ0) (n := "COMPACT_STRINGS") (d := "Z") hx hb hX.2.2.2.2.2.2.1 hI.2.2 hown (hts (.fieldLink RJ0 38 "java/lang/String" "COMPACT_STRINGS" "Z") (by decide +kernel)) (fun _ h9 => h9) dJ0_coder_7d493_0 ?_
  refine lv_if_eq (tgt := 13) hx hb dJ0_coder_7d493_3 (by decide) (fun c3 => absurd c3 (by decide)) (fun _ => ?_)
  refine lv_aload_n hx hb dJ0_coder_7d493_6 rfl (lv_at hl 0 rfl) ?_
  refine vk_getf hx hb (hX.2.2.2.2.2.1.1 i hi).2.1 hI.2.2 hown (hts (.fieldLink RJ0 15 "java/lang/String" "coder" "B") (by decide +kernel)) (fun _ h9 => h9) dJ0_coder_7d493_7 ?_
  refine lv_goto (tgt := 14) hx hb dJ0_coder_7d493_10 (by decide) ?_
  exact z_zret C hI rfl rfl dJ0_coder_7d493_14
def fJ0_length_8abf5 (i : Nat) : Option Int32 := some ((Int32.ofNat (zSL.getD i 0)) >>> ((0 : Int32) &&& 31))
set_option maxHeartbeats 4000000 in
set_option maxRecDepth 100000 in
theorem kJ0_length_8abf5 (l : Launch) (zq : Nat → Nat) (D : va_G) (i : Nat) (hi : i < 4) (r : Int32) (hf : fJ0_length_8abf5 i = some r) : zMet l yJ0_length_8abf5 wsJ0_length_8abf5 1 20 zq D [] [] [.ref (zq (2 + i))] (some (.int r)) [] := by
  refine zMet.of cJ0_length_8abf5 1 (some .int) (by decide) rfl (Nat.le_of_ble_eq_true rfl) ?_
  intro p e s m args below meth c A ls C hl hI
  have hl : lv_has ls 1 [(0, .ref (zq (2 + i)))] := hl
  have C : zC p s m args meth c cJ0_length_8abf5 1 (some .int) RJ0 wsJ0_length_8abf5 D [] zq A := C
  obtain ⟨hx, hb, hml, hown, hts, hret, hlk, hK, hX, hA⟩ := id C
  refine lv_aload_n hx hb dJ0_length_8abf5_0 rfl (lv_at hl 0 rfl) ?_
  refine vk_getf hx hb (hX.2.2.2.2.2.1.1 i hi).2.2.1 hI.2.2 hown (hts (.fieldLink RJ0 9 "java/lang/String" "value" "[B") (by decide +kernel)) (fun _ h9 => h9) dJ0_length_8abf5_1 ?_
  refine va_tlen hx hb (hX.2.2.2.2.2.1.1 i hi).2.2.2 hI.2.2 rfl dJ0_length_8abf5_4 ?_
  refine lv_aload_n hx hb dJ0_length_8abf5_5 rfl (lv_at hl 0 rfl) ?_
  refine z_callT C 0 i hi (kJ0_coder_7d493 l zq D i hi) gJ0_length_8abf5_J0_coder_7d493 rfl (by decide +kernel) ⟨by decide, by decide⟩ hI rfl hl.1 rfl (Nat.le_of_ble_eq_true rfl) dJ0_length_8abf5_6 ⟨by decide, by decide⟩ (st2 := [.int 0, .int (Int32.ofNat (zSL.getD i 0))]) rfl (fun H locs hI => ?_)
  refine lv_ishr hx hb dJ0_length_8abf5_9 ?_
  exact z_iret C hI (by rw [zP1 hf]) dJ0_length_8abf5_10
set_option maxHeartbeats 4000000 in
set_option maxRecDepth 100000 in
theorem kJ0_isLatin1_aae02 (l : Launch) (zq : Nat → Nat) (D : va_G) (i : Nat) (hi : i < 4) : zMet l yJ0_isLatin1_aae02 wsJ0_isLatin1_aae02 0 0 zq D [] [] [.ref (zq (2 + i))] (some (.int 1)) [] := by
  refine zMet.of cJ0_isLatin1_aae02 1 (some .boolean) (by decide) rfl (Nat.le_of_ble_eq_true rfl) ?_
  intro p e s m args below meth c A ls C hl hI
  have hl : lv_has ls 1 [(0, .ref (zq (2 + i)))] := hl
  have C : zC p s m args meth c cJ0_isLatin1_aae02 1 (some .boolean) RJ0 wsJ0_isLatin1_aae02 D [] zq A := C
  obtain ⟨hx, hb, hml, hown, hts, hret, hlk, hK, hX, hA⟩ := id C
  refine va_gets (C := RJ0) (n := "COMPACT_STRINGS") (d := "Z") hx hb hX.2.2.2.2.2.2.1 hI.2.2 hown (hts (.fieldLink RJ0 38 "java/lang/String" "COMPACT_STRINGS" "Z") (by decide +kernel)) (fun _ h9 => h9) dJ0_isLatin1_aae02_0 ?_
  refine lv_if_eq (tgt := 17) hx hb dJ0_isLatin1_aae02_3 (by decide) (fun c3 => absurd c3 (by decide)) (fun _ => ?_)
  refine lv_aload_n hx hb dJ0_isLatin1_aae02_6 rfl (lv_at hl 0 rfl) ?_
  refine vk_getf hx hb (hX.2.2.2.2.2.1.1 i hi).2.1 hI.2.2 hown (hts (.fieldLink RJ0 15 "java/lang/String" "coder" "B") (by decide +kernel)) (fun _ h9 => h9) dJ0_isLatin1_aae02_7 ?_
  refine lv_if_ne (tgt := 17) hx hb dJ0_isLatin1_aae02_10 (by decide) (fun c3 => absurd rfl c3) (fun _ => ?_)
  refine lv_iconst (v := 1) hx hb dJ0_isLatin1_aae02_13 (by decide) ?_
  refine lv_goto (tgt := 18) hx hb dJ0_isLatin1_aae02_14 (by decide) ?_
  exact z_zret C hI rfl rfl dJ0_isLatin1_aae02_18
set_option maxHeartbeats 4000000 in
set_option maxRecDepth 100000 in
theorem kJ3_checkIndex_8e157 (l : Launch) (zq : Nat → Nat) (D : va_G) (a0 a1 : Int32) (v : Value) (hv : v.category = 1) (h0 : ¬ a0 < 0) (h1 : a0 < a1) : zMet l yJ3_checkIndex_8e157 wsJ3_checkIndex_8e157 0 0 zq D [] [] [.int a0, .int a1, v] (some (.int a0)) [] := by
  refine zMet.of cJ3_checkIndex_8e157 3 (some .int) (by decide) rfl (by simp [lg_sl, hv, show (Value.int a0).category = 1 from rfl, show (Value.int a1).category = 1 from rfl]) ?_
  intro p e s m args below meth c A ls C hl hI
  have hl : lv_has ls 3 [(0, .int a0), (1, .int a1)] := lv_sub hl [0, 1] rfl
  have C : zC p s m args meth c cJ3_checkIndex_8e157 3 (some .int) RJ3 wsJ3_checkIndex_8e157 D [] zq A := C
  obtain ⟨hx, hb, hml, hown, hts, hret, hlk, hK, hX, hA⟩ := id C
  refine lv_iload_n hx hb dJ3_checkIndex_8e157_0 rfl (lv_at hl 0 rfl) ?_
  refine lv_if_lt (tgt := 9) hx hb dJ3_checkIndex_8e157_1 (by decide) (fun c => absurd c h0) (fun _ => ?_)
  refine lv_iload_n hx hb dJ3_checkIndex_8e157_4 rfl (lv_at hl 0 rfl) ?_
  refine lv_iload_n hx hb dJ3_checkIndex_8e157_5 rfl (lv_at hl 1 rfl) ?_
  refine lv_icmp_lt (tgt := 16) hx hb dJ3_checkIndex_8e157_6 (by decide) (fun _ => ?_) (fun c => absurd h1 c)
  refine lv_iload_n hx hb dJ3_checkIndex_8e157_16 rfl (lv_at hl 0 rfl) ?_
  exact z_iret C hI rfl dJ3_checkIndex_8e157_17
set_option maxHeartbeats 4000000 in
set_option maxRecDepth 100000 in
theorem kJ0_checkIndex_df160 (l : Launch) (zq : Nat → Nat) (D : va_G) (a0 a1 : Int32) (h0 : ¬ a0 < 0) (h1 : a0 < a1) : zMet l yJ0_checkIndex_df160 wsJ0_checkIndex_df160 1 22 zq D [] [] [.int a0, .int a1] none [] := by
  refine zMet.of cJ0_checkIndex_df160 2 none (by decide) rfl (Nat.le_of_ble_eq_true rfl) ?_
  intro p e s m args below meth c A ls C hl hI
  have hl : lv_has ls 2 [(0, .int a0), (1, .int a1)] := hl
  have C : zC p s m args meth c cJ0_checkIndex_df160 2 none RJ0 wsJ0_checkIndex_df160 D [] zq A := C
  obtain ⟨hx, hb, hml, hown, hts, hret, hlk, hK, hX, hA⟩ := id C
  obtain ⟨v, hv, hZ⟩ := hX.2.2.2.2.2.2.2
  refine lv_iload_n hx hb dJ0_checkIndex_df160_0 rfl (lv_at hl 0 rfl) ?_
  refine lv_iload_n hx hb dJ0_checkIndex_df160_1 rfl (lv_at hl 1 rfl) ?_
  refine va_gets (C := RJ3) (n := "SIOOBE_FORMATTER") (d := "Ljava/util/function/BiFunction;") hx hb hZ hI.2.2 hown (hts (.fieldLink RJ0 1053 "jdk/internal/util/Preconditions" "SIOOBE_FORMATTER" "Ljava/util/function/BiFunction;") (by decide +kernel)) (fun _ h9 => h9) dJ0_checkIndex_df160_2 ?_
  refine z_callS C 3 (kJ3_checkIndex_8e157 l zq D a0 a1 v hv h0 h1) gJ0_checkIndex_df160_J3_checkIndex_8e157 rfl (by decide +kernel) ⟨by decide, by decide⟩ hI rfl hl.1 rfl (Nat.le_of_ble_eq_true rfl) dJ0_checkIndex_df160_5 ⟨by decide, by decide⟩ (st2 := [.int a0]) rfl (fun H locs hI => ?_)
  refine lv_pop hx hb dJ0_checkIndex_df160_8 rfl ?_
  exact z_vret C hI rfl dJ0_checkIndex_df160_9
def zChr (i : Nat) (j : Int32) : Int32 := (((zSB.getD i []).getD j.toNatClampNeg 0 &&& 255).toUInt32 % 65536).toInt32
theorem zInLt {j : Int32} {n : Nat} (h : vp_in j n) (hn : n < 2 ^ 31) : ¬ j < 0 ∧ j < Int32.ofNat n := by
  obtain ⟨k, hk, rfl⟩ := vp_in_of h hn
  exact ⟨nI_pos (by omega), nI_lt hk hn⟩
set_option maxHeartbeats 4000000 in
set_option maxRecDepth 100000 in
theorem kJ1_charAt_3b067 (l : Launch) (zq : Nat → Nat) (D : va_G) (i : Nat) (hi : i < 4) (a1 : Int32) (hin : vp_in a1 (zSL.getD i 0)) : zMet l yJ1_charAt_3b067 wsJ1_charAt_3b067 2 43 zq D [] [] [.ref (zq (6 + i)), .int a1] (some (.int (zChr i a1))) [] := by
  refine zMet.of cJ1_charAt_3b067 2 (some .char) (by decide) rfl (Nat.le_of_ble_eq_true rfl) ?_
  intro p e s m args below meth c A ls C hl hI
  have hl : lv_has ls 2 [(0, .ref (zq (6 + i))), (1, .int a1)] := hl
  have C : zC p s m args meth c cJ1_charAt_3b067 2 (some .char) RJ1 wsJ1_charAt_3b067 D [] zq A := C
  obtain ⟨hx, hb, hml, hown, hts, hret, hlk, hK, hX, hA⟩ := id C
  have hsm : zSL.getD i 0 < 2 ^ 31 := by rcases (show i = 0 ∨ i = 1 ∨ i = 2 ∨ i = 3 by omega) with rfl | rfl | rfl | rfl <;> decide
  have hlt := zInLt hin hsm
  refine lv_iload_n hx hb dJ1_charAt_3b067_0 rfl (lv_at hl 1 rfl) ?_
  refine lv_aload_n hx hb dJ1_charAt_3b067_1 rfl (lv_at hl 0 rfl) ?_
  refine va_tlen hx hb (hX.2.2.2.2.2.1.1 i hi).2.2.2 hI.2.2 rfl dJ1_charAt_3b067_2 ?_
  refine z_callS C 2 (kJ0_checkIndex_df160 l zq D a1 (Int32.ofNat (zSL.getD i 0)) hlt.1 hlt.2) gJ1_charAt_3b067_J0_checkIndex_df160 rfl (by decide +kernel) ⟨by decide, by decide⟩ hI rfl hl.1 rfl (Nat.le_of_ble_eq_true rfl) dJ1_charAt_3b067_3 ⟨by decide, by decide⟩ (st2 := []) rfl (fun H locs hI => ?_)
  refine lv_aload_n hx hb dJ1_charAt_3b067_6 rfl (lv_at hl 0 rfl) ?_
  refine lv_iload_n hx hb dJ1_charAt_3b067_7 rfl (lv_at hl 1 rfl) ?_
  refine va_tb hx hb (hX.2.2.2.2.2.1.1 i hi).2.2.2 hI.2.2 hin (v := .int ((zSB.getD i []).getD a1.toNatClampNeg 0)) rfl dJ1_charAt_3b067_8 ?_
  refine lv_sipush (v := 255) hx hb dJ1_charAt_3b067_9 (by decide) ?_
  refine lv_iand hx hb dJ1_charAt_3b067_12 ?_
  refine lv_i2c (v := zChr i a1) hx hb dJ1_charAt_3b067_13 rfl ?_
  exact z_zret C hI rfl (pk_nc _) dJ1_charAt_3b067_14
def fJ0_charAt_5068e (i : Nat) (a1 : Int32) : Option Int32 := zGI a1 (zSL.getD i 0) (some (zChr i a1))
set_option maxHeartbeats 4000000 in
set_option maxRecDepth 100000 in
theorem kJ0_charAt_5068e (l : Launch) (zq : Nat → Nat) (D : va_G) (i : Nat) (hi : i < 4) (a1 : Int32) (r : Int32) (hf : fJ0_charAt_5068e i a1 = some r) : zMet l yJ0_charAt_5068e wsJ0_charAt_5068e 3 64 zq D [] [] [.ref (zq (2 + i)), .int a1] (some (.int r)) [] := by
  refine zMet.of cJ0_charAt_5068e 2 (some .char) (by decide) rfl (Nat.le_of_ble_eq_true rfl) ?_
  intro p e s m args below meth c A ls C hl hI
  have hl : lv_has ls 2 [(0, .ref (zq (2 + i))), (1, .int a1)] := hl
  have C : zC p s m args meth c cJ0_charAt_5068e 2 (some .char) RJ0 wsJ0_charAt_5068e D [] zq A := C
  obtain ⟨hx, hb, hml, hown, hts, hret, hlk, hK, hX, hA⟩ := id C
  obtain ⟨hin, hf⟩ := zGI_s hf
  refine lv_aload_n hx hb dJ0_charAt_5068e_0 rfl (lv_at hl 0 rfl) ?_
  refine z_callT C 0 i hi (kJ0_isLatin1_aae02 l zq D i hi) gJ0_charAt_5068e_J0_isLatin1_aae02 rfl (by decide +kernel) ⟨by decide, by decide⟩ hI rfl hl.1 rfl (Nat.le_of_ble_eq_true rfl) dJ0_charAt_5068e_1 ⟨by decide, by decide⟩ (st2 := [.int 1]) rfl (fun H locs hI => ?_)
  refine lv_if_eq (tgt := 16) hx hb dJ0_charAt_5068e_4 (by decide) (fun c3 => absurd c3 (by decide)) (fun _ => ?_)
  refine lv_aload_n hx hb dJ0_charAt_5068e_7 rfl (lv_at hl 0 rfl) ?_
  refine vk_getf hx hb (hX.2.2.2.2.2.1.1 i hi).2.2.1 hI.2.2 hown (hts (.fieldLink RJ0 9 "java/lang/String" "value" "[B") (by decide +kernel)) (fun _ h9 => h9) dJ0_charAt_5068e_8 ?_
  refine lv_iload_n hx hb dJ0_charAt_5068e_11 rfl (lv_at hl 1 rfl) ?_
  refine z_callS C 2 (kJ1_charAt_3b067 l zq D i hi a1 hin) gJ0_charAt_5068e_J1_charAt_3b067 rfl (by decide +kernel) ⟨by decide, by decide⟩ hI rfl hl.1 rfl (Nat.le_of_ble_eq_true rfl) dJ0_charAt_5068e_12 ⟨by decide, by decide⟩ (st2 := [.int (zChr i a1)]) rfl (fun H locs hI => ?_)
  exact z_zret C hI (by rw [zP1 hf]) (pk_nc _) dJ0_charAt_5068e_15
