def fJ6_bitCount_0f7a4 (a0 : Int32) : Option Int32 :=
(zL (a0 - ((zUshr a0 (1 : Int32)) &&& (1431655765 : Int32))) (fun n_9 =>
(zL ((n_9 &&& (858993459 : Int32)) + ((zUshr n_9 (2 : Int32)) &&& (858993459 : Int32))) (fun n_23 =>
(zL ((n_23 + (zUshr n_23 (4 : Int32))) &&& (252645135 : Int32)) (fun n_33 =>
(zL ((n_33 + (zUshr n_33 (8 : Int32))) + (zUshr (n_33 + (zUshr n_33 (8 : Int32))) (16 : Int32))) (fun n_47 =>
some (n_47 &&& (63 : Int32))))))))))
set_option maxHeartbeats 4000000 in
set_option maxRecDepth 100000 in
theorem kJ6_bitCount_0f7a4 (l : Launch) (zq : Nat → Nat) (D : va_G) (a0 : Int32) (r : Int32) (hf : fJ6_bitCount_0f7a4 a0 = some r) : zMet l yJ6_bitCount_0f7a4 wsJ6_bitCount_0f7a4 0 0 zq D [] [] [.int a0] (some (.int r)) [] := by
  refine zMet.of cJ6_bitCount_0f7a4 1 (some .int) (by decide) rfl (Nat.le_of_ble_eq_true rfl) ?_
  intro p e s m args below meth c A ls C hl hI
  have hl : lv_has ls 1 [(0, .int a0)] := hl
  have C : zC p s m args meth c cJ6_bitCount_0f7a4 1 (some .int) RJ6 wsJ6_bitCount_0f7a4 D [] zq A := C
  obtain ⟨hx, hb, hml, hown, hts, hret, hlk, hK, hX, hA⟩ := id C
  obtain ⟨Q, hQ⟩ : ∃ Q, Q = MQ below (zQ D [] [] (some (.int r)) A) args s 0 0 A := ⟨_, rfl⟩
  rw [← hQ]
  unfold fJ6_bitCount_0f7a4 at hf
  refine lv_iload_n hx hb dJ6_bitCount_0f7a4_0 rfl (lv_at hl 0 rfl) ?_
  refine lv_iload_n hx hb dJ6_bitCount_0f7a4_1 rfl (lv_at hl 0 rfl) ?_
  refine lv_iconst (v := 1) hx hb dJ6_bitCount_0f7a4_2 (by decide) ?_
  refine lv_iushr (v := zUshr a0 (1 : Int32)) hx hb dJ6_bitCount_0f7a4_3 rfl ?_
  refine lv_ldcw hx hb hown (hts (.constant RJ6 265 (1431655765)) (by decide +kernel)) dJ6_bitCount_0f7a4_4 ?_
  refine lv_iand hx hb dJ6_bitCount_0f7a4_7 ?_
  refine lv_isub hx hb dJ6_bitCount_0f7a4_8 ?_
  refine lv_topi (fun n_9 e_9 => ?_)
  replace hf := zL_s hf e_9
  refine lv_istore_n (lv' := [(0, .int n_9)]) hx hb dJ6_bitCount_0f7a4_9 rfl hl (by decide) rfl (fun ls hl => ?_)
  refine lv_iload_n hx hb dJ6_bitCount_0f7a4_10 rfl (lv_at hl 0 rfl) ?_
  refine lv_ldcw hx hb hown (hts (.constant RJ6 266 (858993459)) (by decide +kernel)) dJ6_bitCount_0f7a4_11 ?_
  refine lv_iand hx hb dJ6_bitCount_0f7a4_14 ?_
  refine lv_iload_n hx hb dJ6_bitCount_0f7a4_15 rfl (lv_at hl 0 rfl) ?_
  refine lv_iconst (v := 2) hx hb dJ6_bitCount_0f7a4_16 (by decide) ?_
  refine lv_iushr (v := zUshr n_9 (2 : Int32)) hx hb dJ6_bitCount_0f7a4_17 rfl ?_
  refine lv_ldcw hx hb hown (hts (.constant RJ6 266 (858993459)) (by decide +kernel)) dJ6_bitCount_0f7a4_18 ?_
  refine lv_iand hx hb dJ6_bitCount_0f7a4_21 ?_
  refine lv_iadd hx hb dJ6_bitCount_0f7a4_22 ?_
  refine lv_topi (fun n_23 e_23 => ?_)
  replace hf := zL_s hf e_23
  refine lv_istore_n (lv' := [(0, .int n_23)]) hx hb dJ6_bitCount_0f7a4_23 rfl hl (by decide) rfl (fun ls hl => ?_)
  refine lv_iload_n hx hb dJ6_bitCount_0f7a4_24 rfl (lv_at hl 0 rfl) ?_
  refine lv_iload_n hx hb dJ6_bitCount_0f7a4_25 rfl (lv_at hl 0 rfl) ?_
  refine lv_iconst (v := 4) hx hb dJ6_bitCount_0f7a4_26 (by decide) ?_
  refine lv_iushr (v := zUshr n_23 (4 : Int32)) hx hb dJ6_bitCount_0f7a4_27 rfl ?_
  refine lv_iadd hx hb dJ6_bitCount_0f7a4_28 ?_
  refine lv_ldcw hx hb hown (hts (.constant RJ6 267 (252645135)) (by decide +kernel)) dJ6_bitCount_0f7a4_29 ?_
  refine lv_iand hx hb dJ6_bitCount_0f7a4_32 ?_
  refine lv_topi (fun n_33 e_33 => ?_)
  replace hf := zL_s hf e_33
  refine lv_istore_n (lv' := [(0, .int n_33)]) hx hb dJ6_bitCount_0f7a4_33 rfl hl (by decide) rfl (fun ls hl => ?_)
  refine lv_iload_n hx hb dJ6_bitCount_0f7a4_34 rfl (lv_at hl 0 rfl) ?_
  refine lv_iload_n hx hb dJ6_bitCount_0f7a4_35 rfl (lv_at hl 0 rfl) ?_
  refine lv_bipush (v := 8) hx hb dJ6_bitCount_0f7a4_36 (by decide) ?_
  refine lv_iushr (v := zUshr n_33 (8 : Int32)) hx hb dJ6_bitCount_0f7a4_38 rfl ?_
  refine lv_iadd hx hb dJ6_bitCount_0f7a4_39 ?_
  refine lv_istore_n (lv' := [(0, .int (n_33 + (zUshr n_33 (8 : Int32))))]) hx hb dJ6_bitCount_0f7a4_40 rfl hl (by decide) rfl (fun ls hl => ?_)
  refine lv_iload_n hx hb dJ6_bitCount_0f7a4_41 rfl (lv_at hl 0 rfl) ?_
  refine lv_iload_n hx hb dJ6_bitCount_0f7a4_42 rfl (lv_at hl 0 rfl) ?_
  refine lv_bipush (v := 16) hx hb dJ6_bitCount_0f7a4_43 (by decide) ?_
  refine lv_iushr (v := zUshr (n_33 + (zUshr n_33 (8 : Int32))) (16 : Int32)) hx hb dJ6_bitCount_0f7a4_45 rfl ?_
  refine lv_iadd hx hb dJ6_bitCount_0f7a4_46 ?_
  refine lv_topi (fun n_47 e_47 => ?_)
  replace hf := zL_s hf e_47
  refine lv_istore_n (lv' := [(0, .int n_47)]) hx hb dJ6_bitCount_0f7a4_47 rfl hl (by decide) rfl (fun ls hl => ?_)
  refine lv_iload_n hx hb dJ6_bitCount_0f7a4_48 rfl (lv_at hl 0 rfl) ?_
  refine lv_bipush (v := 63) hx hb dJ6_bitCount_0f7a4_49 (by decide) ?_
  refine lv_iand hx hb dJ6_bitCount_0f7a4_51 ?_
  have h1 := zP1 hf
  rw [hQ]
  exact z_iret C hI (by rw [h1]) dJ6_bitCount_0f7a4_52

def fJ13_bitCount_95d88 (a0 : Int64) : Option Int32 :=
(zL (a0 - ((zLushr a0 (1 : Int32)) &&& (6148914691236517205 : Int64))) (fun n_9 =>
(zL ((n_9 &&& (3689348814741910323 : Int64)) + ((zLushr n_9 (2 : Int32)) &&& (3689348814741910323 : Int64))) (fun n_23 =>
(zL ((n_23 + (zLushr n_23 (4 : Int32))) &&& (1085102592571150095 : Int64)) (fun n_33 =>
(zL ((n_33 + (zLushr n_33 (8 : Int32))) + (zLushr (n_33 + (zLushr n_33 (8 : Int32))) (16 : Int32))) (fun n_47 =>
some ((((n_47 + (zLushr n_47 (32 : Int32)))).toInt32) &&& (127 : Int32))))))))))
set_option maxHeartbeats 4000000 in
set_option maxRecDepth 100000 in
theorem kJ13_bitCount_95d88 (l : Launch) (zq : Nat → Nat) (D : va_G) (a0 : Int64) (r : Int32) (hf : fJ13_bitCount_95d88 a0 = some r) : zMet l yJ13_bitCount_95d88 wsJ13_bitCount_95d88 0 0 zq D [] [] [.long a0] (some (.int r)) [] := by
  refine zMet.of cJ13_bitCount_95d88 2 (some .int) (by decide) rfl (Nat.le_of_ble_eq_true rfl) ?_
  intro p e s m args below meth c A ls C hl hI
  have hl : lv_has ls 2 [(0, .long a0)] := hl
  have C : zC p s m args meth c cJ13_bitCount_95d88 2 (some .int) RJ13 wsJ13_bitCount_95d88 D [] zq A := C
  obtain ⟨hx, hb, hml, hown, hts, hret, hlk, hK, hX, hA⟩ := id C
  obtain ⟨Q, hQ⟩ : ∃ Q, Q = MQ below (zQ D [] [] (some (.int r)) A) args s 0 0 A := ⟨_, rfl⟩
  rw [← hQ]
  unfold fJ13_bitCount_95d88 at hf
  refine lv_lload_n hx hb dJ13_bitCount_95d88_0 rfl (lv_at hl 0 rfl) ?_
  refine lv_lload_n hx hb dJ13_bitCount_95d88_1 rfl (lv_at hl 0 rfl) ?_
  refine lv_iconst (v := 1) hx hb dJ13_bitCount_95d88_2 (by decide) ?_
  refine lv_lushr (v := zLushr a0 (1 : Int32)) hx hb dJ13_bitCount_95d88_3 rfl ?_
  refine lv_ldc2 hx hb hown (hts (.constantLong RJ13 314 (6148914691236517205)) (by decide +kernel)) dJ13_bitCount_95d88_4 ?_
  refine lv_land hx hb dJ13_bitCount_95d88_7 ?_
  refine lv_lsub hx hb dJ13_bitCount_95d88_8 ?_
  refine lv_topl (fun n_9 e_9 => ?_)
  replace hf := zL_s hf e_9
  refine lv_lstore_n (lv' := [(0, .long n_9)]) hx hb dJ13_bitCount_95d88_9 rfl hl (by decide) rfl (fun ls hl => ?_)
  refine lv_lload_n hx hb dJ13_bitCount_95d88_10 rfl (lv_at hl 0 rfl) ?_
  refine lv_ldc2 hx hb hown (hts (.constantLong RJ13 316 (3689348814741910323)) (by decide +kernel)) dJ13_bitCount_95d88_11 ?_
  refine lv_land hx hb dJ13_bitCount_95d88_14 ?_
  refine lv_lload_n hx hb dJ13_bitCount_95d88_15 rfl (lv_at hl 0 rfl) ?_
  refine lv_iconst (v := 2) hx hb dJ13_bitCount_95d88_16 (by decide) ?_
  refine lv_lushr (v := zLushr n_9 (2 : Int32)) hx hb dJ13_bitCount_95d88_17 rfl ?_
  refine lv_ldc2 hx hb hown (hts (.constantLong RJ13 316 (3689348814741910323)) (by decide +kernel)) dJ13_bitCount_95d88_18 ?_
  refine lv_land hx hb dJ13_bitCount_95d88_21 ?_
  refine lv_ladd hx hb dJ13_bitCount_95d88_22 ?_
  refine lv_topl (fun n_23 e_23 => ?_)
  replace hf := zL_s hf e_23
  refine lv_lstore_n (lv' := [(0, .long n_23)]) hx hb dJ13_bitCount_95d88_23 rfl hl (by decide) rfl (fun ls hl => ?_)
  refine lv_lload_n hx hb dJ13_bitCount_95d88_24 rfl (lv_at hl 0 rfl) ?_
  refine lv_lload_n hx hb dJ13_bitCount_95d88_25 rfl (lv_at hl 0 rfl) ?_
  refine lv_iconst (v := 4) hx hb dJ13_bitCount_95d88_26 (by decide) ?_
  refine lv_lushr (v := zLushr n_23 (4 : Int32)) hx hb dJ13_bitCount_95d88_27 rfl ?_
  refine lv_ladd hx hb dJ13_bitCount_95d88_28 ?_
  refine lv_ldc2 hx hb hown (hts (.constantLong RJ13 318 (1085102592571150095)) (by decide +kernel)) dJ13_bitCount_95d88_29 ?_
  refine lv_land hx hb dJ13_bitCount_95d88_32 ?_
  refine lv_topl (fun n_33 e_33 => ?_)
  replace hf := zL_s hf e_33
  refine lv_lstore_n (lv' := [(0, .long n_33)]) hx hb dJ13_bitCount_95d88_33 rfl hl (by decide) rfl (fun ls hl => ?_)
  refine lv_lload_n hx hb dJ13_bitCount_95d88_34 rfl (lv_at hl 0 rfl) ?_
  refine lv_lload_n hx hb dJ13_bitCount_95d88_35 rfl (lv_at hl 0 rfl) ?_
  refine lv_bipush (v := 8) hx hb dJ13_bitCount_95d88_36 (by decide) ?_
  refine lv_lushr (v := zLushr n_33 (8 : Int32)) hx hb dJ13_bitCount_95d88_38 rfl ?_
  refine lv_ladd hx hb dJ13_bitCount_95d88_39 ?_
  refine lv_lstore_n (lv' := [(0, .long (n_33 + (zLushr n_33 (8 : Int32))))]) hx hb dJ13_bitCount_95d88_40 rfl hl (by decide) rfl (fun ls hl => ?_)
  refine lv_lload_n hx hb dJ13_bitCount_95d88_41 rfl (lv_at hl 0 rfl) ?_
  refine lv_lload_n hx hb dJ13_bitCount_95d88_42 rfl (lv_at hl 0 rfl) ?_
  refine lv_bipush (v := 16) hx hb dJ13_bitCount_95d88_43 (by decide) ?_
  refine lv_lushr (v := zLushr (n_33 + (zLushr n_33 (8 : Int32))) (16 : Int32)) hx hb dJ13_bitCount_95d88_45 rfl ?_
  refine lv_ladd hx hb dJ13_bitCount_95d88_46 ?_
  refine lv_topl (fun n_47 e_47 => ?_)
  replace hf := zL_s hf e_47
  refine lv_lstore_n (lv' := [(0, .long n_47)]) hx hb dJ13_bitCount_95d88_47 rfl hl (by decide) rfl (fun ls hl => ?_)
  refine lv_lload_n hx hb dJ13_bitCount_95d88_48 rfl (lv_at hl 0 rfl) ?_
  refine lv_lload_n hx hb dJ13_bitCount_95d88_49 rfl (lv_at hl 0 rfl) ?_
  refine lv_bipush (v := 32) hx hb dJ13_bitCount_95d88_50 (by decide) ?_
  refine lv_lushr (v := zLushr n_47 (32 : Int32)) hx hb dJ13_bitCount_95d88_52 rfl ?_
  refine lv_ladd hx hb dJ13_bitCount_95d88_53 ?_
  refine lv_lstore_n (lv' := [(0, .long (n_47 + (zLushr n_47 (32 : Int32))))]) hx hb dJ13_bitCount_95d88_54 rfl hl (by decide) rfl (fun ls hl => ?_)
  refine lv_lload_n hx hb dJ13_bitCount_95d88_55 rfl (lv_at hl 0 rfl) ?_
  refine lv_l2i hx hb dJ13_bitCount_95d88_56 rfl ?_
  refine lv_bipush (v := 127) hx hb dJ13_bitCount_95d88_57 (by decide) ?_
  refine lv_iand hx hb dJ13_bitCount_95d88_59 ?_
  have h1 := zP1 hf
  rw [hQ]
  exact z_iret C hI (by rw [h1]) dJ13_bitCount_95d88_60

