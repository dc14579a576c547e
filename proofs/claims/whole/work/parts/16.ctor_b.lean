set_option maxHeartbeats 4000000 in
set_option maxRecDepth 100000 in
theorem kX1_init (l : Launch) (zq : Nat → Nat) (D : va_G) (h0 sz : Nat) : Met l yX1_init wsX1_init ({ frames := 1, cells := 5, slots := 496, locals := 12 }) (zPc zq D [] [(h0, .inr (1, [.null, .int 0, .int 0, .int 0, .int 0, .int 0, .int 0, .null, .null, .null, .null]))] [.ref h0] sz) (va_Qv (fun _ : (Nat → ClassId) × (Nat → Nat) => True) (zPoT D h0 (va_A [(h0, .inr (1, [.null, .int 0, .int 0, .int 0, .int 0, .int 0, .int 0, .null, .null, .null, .null]))] sz)) (va_A [(h0, .inr (1, [.null, .int 0, .int 0, .int 0, .int 0, .int 0, .int 0, .null, .null, .null, .null]))] sz)) 5 496 (va_A [(h0, .inr (1, [.null, .int 0, .int 0, .int 0, .int 0, .int 0, .int 0, .null, .null, .null, .null]))] sz) := by
  refine Met.ofW (cc := cX1_init) (maxL := 1) (ret := none) (by decide) rfl ?_
  intro p e s m args below meth c s₁ B hml hv
  obtain ⟨rfl, hsz, hP, hK, hD0, hX⟩ := hv
  have hx := B.exec
  have hb := B.bytes
  have hr := B.returns
  have hts := atoms_spec (ws := wsX1_init) B.pre
  have hown : s.vm.findClass RX1 = some m.cls := findClass_of_methodNamed B.named
  have hlocks := B.notSynchronized
  have hin : meth.name = "<init>" := (name_of_methodNamed B.named B.method).1
  subst hsz
  have hD := hD0.self (sz := s.heap.size)
  generalize hAe : va_A [(h0, .inr (1, [.null, .int 0, .int 0, .int 0, .int 0, .int 0, .int 0, .null, .null, .null, .null]))] s.heap.size = A at hD hX ⊢
  have hA : ∀ q : Nat, s.heap.size ≤ q → A q := fun q h => by rw [← hAe]; exact Or.inr h
  have hS : va_S A s.heap s.heap [] := va_S.rf
  have hl := lv_entry ([.ref h0]) (n := 1) (Nat.le_of_ble_eq_true rfl)
  rw [lg_entry_eq]
  generalize (lg_sl ([.ref h0]) ++ List.replicate (1 - (lg_sl ([.ref h0])).length) Slot.unset).toArray = ls at hl ⊢
  have hl : lv_has ls 1 [(0, .ref h0)] := hl
  have hiX1 : ∀ w ∈ wsX10, w ∈ wsX1_init := by decide +kernel
  refine lv_aload_n hx hb dX1_init_0 rfl (lv_at hl 0 rfl) ?_
  refine W.objInit hx hb hown (hts (.methodLink RX1 3 objectInit) (by decide +kernel)) (hts (.instanceMethod objectInit) (by decide +kernel)) (hts _ (List.mem_of_getElem? (l := wsX1_init) (i := 3) rfl)) rfl (by rw [hml]; exact hl.1) rfl dX1_init_1 (by decide) (Nat.le_of_ble_eq_true rfl) ?_
  refine W.eq (g2 := F0 m 4 ls []) rfl ?_
  refine lv_aload_n hx hb dX1_init_4 rfl (lv_at hl 0 rfl) ?_
  refine lv_sipush (v := 400) hx hb dX1_init_5 (by decide) ?_
  refine va_newa (atype := .int) (N' := 400) (a0 := (400, .inl (fun _ => 0))) hx hb (hts (.arrayClass .int) (by decide +kernel)) rfl hK hP hD hS hA (fun cA => rfl) (by decide) (by decide) (by decide) (by decide) (by decide) dX1_init_8 (fun q8 c8 H hK hP hD hS => ?_)
  have hP : va_P D vwCl [(h0, .inr (1, [.null, .int 0, .int 0, .int 0, .int 0, .int 0, .int 0, .null, .null, .null, .null])), (q8, .inl (c8, 400, .inl (fun _ => 0)))] H := hP
  have hD : va_D A [(h0, .inr (1, [.null, .int 0, .int 0, .int 0, .int 0, .int 0, .int 0, .null, .null, .null, .null])), (q8, .inl (c8, 400, .inl (fun _ => 0)))] := hD
  have hK : va_K D vwCl [(c8, .int)] s := hK
  refine va_putF (D := D) (ci := 1) (v := .ref q8) (ty := .array .int) (C := RX1) (T := TX1) (N := 11) hx hb hts hiX1 tyX1 tyX1_ok nmX1 hown hK hP hD hS 0 rfl rfl 0 (by decide) (hts (.fieldLink RX1 9 "NoughtSums$Text" "bytes" "[I") (by decide +kernel)) (fun _ h9 => h9) rfl hin rfl (by decide +kernel) rfl rfl (Nat.le_of_ble_eq_true rfl) dX1_init_10 (fun H locs hP hD hS => ?_)
  have hP : va_P D vwCl [(h0, .inr (1, [.ref q8, .int 0, .int 0, .int 0, .int 0, .int 0, .int 0, .null, .null, .null, .null])), (q8, .inl (c8, 400, .inl (fun _ => 0)))] H := hP
  have hD : va_D A [(h0, .inr (1, [.ref q8, .int 0, .int 0, .int 0, .int 0, .int 0, .int 0, .null, .null, .null, .null])), (q8, .inl (c8, 400, .inl (fun _ => 0)))] := hD
  refine lv_aload_n hx hb dX1_init_13 rfl (lv_at hl 0 rfl) ?_
  refine lv_iconst (v := 0) hx hb dX1_init_14 (by decide) ?_
  refine va_put (D := D) (ci := 1) (v := .int (0 : Int32)) (ty := .int) (C := RX1) (T := TX1) (N := 11) hx hb hts hiX1 tyX1 tyX1_ok nmX1 hown hK hP hD hS 0 rfl rfl 1 (by decide) (hts (.fieldLink RX1 15 "NoughtSums$Text" "length" "I") (by decide +kernel)) (fun _ h9 => h9) rfl (by decide +kernel) rfl rfl (Nat.le_of_ble_eq_true rfl) dX1_init_15 (fun H locs hP hD hS => ?_)
  have hP : va_P D vwCl [(h0, .inr (1, [.ref q8, .int (0 : Int32), .int 0, .int 0, .int 0, .int 0, .int 0, .null, .null, .null, .null])), (q8, .inl (c8, 400, .inl (fun _ => 0)))] H := hP
  have hD : va_D A [(h0, .inr (1, [.ref q8, .int (0 : Int32), .int 0, .int 0, .int 0, .int 0, .int 0, .null, .null, .null, .null])), (q8, .inl (c8, 400, .inl (fun _ => 0)))] := hD
  refine lv_aload_n hx hb dX1_init_18 rfl (lv_at hl 0 rfl) ?_
  refine lv_iconst (v := 0) hx hb dX1_init_19 (by decide) ?_
  refine va_put (D := D) (ci := 1) (v := .int (0 : Int32)) (ty := .int) (C := RX1) (T := TX1) (N := 11) hx hb hts hiX1 tyX1 tyX1_ok nmX1 hown hK hP hD hS 0 rfl rfl 2 (by decide) (hts (.fieldLink RX1 19 "NoughtSums$Text" "place" "I") (by decide +kernel)) (fun _ h9 => h9) rfl (by decide +kernel) rfl rfl (Nat.le_of_ble_eq_true rfl) dX1_init_20 (fun H locs hP hD hS => ?_)
  have hP : va_P D vwCl [(h0, .inr (1, [.ref q8, .int (0 : Int32), .int (0 : Int32), .int 0, .int 0, .int 0, .int 0, .null, .null, .null, .null])), (q8, .inl (c8, 400, .inl (fun _ => 0)))] H := hP
  have hD : va_D A [(h0, .inr (1, [.ref q8, .int (0 : Int32), .int (0 : Int32), .int 0, .int 0, .int 0, .int 0, .null, .null, .null, .null])), (q8, .inl (c8, 400, .inl (fun _ => 0)))] := hD
  refine lv_aload_n hx hb dX1_init_23 rfl (lv_at hl 0 rfl) ?_
  refine lv_iconst (v := 0) hx hb dX1_init_24 (by decide) ?_
  refine va_put (D := D) (ci := 1) (v := .int (0 : Int32)) (ty := .int) (C := RX1) (T := TX1) (N := 11) hx hb hts hiX1 tyX1 tyX1_ok nmX1 hown hK hP hD hS 0 rfl rfl 3 (by decide) (hts (.fieldLink RX1 22 "NoughtSums$Text" "start" "I") (by decide +kernel)) (fun _ h9 => h9) rfl (by decide +kernel) rfl rfl (Nat.le_of_ble_eq_true rfl) dX1_init_25 (fun H locs hP hD hS => ?_)
  have hP : va_P D vwCl [(h0, .inr (1, [.ref q8, .int (0 : Int32), .int (0 : Int32), .int (0 : Int32), .int 0, .int 0, .int 0, .null, .null, .null, .null])), (q8, .inl (c8, 400, .inl (fun _ => 0)))] H := hP
  have hD : va_D A [(h0, .inr (1, [.ref q8, .int (0 : Int32), .int (0 : Int32), .int (0 : Int32), .int 0, .int 0, .int 0, .null, .null, .null, .null])), (q8, .inl (c8, 400, .inl (fun _ => 0)))] := hD
  refine lv_aload_n hx hb dX1_init_28 rfl (lv_at hl 0 rfl) ?_
  refine lv_bipush (v := 9) hx hb dX1_init_29 (by decide) ?_
  refine va_put (D := D) (ci := 1) (v := .int (9 : Int32)) (ty := .int) (C := RX1) (T := TX1) (N := 11) hx hb hts hiX1 tyX1 tyX1_ok nmX1 hown hK hP hD hS 0 rfl rfl 4 (by decide) (hts (.fieldLink RX1 25 "NoughtSums$Text" "token" "I") (by decide +kernel)) (fun _ h9 => h9) rfl (by decide +kernel) rfl rfl (Nat.le_of_ble_eq_true rfl) dX1_init_31 (fun H locs hP hD hS => ?_)
  have hP : va_P D vwCl [(h0, .inr (1, [.ref q8, .int (0 : Int32), .int (0 : Int32), .int (0 : Int32), .int (9 : Int32), .int 0, .int 0, .null, .null, .null, .null])), (q8, .inl (c8, 400, .inl (fun _ => 0)))] H := hP
  have hD : va_D A [(h0, .inr (1, [.ref q8, .int (0 : Int32), .int (0 : Int32), .int (0 : Int32), .int (9 : Int32), .int 0, .int 0, .null, .null, .null, .null])), (q8, .inl (c8, 400, .inl (fun _ => 0)))] := hD
  refine lv_aload_n hx hb dX1_init_34 rfl (lv_at hl 0 rfl) ?_
  refine lv_iconst (v := 0) hx hb dX1_init_35 (by decide) ?_
  refine va_put (D := D) (ci := 1) (v := .int (0 : Int32)) (ty := .int) (C := RX1) (T := TX1) (N := 11) hx hb hts hiX1 tyX1 tyX1_ok nmX1 hown hK hP hD hS 0 rfl rfl 5 (by decide) (hts (.fieldLink RX1 28 "NoughtSums$Text" "meaning" "I") (by decide +kernel)) (fun _ h9 => h9) rfl (by decide +kernel) rfl rfl (Nat.le_of_ble_eq_true rfl) dX1_init_36 (fun H locs hP hD hS => ?_)
  have hP : va_P D vwCl [(h0, .inr (1, [.ref q8, .int (0 : Int32), .int (0 : Int32), .int (0 : Int32), .int (9 : Int32), .int (0 : Int32), .int 0, .null, .null, .null, .null])), (q8, .inl (c8, 400, .inl (fun _ => 0)))] H := hP
  have hD : va_D A [(h0, .inr (1, [.ref q8, .int (0 : Int32), .int (0 : Int32), .int (0 : Int32), .int (9 : Int32), .int (0 : Int32), .int 0, .null, .null, .null, .null])), (q8, .inl (c8, 400, .inl (fun _ => 0)))] := hD
  refine lv_aload_n hx hb dX1_init_39 rfl (lv_at hl 0 rfl) ?_
  refine lv_iconst (v := 0) hx hb dX1_init_40 (by decide) ?_
  refine va_put (D := D) (ci := 1) (v := .int (0 : Int32)) (ty := .int) (C := RX1) (T := TX1) (N := 11) hx hb hts hiX1 tyX1 tyX1_ok nmX1 hown hK hP hD hS 0 rfl rfl 6 (by decide) (hts (.fieldLink RX1 31 "NoughtSums$Text" "told" "I") (by decide +kernel)) (fun _ h9 => h9) rfl (by decide +kernel) rfl rfl (Nat.le_of_ble_eq_true rfl) dX1_init_41 (fun H locs hP hD hS => ?_)
  have hP : va_P D vwCl [(h0, .inr (1, [.ref q8, .int (0 : Int32), .int (0 : Int32), .int (0 : Int32), .int (9 : Int32), .int (0 : Int32), .int (0 : Int32), .null, .null, .null, .null])), (q8, .inl (c8, 400, .inl (fun _ => 0)))] H := hP
  have hD : va_D A [(h0, .inr (1, [.ref q8, .int (0 : Int32), .int (0 : Int32), .int (0 : Int32), .int (9 : Int32), .int (0 : Int32), .int (0 : Int32), .null, .null, .null, .null])), (q8, .inl (c8, 400, .inl (fun _ => 0)))] := hD
  refine lv_aload_n hx hb dX1_init_44 rfl (lv_at hl 0 rfl) ?_
  refine lv_bipush (v := 24) hx hb dX1_init_45 (by decide) ?_
  refine va_newa (atype := .long) (N' := 24) (a0 := (24, .inr (.inl (fun _ => 0)))) hx hb (hts (.arrayClass .long) (by decide +kernel)) rfl hK hP hD hS hA (fun cA => rfl) (by decide) (by decide) (by decide) (by decide) (by decide) dX1_init_47 (fun q47 c47 H hK hP hD hS => ?_)
  have hP : va_P D vwCl [(h0, .inr (1, [.ref q8, .int (0 : Int32), .int (0 : Int32), .int (0 : Int32), .int (9 : Int32), .int (0 : Int32), .int (0 : Int32), .null, .null, .null, .null])), (q8, .inl (c8, 400, .inl (fun _ => 0))), (q47, .inl (c47, 24, .inr (.inl (fun _ => 0))))] H := hP
  have hD : va_D A [(h0, .inr (1, [.ref q8, .int (0 : Int32), .int (0 : Int32), .int (0 : Int32), .int (9 : Int32), .int (0 : Int32), .int (0 : Int32), .null, .null, .null, .null])), (q8, .inl (c8, 400, .inl (fun _ => 0))), (q47, .inl (c47, 24, .inr (.inl (fun _ => 0))))] := hD
  have hK : va_K D vwCl [(c8, .int), (c47, .long)] s := hK
  refine va_putF (D := D) (ci := 1) (v := .ref q47) (ty := .array .long) (C := RX1) (T := TX1) (N := 11) hx hb hts hiX1 tyX1 tyX1_ok nmX1 hown hK hP hD hS 0 rfl rfl 7 (by decide) (hts (.fieldLink RX1 34 "NoughtSums$Text" "sums" "[J") (by decide +kernel)) (fun _ h9 => h9) rfl hin rfl (by decide +kernel) rfl rfl (Nat.le_of_ble_eq_true rfl) dX1_init_49 (fun H locs hP hD hS => ?_)
  have hP : va_P D vwCl [(h0, .inr (1, [.ref q8, .int (0 : Int32), .int (0 : Int32), .int (0 : Int32), .int (9 : Int32), .int (0 : Int32), .int (0 : Int32), .ref q47, .null, .null, .null])), (q8, .inl (c8, 400, .inl (fun _ => 0))), (q47, .inl (c47, 24, .inr (.inl (fun _ => 0))))] H := hP
  have hD : va_D A [(h0, .inr (1, [.ref q8, .int (0 : Int32), .int (0 : Int32), .int (0 : Int32), .int (9 : Int32), .int (0 : Int32), .int (0 : Int32), .ref q47, .null, .null, .null])), (q8, .inl (c8, 400, .inl (fun _ => 0))), (q47, .inl (c47, 24, .inr (.inl (fun _ => 0))))] := hD
  refine lv_aload_n hx hb dX1_init_52 rfl (lv_at hl 0 rfl) ?_
  refine lv_bipush (v := 24) hx hb dX1_init_53 (by decide) ?_
  refine va_newa (atype := .int) (N' := 24) (a0 := (24, .inl (fun _ => 0))) hx hb (hts (.arrayClass .int) (by decide +kernel)) rfl hK hP hD hS hA (fun cA => rfl) (by decide) (by decide) (by decide) (by decide) (by decide) dX1_init_55 (fun q55 c55 H hK hP hD hS => ?_)
  have hP : va_P D vwCl [(h0, .inr (1, [.ref q8, .int (0 : Int32), .int (0 : Int32), .int (0 : Int32), .int (9 : Int32), .int (0 : Int32), .int (0 : Int32), .ref q47, .null, .null, .null])), (q8, .inl (c8, 400, .inl (fun _ => 0))), (q47, .inl (c47, 24, .inr (.inl (fun _ => 0)))), (q55, .inl (c55, 24, .inl (fun _ => 0)))] H := hP
  have hD : va_D A [(h0, .inr (1, [.ref q8, .int (0 : Int32), .int (0 : Int32), .int (0 : Int32), .int (9 : Int32), .int (0 : Int32), .int (0 : Int32), .ref q47, .null, .null, .null])), (q8, .inl (c8, 400, .inl (fun _ => 0))), (q47, .inl (c47, 24, .inr (.inl (fun _ => 0)))), (q55, .inl (c55, 24, .inl (fun _ => 0)))] := hD
  have hK : va_K D vwCl [(c8, .int), (c47, .long), (c55, .int)] s := hK
  refine va_putF (D := D) (ci := 1) (v := .ref q55) (ty := .array .int) (C := RX1) (T := TX1) (N := 11) hx hb hts hiX1 tyX1 tyX1_ok nmX1 hown hK hP hD hS 0 rfl rfl 8 (by decide) (hts (.fieldLink RX1 38 "NoughtSums$Text" "ops" "[I") (by decide +kernel)) (fun _ h9 => h9) rfl hin rfl (by decide +kernel) rfl rfl (Nat.le_of_ble_eq_true rfl) dX1_init_57 (fun H locs hP hD hS => ?_)
  have hP : va_P D vwCl [(h0, .inr (1, [.ref q8, .int (0 : Int32), .int (0 : Int32), .int (0 : Int32), .int (9 : Int32), .int (0 : Int32), .int (0 : Int32), .ref q47, .ref q55, .null, .null])), (q8, .inl (c8, 400, .inl (fun _ => 0))), (q47, .inl (c47, 24, .inr (.inl (fun _ => 0)))), (q55, .inl (c55, 24, .inl (fun _ => 0)))] H := hP
  have hD : va_D A [(h0, .inr (1, [.ref q8, .int (0 : Int32), .int (0 : Int32), .int (0 : Int32), .int (9 : Int32), .int (0 : Int32), .int (0 : Int32), .ref q47, .ref q55, .null, .null])), (q8, .inl (c8, 400, .inl (fun _ => 0))), (q47, .inl (c47, 24, .inr (.inl (fun _ => 0)))), (q55, .inl (c55, 24, .inl (fun _ => 0)))] := hD
  refine lv_aload_n hx hb dX1_init_60 rfl (lv_at hl 0 rfl) ?_
  refine lv_bipush (v := 24) hx hb dX1_init_61 (by decide) ?_
  refine va_newa (atype := .int) (N' := 24) (a0 := (24, .inl (fun _ => 0))) hx hb (hts (.arrayClass .int) (by decide +kernel)) rfl hK hP hD hS hA (fun cA => rfl) (by decide) (by decide) (by decide) (by decide) (by decide) dX1_init_63 (fun q63 c63 H hK hP hD hS => ?_)
  have hP : va_P D vwCl [(h0, .inr (1, [.ref q8, .int (0 : Int32), .int (0 : Int32), .int (0 : Int32), .int (9 : Int32), .int (0 : Int32), .int (0 : Int32), .ref q47, .ref q55, .null, .null])), (q8, .inl (c8, 400, .inl (fun _ => 0))), (q47, .inl (c47, 24, .inr (.inl (fun _ => 0)))), (q55, .inl (c55, 24, .inl (fun _ => 0))), (q63, .inl (c63, 24, .inl (fun _ => 0)))] H := hP
  have hD : va_D A [(h0, .inr (1, [.ref q8, .int (0 : Int32), .int (0 : Int32), .int (0 : Int32), .int (9 : Int32), .int (0 : Int32), .int (0 : Int32), .ref q47, .ref q55, .null, .null])), (q8, .inl (c8, 400, .inl (fun _ => 0))), (q47, .inl (c47, 24, .inr (.inl (fun _ => 0)))), (q55, .inl (c55, 24, .inl (fun _ => 0))), (q63, .inl (c63, 24, .inl (fun _ => 0)))] := hD
  have hK : va_K D vwCl [(c8, .int), (c47, .long), (c55, .int), (c63, .int)] s := hK
  refine va_putF (D := D) (ci := 1) (v := .ref q63) (ty := .array .int) (C := RX1) (T := TX1) (N := 11) hx hb hts hiX1 tyX1 tyX1_ok nmX1 hown hK hP hD hS 0 rfl rfl 9 (by decide) (hts (.fieldLink RX1 41 "NoughtSums$Text" "firsts" "[I") (by decide +kernel)) (fun _ h9 => h9) rfl hin rfl (by decide +kernel) rfl rfl (Nat.le_of_ble_eq_true rfl) dX1_init_65 (fun H locs hP hD hS => ?_)
  have hP : va_P D vwCl [(h0, .inr (1, [.ref q8, .int (0 : Int32), .int (0 : Int32), .int (0 : Int32), .int (9 : Int32), .int (0 : Int32), .int (0 : Int32), .ref q47, .ref q55, .ref q63, .null])), (q8, .inl (c8, 400, .inl (fun _ => 0))), (q47, .inl (c47, 24, .inr (.inl (fun _ => 0)))), (q55, .inl (c55, 24, .inl (fun _ => 0))), (q63, .inl (c63, 24, .inl (fun _ => 0)))] H := hP
  have hD : va_D A [(h0, .inr (1, [.ref q8, .int (0 : Int32), .int (0 : Int32), .int (0 : Int32), .int (9 : Int32), .int (0 : Int32), .int (0 : Int32), .ref q47, .ref q55, .ref q63, .null])), (q8, .inl (c8, 400, .inl (fun _ => 0))), (q47, .inl (c47, 24, .inr (.inl (fun _ => 0)))), (q55, .inl (c55, 24, .inl (fun _ => 0))), (q63, .inl (c63, 24, .inl (fun _ => 0)))] := hD
  refine lv_aload_n hx hb dX1_init_68 rfl (lv_at hl 0 rfl) ?_
  refine lv_bipush (v := 24) hx hb dX1_init_69 (by decide) ?_
  refine va_newa (atype := .int) (N' := 24) (a0 := (24, .inl (fun _ => 0))) hx hb (hts (.arrayClass .int) (by decide +kernel)) rfl hK hP hD hS hA (fun cA => rfl) (by decide) (by decide) (by decide) (by decide) (by decide) dX1_init_71 (fun q71 c71 H hK hP hD hS => ?_)
  have hP : va_P D vwCl [(h0, .inr (1, [.ref q8, .int (0 : Int32), .int (0 : Int32), .int (0 : Int32), .int (9 : Int32), .int (0 : Int32), .int (0 : Int32), .ref q47, .ref q55, .ref q63, .null])), (q8, .inl (c8, 400, .inl (fun _ => 0))), (q47, .inl (c47, 24, .inr (.inl (fun _ => 0)))), (q55, .inl (c55, 24, .inl (fun _ => 0))), (q63, .inl (c63, 24, .inl (fun _ => 0))), (q71, .inl (c71, 24, .inl (fun _ => 0)))] H := hP
  have hD : va_D A [(h0, .inr (1, [.ref q8, .int (0 : Int32), .int (0 : Int32), .int (0 : Int32), .int (9 : Int32), .int (0 : Int32), .int (0 : Int32), .ref q47, .ref q55, .ref q63, .null])), (q8, .inl (c8, 400, .inl (fun _ => 0))), (q47, .inl (c47, 24, .inr (.inl (fun _ => 0)))), (q55, .inl (c55, 24, .inl (fun _ => 0))), (q63, .inl (c63, 24, .inl (fun _ => 0))), (q71, .inl (c71, 24, .inl (fun _ => 0)))] := hD
  have hK : va_K D vwCl [(c8, .int), (c47, .long), (c55, .int), (c63, .int), (c71, .int)] s := hK
  refine va_putF (D := D) (ci := 1) (v := .ref q71) (ty := .array .int) (C := RX1) (T := TX1) (N := 11) hx hb hts hiX1 tyX1 tyX1_ok nmX1 hown hK hP hD hS 0 rfl rfl 10 (by decide) (hts (.fieldLink RX1 44 "NoughtSums$Text" "seconds" "[I") (by decide +kernel)) (fun _ h9 => h9) rfl hin rfl (by decide +kernel) rfl rfl (Nat.le_of_ble_eq_true rfl) dX1_init_73 (fun H locs hP hD hS => ?_)
  have hP : va_P D vwCl [(h0, .inr (1, [.ref q8, .int (0 : Int32), .int (0 : Int32), .int (0 : Int32), .int (9 : Int32), .int (0 : Int32), .int (0 : Int32), .ref q47, .ref q55, .ref q63, .ref q71])), (q8, .inl (c8, 400, .inl (fun _ => 0))), (q47, .inl (c47, 24, .inr (.inl (fun _ => 0)))), (q55, .inl (c55, 24, .inl (fun _ => 0))), (q63, .inl (c63, 24, .inl (fun _ => 0))), (q71, .inl (c71, 24, .inl (fun _ => 0)))] H := hP
  have hD : va_D A [(h0, .inr (1, [.ref q8, .int (0 : Int32), .int (0 : Int32), .int (0 : Int32), .int (9 : Int32), .int (0 : Int32), .int (0 : Int32), .ref q47, .ref q55, .ref q63, .ref q71])), (q8, .inl (c8, 400, .inl (fun _ => 0))), (q47, .inl (c47, 24, .inr (.inl (fun _ => 0)))), (q55, .inl (c55, 24, .inl (fun _ => 0))), (q63, .inl (c63, 24, .inl (fun _ => 0))), (q71, .inl (c71, 24, .inl (fun _ => 0)))] := hD
  obtain ⟨ad, had⟩ : ∃ ad : Nat → Nat, ad = fun k => ([h0, q8, q47, q55, q63, q71] : List Nat).getD k 0 := ⟨_, rfl⟩
  obtain ⟨cy, hcy⟩ : ∃ cy : Nat → ClassId, cy = fun k => ([0, c8, c47, c55, c63, c71] : List Nat).getD k 0 := ⟨_, rfl⟩
  have hP : va_P D vwCl (wT cy ad zT0) H := by rw [had, hcy]; exact hP.sub [0, 1, 2, 3, 4, 5] rfl
  have hD : va_D A (wT cy ad zT0) := by rw [had, hcy]; exact hD.sub [0, 1, 2, 3, 4, 5] (by decide) rfl
  have hK : va_K D vwCl (tT cy) s := by rw [hcy]; exact hK.sub [0, 1, 2, 3, 4] rfl
  have h0a : ad 0 = h0 := by rw [had]; rfl
  exact W.vret hx hb hr (fun t ht hW => ⟨⟨(cy, ad), rfl, trivial, h0a, by rw [ht]; exact hP, va_K.moved hW.alike hK, hD⟩, hS.F ht⟩) hS.2.2 dX1_init_76
