def zS0 : SS := ((fun _ => 0), (fun _ => 0), (fun _ => 0), (0 : Int64), (0 : Int32))
def zT0 : TS := ((fun _ => 0), (0 : Int32), (0 : Int32), (0 : Int32), (9 : Int32), (0 : Int32), (0 : Int32), (fun _ => 0), (fun _ => 0), (fun _ => 0), (fun _ => 0))
def zX0 : XS := (zT0, (fun _ => 0), (fun _ => 0), (0 : Int32), (0 : Int32), (0 : Int32), (-9 : Int32), (-1 : Int64), (0 : Int64), zS0, (0 : Int32), zS0, (0 : Int32))
def zM0 : MS := ((0 : Int32), (0 : Int64), (fun _ => 0), (fun _ => 0), (0 : Int32), (0 : Int32), (0 : Int32), (0 : Int32), (0 : Int32), (0 : Int32), (0 : Int32), (0 : Int32), (0 : Int32), (-9 : Int32), (fun _ => 0), (fun _ => 0), (fun _ => 0), (fun _ => 0), (0 : Int64), (0 : Int64), (fun _ => 0), (fun _ => 0), (0 : Int32), (0 : Int64), (fun _ => 0), (fun _ => 0), (fun _ => 0))
def zPoS (D : va_G) (h0 : Nat) (A : Nat → Prop) (u : (Nat → ClassId) × (Nat → Nat)) (t : State) : Prop := u.2 0 = h0 ∧ va_P D vwCl (wS u.1 u.2 zS0) t.heap ∧ va_K D vwCl (tS u.1) t ∧ va_D A (wS u.1 u.2 zS0)
def zPoT (D : va_G) (h0 : Nat) (A : Nat → Prop) (u : (Nat → ClassId) × (Nat → Nat)) (t : State) : Prop := u.2 0 = h0 ∧ va_P D vwCl (wT u.1 u.2 zT0) t.heap ∧ va_K D vwCl (tT u.1) t ∧ va_D A (wT u.1 u.2 zT0)
def zPoX (D : va_G) (h0 : Nat) (A : Nat → Prop) (u : (Nat → ClassId) × (Nat → Nat)) (t : State) : Prop := u.2 0 = h0 ∧ va_P D vwCl (wX u.1 u.2 zX0) t.heap ∧ va_K D vwCl (tX u.1) t ∧ va_D A (wX u.1 u.2 zX0)
def zPoM (D : va_G) (S : MS) (h0 : Nat) (A : Nat → Prop) (u : (Nat → ClassId) × (Nat → Nat)) (t : State) : Prop := u.2 0 = h0 ∧ va_P D vwCl (wM u.1 u.2 S) t.heap ∧ va_K D vwCl (tM u.1) t ∧ va_D A (wM u.1 u.2 S)
set_option maxHeartbeats 4000000 in
set_option maxRecDepth 100000 in
theorem kX0_init (l : Launch) (zq : Nat → Nat) (D : va_G) (h0 sz : Nat) : Met l yX0_init wsX0_init ({ frames := 1, cells := 3, slots := 192, locals := 12 }) (zPc zq D [] [(h0, .inr (0, [.null, .null, .null, .long 0, .int 0]))] [.ref h0] sz) (va_Qv (fun _ : (Nat → ClassId) × (Nat → Nat) => True) (zPoS D h0 (va_A [(h0, .inr (0, [.null, .null, .null, .long 0, .int 0]))] sz)) (va_A [(h0, .inr (0, [.null, .null, .null, .long 0, .int 0]))] sz)) 3 192 (va_A [(h0, .inr (0, [.null, .null, .null, .long 0, .int 0]))] sz) := by
  refine Met.ofW (cc := cX0_init) (maxL := 1) (ret := none) (by decide) rfl ?_
  intro p e s m args below meth c s₁ B hml hv
  obtain ⟨rfl, hsz, hP, hK, hD0, hX⟩ := hv
  have hx := B.exec
  have hb := B.bytes
  have hr := B.returns
  have hts := atoms_spec (ws := wsX0_init) B.pre
  have hown : s.vm.findClass RX0 = some m.cls := findClass_of_methodNamed B.named
  have hlocks := B.notSynchronized
  have hin : meth.name = "<init>" := (name_of_methodNamed B.named B.method).1
  subst hsz
  have hD := hD0.self (sz := s.heap.size)
  generalize hAe : va_A [(h0, .inr (0, [.null, .null, .null, .long 0, .int 0]))] s.heap.size = A at hD hX ⊢
  have hA : ∀ q : Nat, s.heap.size ≤ q → A q := fun q h => by rw [← hAe]; exact Or.inr h
  have hS : va_S A s.heap s.heap [] := va_S.rf
  have hl := lv_entry ([.ref h0]) (n := 1) (Nat.le_of_ble_eq_true rfl)
  rw [lg_entry_eq]
  generalize (lg_sl ([.ref h0]) ++ List.replicate (1 - (lg_sl ([.ref h0])).length) Slot.unset).toArray = ls at hl ⊢
  have hl : lv_has ls 1 [(0, .ref h0)] := hl
  have hiX0 : ∀ w ∈ wsX00, w ∈ wsX0_init := by decide +kernel
  refine lv_aload_n hx hb dX0_init_0 rfl (lv_at hl 0 rfl) ?_
  refine W.objInit hx hb hown (hts (.methodLink RX0 3 objectInit) (by decide +kernel)) (hts (.instanceMethod objectInit) (by decide +kernel)) (hts _ (List.mem_of_getElem? (l := wsX0_init) (i := 3) rfl)) rfl (by rw [hml]; exact hl.1) rfl dX0_init_1 (by decide) (Nat.le_of_ble_eq_true rfl) ?_
  refine W.eq (g2 := F0 m 4 ls []) rfl ?_
  refine lv_aload_n hx hb dX0_init_4 rfl (lv_at hl 0 rfl) ?_
  refine lv_bipush (v := 64) hx hb dX0_init_5 (by decide) ?_
  refine va_newa (atype := .long) (N' := 64) (a0 := (64, .inr (.inl (fun _ => 0)))) hx hb (hts (.arrayClass .long) (by decide +kernel)) rfl hK hP hD hS hA (fun cA => rfl) (by decide) (by decide) (by decide) (by decide) (by decide) dX0_init_7 (fun q7 c7 H hK hP hD hS => ?_)
  have hP : va_P D vwCl [(h0, .inr (0, [.null, .null, .null, .long 0, .int 0])), (q7, .inl (c7, 64, .inr (.inl (fun _ => 0))))] H := hP
  have hD : va_D A [(h0, .inr (0, [.null, .null, .null, .long 0, .int 0])), (q7, .inl (c7, 64, .inr (.inl (fun _ => 0))))] := hD
  have hK : va_K D vwCl [(c7, .long)] s := hK
  refine va_putF (D := D) (ci := 0) (v := .ref q7) (ty := .array .long) (C := RX0) (T := TX0) (N := 5) hx hb hts hiX0 tyX0 tyX0_ok nmX0 hown hK hP hD hS 0 rfl rfl 0 (by decide) (hts (.fieldLink RX0 9 "NoughtSums$Span" "rows" "[J") (by decide +kernel)) (fun _ h9 => h9) rfl hin rfl (by decide +kernel) rfl rfl (Nat.le_of_ble_eq_true rfl) dX0_init_9 (fun H locs hP hD hS => ?_)
  have hP : va_P D vwCl [(h0, .inr (0, [.ref q7, .null, .null, .long 0, .int 0])), (q7, .inl (c7, 64, .inr (.inl (fun _ => 0))))] H := hP
  have hD : va_D A [(h0, .inr (0, [.ref q7, .null, .null, .long 0, .int 0])), (q7, .inl (c7, 64, .inr (.inl (fun _ => 0))))] := hD
  refine lv_aload_n hx hb dX0_init_12 rfl (lv_at hl 0 rfl) ?_
  refine lv_bipush (v := 64) hx hb dX0_init_13 (by decide) ?_
  refine va_newa (atype := .int) (N' := 64) (a0 := (64, .inl (fun _ => 0))) hx hb (hts (.arrayClass .int) (by decide +kernel)) rfl hK hP hD hS hA (fun cA => rfl) (by decide) (by decide) (by decide) (by decide) (by decide) dX0_init_15 (fun q15 c15 H hK hP hD hS => ?_)
  have hP : va_P D vwCl [(h0, .inr (0, [.ref q7, .null, .null, .long 0, .int 0])), (q7, .inl (c7, 64, .inr (.inl (fun _ => 0)))), (q15, .inl (c15, 64, .inl (fun _ => 0)))] H := hP
  have hD : va_D A [(h0, .inr (0, [.ref q7, .null, .null, .long 0, .int 0])), (q7, .inl (c7, 64, .inr (.inl (fun _ => 0)))), (q15, .inl (c15, 64, .inl (fun _ => 0)))] := hD
  have hK : va_K D vwCl [(c7, .long), (c15, .int)] s := hK
  refine va_putF (D := D) (ci := 0) (v := .ref q15) (ty := .array .int) (C := RX0) (T := TX0) (N := 5) hx hb hts hiX0 tyX0 tyX0_ok nmX0 hown hK hP hD hS 0 rfl rfl 1 (by decide) (hts (.fieldLink RX0 15 "NoughtSums$Span" "levels" "[I") (by decide +kernel)) (fun _ h9 => h9) rfl hin rfl (by decide +kernel) rfl rfl (Nat.le_of_ble_eq_true rfl) dX0_init_17 (fun H locs hP hD hS => ?_)
  have hP : va_P D vwCl [(h0, .inr (0, [.ref q7, .ref q15, .null, .long 0, .int 0])), (q7, .inl (c7, 64, .inr (.inl (fun _ => 0)))), (q15, .inl (c15, 64, .inl (fun _ => 0)))] H := hP
  have hD : va_D A [(h0, .inr (0, [.ref q7, .ref q15, .null, .long 0, .int 0])), (q7, .inl (c7, 64, .inr (.inl (fun _ => 0)))), (q15, .inl (c15, 64, .inl (fun _ => 0)))] := hD
  refine lv_aload_n hx hb dX0_init_20 rfl (lv_at hl 0 rfl) ?_
  refine lv_bipush (v := 64) hx hb dX0_init_21 (by decide) ?_
  refine va_newa (atype := .int) (N' := 64) (a0 := (64, .inl (fun _ => 0))) hx hb (hts (.arrayClass .int) (by decide +kernel)) rfl hK hP hD hS hA (fun cA => rfl) (by decide) (by decide) (by decide) (by decide) (by decide) dX0_init_23 (fun q23 c23 H hK hP hD hS => ?_)
  have hP : va_P D vwCl [(h0, .inr (0, [.ref q7, .ref q15, .null, .long 0, .int 0])), (q7, .inl (c7, 64, .inr (.inl (fun _ => 0)))), (q15, .inl (c15, 64, .inl (fun _ => 0))), (q23, .inl (c23, 64, .inl (fun _ => 0)))] H := hP
  have hD : va_D A [(h0, .inr (0, [.ref q7, .ref q15, .null, .long 0, .int 0])), (q7, .inl (c7, 64, .inr (.inl (fun _ => 0)))), (q15, .inl (c15, 64, .inl (fun _ => 0))), (q23, .inl (c23, 64, .inl (fun _ => 0)))] := hD
  have hK : va_K D vwCl [(c7, .long), (c15, .int), (c23, .int)] s := hK
  refine va_putF (D := D) (ci := 0) (v := .ref q23) (ty := .array .int) (C := RX0) (T := TX0) (N := 5) hx hb hts hiX0 tyX0 tyX0_ok nmX0 hown hK hP hD hS 0 rfl rfl 2 (by decide) (hts (.fieldLink RX0 19 "NoughtSums$Span" "came" "[I") (by decide +kernel)) (fun _ h9 => h9) rfl hin rfl (by decide +kernel) rfl rfl (Nat.le_of_ble_eq_true rfl) dX0_init_25 (fun H locs hP hD hS => ?_)
  have hP : va_P D vwCl [(h0, .inr (0, [.ref q7, .ref q15, .ref q23, .long 0, .int 0])), (q7, .inl (c7, 64, .inr (.inl (fun _ => 0)))), (q15, .inl (c15, 64, .inl (fun _ => 0))), (q23, .inl (c23, 64, .inl (fun _ => 0)))] H := hP
  have hD : va_D A [(h0, .inr (0, [.ref q7, .ref q15, .ref q23, .long 0, .int 0])), (q7, .inl (c7, 64, .inr (.inl (fun _ => 0)))), (q15, .inl (c15, 64, .inl (fun _ => 0))), (q23, .inl (c23, 64, .inl (fun _ => 0)))] := hD
  refine lv_aload_n hx hb dX0_init_28 rfl (lv_at hl 0 rfl) ?_
  refine lv_lconst (v := 0) hx hb dX0_init_29 (by decide) ?_
  refine va_put (D := D) (ci := 0) (v := .long (0 : Int64)) (ty := .long) (C := RX0) (T := TX0) (N := 5) hx hb hts hiX0 tyX0 tyX0_ok nmX0 hown hK hP hD hS 0 rfl rfl 3 (by decide) (hts (.fieldLink RX0 22 "NoughtSums$Span" "leads" "J") (by decide +kernel)) (fun _ h9 => h9) rfl (by decide +kernel) rfl rfl (Nat.le_of_ble_eq_true rfl) dX0_init_30 (fun H locs hP hD hS => ?_)
  have hP : va_P D vwCl [(h0, .inr (0, [.ref q7, .ref q15, .ref q23, .long (0 : Int64), .int 0])), (q7, .inl (c7, 64, .inr (.inl (fun _ => 0)))), (q15, .inl (c15, 64, .inl (fun _ => 0))), (q23, .inl (c23, 64, .inl (fun _ => 0)))] H := hP
  have hD : va_D A [(h0, .inr (0, [.ref q7, .ref q15, .ref q23, .long (0 : Int64), .int 0])), (q7, .inl (c7, 64, .inr (.inl (fun _ => 0)))), (q15, .inl (c15, 64, .inl (fun _ => 0))), (q23, .inl (c23, 64, .inl (fun _ => 0)))] := hD
  refine lv_aload_n hx hb dX0_init_33 rfl (lv_at hl 0 rfl) ?_
  refine lv_iconst (v := 0) hx hb dX0_init_34 (by decide) ?_
  refine va_put (D := D) (ci := 0) (v := .int (0 : Int32)) (ty := .int) (C := RX0) (T := TX0) (N := 5) hx hb hts hiX0 tyX0 tyX0_ok nmX0 hown hK hP hD hS 0 rfl rfl 4 (by decide) (hts (.fieldLink RX0 26 "NoughtSums$Span" "size" "I") (by decide +kernel)) (fun _ h9 => h9) rfl (by decide +kernel) rfl rfl (Nat.le_of_ble_eq_true rfl) dX0_init_35 (fun H locs hP hD hS => ?_)
  have hP : va_P D vwCl [(h0, .inr (0, [.ref q7, .ref q15, .ref q23, .long (0 : Int64), .int (0 : Int32)])), (q7, .inl (c7, 64, .inr (.inl (fun _ => 0)))), (q15, .inl (c15, 64, .inl (fun _ => 0))), (q23, .inl (c23, 64, .inl (fun _ => 0)))] H := hP
  have hD : va_D A [(h0, .inr (0, [.ref q7, .ref q15, .ref q23, .long (0 : Int64), .int (0 : Int32)])), (q7, .inl (c7, 64, .inr (.inl (fun _ => 0)))), (q15, .inl (c15, 64, .inl (fun _ => 0))), (q23, .inl (c23, 64, .inl (fun _ => 0)))] := hD
  obtain ⟨ad, had⟩ : ∃ ad : Nat → Nat, ad = fun k => ([h0, q7, q15, q23] : List Nat).getD k 0 := ⟨_, rfl⟩
  obtain ⟨cy, hcy⟩ : ∃ cy : Nat → ClassId, cy = fun k => ([0, c7, c15, c23] : List Nat).getD k 0 := ⟨_, rfl⟩
  have hP : va_P D vwCl (wS cy ad zS0) H := by rw [had, hcy]; exact hP.sub [0, 1, 2, 3] rfl
  have hD : va_D A (wS cy ad zS0) := by rw [had, hcy]; exact hD.sub [0, 1, 2, 3] (by decide) rfl
  have hK : va_K D vwCl (tS cy) s := by rw [hcy]; exact hK.sub [0, 1, 2] rfl
  have h0a : ad 0 = h0 := by rw [had]; rfl
  exact W.vret hx hb hr (fun t ht hW => ⟨⟨(cy, ad), rfl, trivial, h0a, by rw [ht]; exact hP, va_K.moved hW.alike hK, hD⟩, hS.F ht⟩) hS.2.2 dX0_init_38
