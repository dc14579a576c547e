/-! ===== held worlds: contracts whose end is told outright; calls in one row ===== -/
def zOrdL : List Int32 := [0, 1, 2, 4, 8, 16, 32, 3, 5, 6, 9, 10, 12, 17, 18, 20, 24, 33, 34, 36, 40, 48, 7, 11, 13, 14, 19, 21, 22, 25, 26, 28, 35, 37, 38, 41, 42, 44, 49, 50, 52, 56, 15, 23, 27, 29, 30, 39, 43, 45, 46, 51, 53, 54, 57, 58, 60, 31, 47, 55, 59, 61, 62, 63]
def zOrd (j : Nat) : Int32 := zOrdL.getD j 0
def zHasL : List Int64 := [-6148914691236517206, -3689348814741910324, -1085102592571150096, -71777214294589696, -281470681808896, -4294967296]
def zHas (j : Nat) : Int64 := zHasL.getD j 0
def zSL : List Nat := [3, 2, 5, 5]
def zSB : List (List Int32) := [[97, 100, 100], [98, 121], [116, 105, 109, 101, 115], [99, 108, 97, 105, 109]]
def zG {α : Type} (c : Prop) [Decidable c] (k : Option α) : Option α := if c then k else none
theorem zG_s {α : Type} {c : Prop} [Decidable c] {k : Option α} {x : α} (h : zG c k = some x) : c ∧ k = some x := by
  unfold zG at h
  by_cases hc : c
  · rw [if_pos hc] at h; exact ⟨hc, h⟩
  · rw [if_neg hc] at h; cases h
theorem zG_t {α : Type} {c : Prop} [Decidable c] {k : Option α} (h : c) : zG c k = k := if_pos h
theorem zIt {α : Type} {c : Prop} [Decidable c] {a b x : α} (h : c) (hf : (if c then a else b) = x) : a = x := by rw [if_pos h] at hf; exact hf
theorem zIf {α : Type} {c : Prop} [Decidable c] {a b x : α} (h : ¬ c) (hf : (if c then a else b) = x) : b = x := by rw [if_neg h] at hf; exact hf
def zB1 {α γ : Type} (o : Option α) (k : α → Option γ) : Option γ := match o with
  | some a => k a
  | none => none
def zB2 {α β γ : Type} (o : Option (α × β)) (k : α → β → Option γ) : Option γ := match o with
  | some (a, b) => k a b
  | none => none
theorem zB1_s {α γ : Type} {o : Option α} {k : α → Option γ} {x : γ} (h : zB1 o k = some x) : ∃ a, o = some a ∧ k a = some x := by
  cases o with
  | none => cases h
  | some a => exact ⟨a, rfl, h⟩
theorem zB2_s {α β γ : Type} {o : Option (α × β)} {k : α → β → Option γ} {x : γ} (h : zB2 o k = some x) : ∃ a b, o = some (a, b) ∧ k a b = some x := by
  cases o with
  | none => cases h
  | some a => exact ⟨a.1, a.2, rfl, h⟩
theorem zB1_t {α γ : Type} {o : Option α} {k : α → Option γ} {a : α} (h : o = some a) : zB1 o k = k a := by rw [h]; rfl
theorem zB2_t {α β γ : Type} {o : Option (α × β)} {k : α → β → Option γ} {a : α} {b : β} (h : o = some (a, b)) : zB2 o k = k a b := by rw [h]; rfl
def zF : Nat := 1000
theorem z_fm {α β : Type} (f : α → Option β) : ∀ (l : List α) (w : List β), l.map f = w.map some → l.filterMap f = w
  | [], [], _ => rfl
  | [], _ :: _, h => by cases h
  | _ :: _, [], h => by cases h
  | a :: l, b :: w, h => by
    rw [List.map_cons, List.map_cons] at h
    injection h with h1 h2
    rw [List.filterMap_cons_some h1, z_fm f l w h2]
theorem z_rng {α : Type} (w : List α) : (List.range w.length).map (fun i => w[i]?) = w.map some := by
  apply List.ext_getElem?
  intro i
  rw [List.getElem?_map, List.getElem?_map]
  rcases Nat.lt_or_ge i w.length with h | h
  · rw [List.getElem?_range h, List.getElem?_eq_getElem h]; simp [List.getElem?_eq_getElem h]
  · rw [List.getElem?_eq_none (by simpa using h), List.getElem?_eq_none h]; rfl
theorem zNarB {v : Int32} (h : v = 0 ∨ v = 1) : narrow .boolean (.int v) = .int v := by rcases h with rfl | rfl <;> rfl
theorem zFitB {v : Int32} (h : v = 0 ∨ v = 1) : fits .boolean (.int v) = true := by rcases h with rfl | rfl <;> rfl
section ZKIT
variable {p : Program} {l : Launch} {e : Env} {R : Room} {s : State} {m : MethodId} {args : Array Value} {below : List Frame} {meth : Method} {c : Code} {H : Heap} {locs : List Loc} {cells slots : Nat} {Q : State → Prop}
variable {cc : ByteArray} {pc nL : Nat} {ret : Option FieldType} {own : String} {Ts : List Cond} {ls : Array Slot} {rest : List Value} {A : Nat → Prop} {D : va_G} {tys : List (ClassId × FieldType)} {w w2 : va_W} {zq : Nat → Nat}
def zSt (zq : Nat → Nat) (U : State) : Prop := vk_R RX1 99 "add" (zq 2) U ∧ vk_R RX1 105 "by" (zq 3) U ∧ vk_R RX1 107 "times" (zq 4) U ∧ vk_R RX1 109 "claim" (zq 5) U ∧ va_Nw (.fieldLinkNest RX0 30 RX2 "ORDER" "[I" RX2) U ∧ va_Nw (.methodLinkNest RX0 33 yX2_hasBit RX2) U ∧ va_Nw (.methodLinkNest RX2 11 yX1_init RX2) U ∧ va_Nw (.methodLinkNest RX2 47 yX0_init RX2) U
def zHp (zq : Nat → Nat) (A : Nat → Prop) (U : State) (H : Heap) : Prop := va_Z RX2 "ORDER" "[I" (.ref (zq 0)) A U H ∧ va_T .int (zq 0) 64 (fun j => .int (zOrd j)) A U H ∧ va_Z RX2 "HAS_LETTER" "[J" (.ref (zq 1)) A U H ∧ va_T .long (zq 1) 6 (fun j => .long (zHas j)) A U H ∧ vk_S 4 zSL zSB (fun i => zq (2 + i)) (fun i => zq (6 + i)) A U H ∧ va_Z "java/lang/String" "COMPACT_STRINGS" "Z" (.int 1) A U H ∧ ∃ v : Value, v.category = 1 ∧ va_Z "jdk/internal/util/Preconditions" "SIOOBE_FORMATTER" "Ljava/util/function/BiFunction;" v A U H
def zX (zq : Nat → Nat) (A : Nat → Prop) (U : State) : Prop := zSt zq U ∧ zHp zq A U U.heap
theorem zX.call {B : Nat → Prop} {U : State} (h : zX zq A s) (hS : va_S A s.heap H locs) (hU : U.heap = H) (hW : s.WarmedH U.vm) (hAB : ∀ q, B q → A q) : zX zq B U := by
  obtain ⟨⟨a1, a2, a3, a4, a5, a6, a7, a8⟩, b1, b2, b3, b4, b5, b6, bv, bc, b7⟩ := h
  subst hU
  have hq : ∀ a : Nat, a < s.heap.size → ¬ A a → U.heap[a]? = s.heap[a]? := fun a h1 h2 => hS.2.1 a h1 h2
  exact ⟨⟨a1.warm hW, a2.warm hW, a3.warm hW, a4.warm hW, va_Nw.warmF hW a5, va_Nw.warmM hW a6, va_Nw.warmM hW a7, va_Nw.warmM hW a8⟩, ((b1.kept hq).moved hW.alike).narrow hAB, ((b2.kept hq).moved hW.alike).narrow hAB, ((b3.kept hq).moved hW.alike).narrow hAB, ((b4.kept hq).moved hW.alike).narrow hAB, ((b5.kept hq).moved hW.alike).narrow hAB, ((b6.kept hq).moved hW.alike).narrow hAB, bv, bc, ((b7.kept hq).moved hW.alike).narrow hAB⟩
theorem zX.blind {U : State} {g : JFrame} {mk : MethodId} {a : Array Value} (h : zX zq A U) : zX zq A (U.calling g mk a) := by
  obtain ⟨⟨a1, a2, a3, a4, a5, a6, a7, a8⟩, b1, b2, b3, b4, b5, b6, bv, bc, b7⟩ := h
  have hv : (U.calling g mk a).vm = U.vm := rfl
  have hm : U.vm.Alike (U.calling g mk a).vm := Vm.Alike.refl U.vm
  exact ⟨⟨a1.same hv, a2.same hv, a3.same hv, a4.same hv, va_Nw.same rfl hv.symm a5, va_Nw.same rfl hv.symm a6, va_Nw.same rfl hv.symm a7, va_Nw.same rfl hv.symm a8⟩, va_Z.moved hm b1, va_T.moved hm b2, va_Z.moved hm b3, va_T.moved hm b4, vk_S.moved hm b5, va_Z.moved hm b6, bv, bc, va_Z.moved hm b7⟩
def zI (D : va_G) (A : Nat → Prop) (s : State) (H : Heap) (locs : List Loc) (w : va_W) : Prop := va_P D vwCl w H ∧ va_D A w ∧ va_S A s.heap H locs
def zQ (D : va_G) (tys : List (ClassId × FieldType)) (w' : va_W) (r : Option Value) (A : Nat → Prop) : Array Value → State → Outcome → State → Prop := fun _ st oc t => (oc = .returned r ∧ va_P D vwCl w' t.heap ∧ va_K D vwCl tys t ∧ va_D A w') ∧ va_F A st t
def zPc (zq : Nat → Nat) (D : va_G) (tys : List (ClassId × FieldType)) (w : va_W) (av : List Value) (sz : Nat) : Array Value → State → Prop := va_Pc av (fun U => U.heap.size = sz ∧ va_P D vwCl w U.heap ∧ va_K D vwCl tys U ∧ va_D (fun _ => True) w ∧ zX zq (va_A w sz) U)
def zMet (l : Launch) (y : MethodName) (ws : List Cond) (fr lo : Nat) (zq : Nat → Nat) (D : va_G) (tys : List (ClassId × FieldType)) (w : va_W) (av : List Value) (r : Option Value) (w' : va_W) : Prop :=
  ∀ sz, Met l y ws { frames := fr, cells := 0, slots := 0, locals := lo } (zPc zq D tys w av sz) (zQ D tys w' r (va_A w sz)) 0 0 (va_A w sz)
def zC (p : Program) (s : State) (m : MethodId) (args : Array Value) (meth : Method) (c : Code) (cc : ByteArray) (nL : Nat) (ret : Option FieldType) (own : String) (Ts : List Cond) (D : va_G) (tys : List (ClassId × FieldType)) (zq : Nat → Nat) (A : Nat → Prop) : Prop :=
  p.tables.exec = Jvm.exec ∧ c.code = cc ∧ c.maxLocals = nL ∧ s.vm.findClass own = some m.cls ∧ (∀ w ∈ Ts, w.before args s = true) ∧ meth.sig.returnType = ret ∧ meth.locks = false ∧ va_K D vwCl tys s ∧ zX zq A s ∧ (∀ q, s.heap.size ≤ q → A q)
theorem zMet.of {y : MethodName} {ws ws' : List Cond} {fr lo : Nat} {av : List Value} {r : Option Value} {w' : va_W} (cc : ByteArray) (nL : Nat) (ret : Option FieldType) (hy : plainName y.cls = true) (hw : ws = Cond.code y cc nL ret :: ws') (hn : (lg_sl av).length ≤ nL)
    (body : ∀ (p : Program) (e : Env) (s : State) (m : MethodId) (args : Array Value) (below : List Frame) (meth : Method) (c : Code) (A : Nat → Prop) (ls : Array Slot), zC p s m args meth c cc nL ret y.cls ws D tys zq A → lv_has ls nL (lv_args 0 av) → zI D A s s.heap [] w →
      W p l e { frames := fr, cells := 0, slots := 0, locals := lo } s m args below meth c s.heap [] 0 0 (MQ below (zQ D tys w' r A) args s 0 0 A) (F0 m 0 ls [])) : zMet l y ws fr lo zq D tys w av r w' := by
  intro sz
  refine Met.ofW (cc := cc) (maxL := nL) (ret := ret) hy hw ?_
  intro p e s m args below meth c s₁ B hml hv
  obtain ⟨rfl, hsz, hP, hK, hD0, hX⟩ := hv
  subst hsz
  have hD := hD0.self (sz := s.heap.size)
  have hl := lv_entry av (n := nL) hn
  rw [lg_entry_eq]
  exact body p e s m _ below meth c _ _ ⟨B.exec, B.bytes, hml, findClass_of_methodNamed B.named, atoms_spec (ws := ws) B.pre, B.returns, B.notSynchronized, hK, hX, fun q h => Or.inr h⟩ hl ⟨hP, hD, va_S.rf⟩
theorem z_iret {v : Int32} {r : Option Value} (C : zC p s m args meth c cc nL (some .int) own Ts D tys zq A) (hI : zI D A s H locs w) (hr : r = some (.int v)) (hdg : decode cc pc = .ok (.ireturn, 1)) : W p l e R s m args below meth c H locs cells slots (MQ below (zQ D tys w r A) args s cells slots A) (F0 m pc ls [.int v]) := by
  obtain ⟨hx, hb, hml, hown, hts, hret, hlk, hK, hX, hA⟩ := C
  subst hr
  exact W.iret hx hb hret (fun t ht hW => ⟨⟨rfl, by rw [ht]; exact hI.1, va_K.moved hW.alike hK, hI.2.1⟩, hI.2.2.F ht⟩) hI.2.2.2.2 hdg (hlocks := hlk)
theorem z_zret {v : Int32} {r : Option Value} {ty : FieldType} (C : zC p s m args meth c cc nL (some ty) own Ts D tys zq A) (hI : zI D A s H locs w) (hr : r = some (.int v)) (hn : narrow ty (.int v) = .int v) (hdg : decode cc pc = .ok (.ireturn, 1)) : W p l e R s m args below meth c H locs cells slots (MQ below (zQ D tys w r A) args s cells slots A) (F0 m pc ls [.int v]) := by
  obtain ⟨hx, hb, hml, hown, hts, hret, hlk, hK, hX, hA⟩ := C
  subst hr
  exact W.zret hx hb hret hn (fun t ht hW => ⟨⟨rfl, by rw [ht]; exact hI.1, va_K.moved hW.alike hK, hI.2.1⟩, hI.2.2.F ht⟩) hI.2.2.2.2 hdg (hlocks := hlk)
theorem z_lret {v : Int64} {r : Option Value} (C : zC p s m args meth c cc nL (some .long) own Ts D tys zq A) (hI : zI D A s H locs w) (hr : r = some (.long v)) (hdg : decode cc pc = .ok (.lreturn, 1)) : W p l e R s m args below meth c H locs cells slots (MQ below (zQ D tys w r A) args s cells slots A) (F0 m pc ls [.long v]) := by
  obtain ⟨hx, hb, hml, hown, hts, hret, hlk, hK, hX, hA⟩ := C
  subst hr
  exact W.lret hx hb hret (fun t ht hW => ⟨⟨rfl, by rw [ht]; exact hI.1, va_K.moved hW.alike hK, hI.2.1⟩, hI.2.2.F ht⟩) hI.2.2.2.2 hdg (hlocks := hlk)
theorem z_vret {r : Option Value} (C : zC p s m args meth c cc nL none own Ts D tys zq A) (hI : zI D A s H locs w) (hr : r = none) (hdg : decode cc pc = .ok (.return_, 1)) : W p l e R s m args below meth c H locs cells slots (MQ below (zQ D tys w r A) args s cells slots A) (F0 m pc ls []) := by
  obtain ⟨hx, hb, hml, hown, hts, hret, hlk, hK, hX, hA⟩ := C
  subst hr
  exact W.vret hx hb hret (fun t ht hW => ⟨⟨rfl, by rw [ht]; exact hI.1, va_K.moved hW.alike hK, hI.2.1⟩, hI.2.2.F ht⟩) hI.2.2.2.2 hdg (hlocks := hlk)
theorem z_put {ref C : String} {T : u_T} {N ci index a : Nat} (hexec : p.tables.exec = Jvm.exec) (hb : c.code = cc) (hts : ∀ w ∈ Ts, w.before args s = true) (hin : ∀ w ∈ u_ws C T N, w ∈ Ts) (ty0 : Nat → FieldType) (hty : ∀ k, k < N → parseFieldDescriptor (T k).2.2.1 = some (ty0 k)) (hnm : ∀ a, a < N → ∀ b, b < N → a ≠ b → (T a).2.1 ≠ (T b).2.1) (hown : s.vm.findClass own = some m.cls) (hK : va_K D vwCl tys s) (hI : zI D A s H locs w) (q0 : Nat) {fs : List Value} (he : w[q0]? = some (a, .inr (ci, fs))) (hc : vwCl[ci]? = some (C, T, N)) (k : Nat) (hk : k < N) (hlink : (Cond.fieldLink own index ref (T k).2.1 (T k).2.2.1).before args s = true) (hsame : ∀ x, s.fieldFound? (T k).1 (T k).2.1 (T k).2.2.1 = some x → s.fieldFound? ref (T k).2.1 (T k).2.2.1 = some x) (hfin : (T k).2.2.2 = false) {ty : FieldType} {v : Value} (hd : parseFieldDescriptor (T k).2.2.1 = some ty) (hn : narrow ty v = v) (hfit : fits ty v = true) (hl : k < fs.length)
    (hdg : decode cc pc = .ok (.putfield index, 3)) (hw : w.set q0 (a, .inr (ci, fs.set k v)) = w2) (kk : ∀ (H1 : Heap) (locs1 : List Loc), zI D A s H1 locs1 w2 → W p l e R s m args below meth c H1 locs1 cells slots Q (F0 m (pc + 3) ls rest)) : W p l e R s m args below meth c H locs cells slots Q (F0 m pc ls (v :: .ref a :: rest)) := by
  subst hw
  exact va_put hexec hb hts hin ty0 hty hnm hown hK hI.1 hI.2.1 hI.2.2 q0 he hc k hk hlink hsame hfin hd hn hfit hl hdg (fun H1 locs1 h1 h2 h3 => kk H1 locs1 ⟨h1, h2, h3⟩)
theorem z_iast {a : Nat} (hexec : p.tables.exec = Jvm.exec) (hb : c.code = cc) (hK : va_K D vwCl tys s) (hI : zI D A s H locs w) (q0 t0 : Nat) {cA : ClassId} {n : Nat} {f : Nat → Int32} (ha : w[q0]? = some (a, .inl (cA, n, .inl f))) (ht : tys[t0]? = some (cA, .int)) {i : Int32} {x : Int32} (hin : vp_in i n) (hdg : decode cc pc = .ok (.iastore, 1)) (hw : w.set q0 (a, .inl (cA, n, .inl (upd f i.toNatClampNeg x))) = w2)
    (kk : ∀ (H1 : Heap) (locs1 : List Loc), zI D A s H1 locs1 w2 → W p l e R s m args below meth c H1 locs1 cells slots Q (F0 m (pc + 1) ls rest)) : W p l e R s m args below meth c H locs cells slots Q (F0 m pc ls (.int x :: .int i :: .ref a :: rest)) := by
  subst hw
  exact va_iast hexec hb hK hI.1 hI.2.1 hI.2.2 q0 t0 ha ht hin hdg (fun H1 locs1 h1 h2 h3 => kk H1 locs1 ⟨h1, h2, h3⟩)
theorem z_zast {a : Nat} (hexec : p.tables.exec = Jvm.exec) (hb : c.code = cc) (hK : va_K D vwCl tys s) (hI : zI D A s H locs w) (q0 t0 : Nat) {cA : ClassId} {n : Nat} {f : Nat → Int32} (ha : w[q0]? = some (a, .inl (cA, n, .inl f))) (ht : tys[t0]? = some (cA, .boolean)) {i : Int32} {x : Int32} (hin : vp_in i n) (hdg : decode cc pc = .ok (.bastore, 1)) (hw : w.set q0 (a, .inl (cA, n, .inl (upd f i.toNatClampNeg (vp_nar .boolean x)))) = w2)
    (kk : ∀ (H1 : Heap) (locs1 : List Loc), zI D A s H1 locs1 w2 → W p l e R s m args below meth c H1 locs1 cells slots Q (F0 m (pc + 1) ls rest)) : W p l e R s m args below meth c H locs cells slots Q (F0 m pc ls (.int x :: .int i :: .ref a :: rest)) := by
  subst hw
  exact va_zast hexec hb hK hI.1 hI.2.1 hI.2.2 q0 t0 ha ht hin hdg (fun H1 locs1 h1 h2 h3 => kk H1 locs1 ⟨h1, h2, h3⟩)
theorem z_last {a : Nat} (hexec : p.tables.exec = Jvm.exec) (hb : c.code = cc) (hK : va_K D vwCl tys s) (hI : zI D A s H locs w) (q0 t0 : Nat) {cA : ClassId} {n : Nat} {f : Nat → Int64} (ha : w[q0]? = some (a, .inl (cA, n, .inr (.inl f)))) (ht : tys[t0]? = some (cA, .long)) {i : Int32} {x : Int64} (hin : vp_in i n) (hdg : decode cc pc = .ok (.lastore, 1)) (hw : w.set q0 (a, .inl (cA, n, .inr (.inl (vp_updL f i.toNatClampNeg x)))) = w2)
    (kk : ∀ (H1 : Heap) (locs1 : List Loc), zI D A s H1 locs1 w2 → W p l e R s m args below meth c H1 locs1 cells slots Q (F0 m (pc + 1) ls rest)) : W p l e R s m args below meth c H locs cells slots Q (F0 m pc ls (.long x :: .int i :: .ref a :: rest)) := by
  subst hw
  exact va_last hexec hb hK hI.1 hI.2.1 hI.2.2 q0 t0 ha ht hin hdg (fun H1 locs1 h1 h2 h3 => kk H1 locs1 ⟨h1, h2, h3⟩)
theorem z_blind {tysC : List (ClassId × FieldType)} {wc : va_W} {av : List Value} {sz : Nat} : FrameBlind (zPc zq D tysC wc av sz) := by
  intro a U g mk q
  obtain ⟨q0, q1, qP, qK, qD, qX⟩ := q
  exact ⟨q0, q1, qP, va_K.moved (u := U) (U := U.calling g mk a) (Vm.Alike.refl U.vm) qK, qD, qX.blind⟩
theorem z_pre {tysC : List (ClassId × FieldType)} {wc : va_W} {av : List Value} (hK : va_K D vwCl tys s) (hX : zX zq A s) (hA : ∀ q, s.heap.size ≤ q → A q) (hI : zI D A s H locs w) (isC tC : List Nat) (hC : isC.map (fun i => w[i]?) = wc.map some) (hnc : va_nd isC = true) (hty : tC.filterMap (fun i => tys[i]?) = tysC) : ∀ U : State, U.heap = H → s.WarmedH U.vm → zPc zq D tysC wc av H.size av.toArray U := by
  intro U hU hW
  refine ⟨rfl, by rw [hU], by rw [hU]; exact hI.1.sub isC (z_fm _ _ _ hC), va_K.moved hW.alike (hK.sub tC hty), (hI.2.1.sub isC hnc hC).weaken (fun _ _ _ _ => trivial), ?_⟩
  exact hX.call hI.2.2 hU hW (va_free hI.2.1 hI.2.2 hA isC hC)
/-- behind a call -/
theorem z_after {tysC : List (ClassId × FieldType)} {wc wc' wr : va_W} {r : Option Value} {st : List Value} {a : Array Value} (hA : ∀ q, s.heap.size ≤ q → A q) (hI : zI D A s H locs w) (isC isR : List Nat) (hC : isC.map (fun i => w[i]?) = wc.map some) (hR : isR.map (fun i => w[i]?) = wr.map some) (hnd : va_nd isR = true) (hdis : ∀ i ∈ isR, i ∉ isC) (pm : List Nat) (hpn : va_nd pm = true) (hpm : pm.map (fun i => (wr ++ wc')[i]?) = w2.map some)
    (hr : va_Run p l e R s m args below meth c H locs cells slots 0 0 (F0 m pc ls st) rest (zQ D tysC wc' r (va_A wc H.size) a) (va_A wc H.size)) {st2 : List Value} (hs2 : r.toList ++ rest = st2) (kk : ∀ (H1 : Heap) (locs1 : List Loc), zI D A s H1 locs1 w2 → W p l e R s m args below meth c H1 locs1 cells slots Q (F0 m (pc + 3) ls st2)) : W p l e R s m args below meth c H locs cells slots Q (F0 m pc ls st) := by
  subst hs2
  intro T hT X
  obtain ⟨v, st₀, t, T', L, h0, X', hL, e1, e2, ⟨⟨hv, hP1, hK1, hD1⟩, hz, hk⟩, stp⟩ := hr T hT X
  cases hv
  rw [h0] at hz hk
  rw [← e1] at hP1 hz
  have hk' : ∀ q : Nat, q < H.size → ¬ va_A wc H.size q → T'.heap[q]? = H[q]? := fun q h1 h2 => by rw [e1]; exact hk q h1 h2
  have hF := va_free (wc := wc) hI.2.1 hI.2.2 hA isC hC
  obtain ⟨hP2, hD2⟩ := va_join hI.1 hI.2.1 isC isR hC hR hnd hdis hk' hF hP1 hD1
  have hS := hI.2.2
  obtain ⟨t2, a1, b1⟩ := kk T'.heap (locs ++ L) ⟨hP2.sub pm (z_fm _ _ _ hpm), hD2.sub pm hpn hpm, Nat.le_trans hS.1 hz, fun q h1 h2 => by rw [hk' q (Nat.lt_of_lt_of_le h1 hS.1) (fun z => h2 (hF q z))]; exact hS.2.1 q h1 h2, fun q hq => by
      rcases List.mem_append.mp hq with h | h
      · exact hS.2.2 q h
      · exact hF _ (hL q h)⟩ T' rfl X'
  exact ⟨t2, stp t2 a1, b1⟩
theorem z_nd : ∀ n, va_nd (List.range n) = true := by
  intro n
  have h : ∀ l : List Nat, l.Nodup → va_nd l = true := by
    intro l
    induction l with
    | nil => intro _; rfl
    | cons a l ih =>
      intro h
      rw [List.nodup_cons] at h
      have := ih h.2
      simp [va_nd, this, h.1]
  exact h _ List.nodup_range
/-- a call of a method over all cells that are held -/
theorem z_callV {y : MethodName} {ws ws' : List Cond} {bytes : ByteArray} {maxL fr lo b index ci N : Nat} {rt : Option FieldType} {T : u_T} {As fs st : List Value} {r : Option Value} {Cn : String} (C : zC p s m args meth c cc nL ret own Ts D tys zq A) (n : Nat) (hM : zMet l y ws fr lo zq D tys w (.ref b :: As) r w2) (hg : GoodIn Ts (wsV own index Cn y ws)) (hw : ws = Cond.code y bytes maxL rt :: ws') (hd : y.cls = Cn ∧ y.cls ≠ "java/lang/invoke/MethodHandle" ∧ y.cls ≠ "java/lang/invoke/VarHandle" ∧ (parseMethodDescriptor y.desc).map (fun d => d.parameters.length) = some n) (hR : fr + 1 ≤ R.frames ∧ 8 + (maxL + 11) + lo ≤ R.locals) (hI : zI D A s H locs w) (q0 : Nat) (hrec : w[q0]? = some (b, .inr (ci, fs))) (hcl : vwCl[ci]? = some (Cn, T, N))
    (hn : As.length = n) (hl : ls.size = nL) (hst : st = As.reverse ++ .ref b :: rest) (hrm : (rest.map fun v => v.category).sum ≤ 8) (hdg : decode cc pc = .ok (.invokevirtual index, 3)) (hcs : cells + 0 ≤ R.cells ∧ slots + 0 ≤ R.slots) {st2 : List Value} (hs2 : r.toList ++ rest = st2) (kk : ∀ (H1 : Heap) (locs1 : List Loc), zI D A s H1 locs1 w2 → W p l e R s m args below meth c H1 locs1 cells slots Q (F0 m (pc + 3) ls st2)) : W p l e R s m args below meth c H locs cells slots Q (F0 m pc ls st) := by
  obtain ⟨hx, hb, hml, hown, hts, hret, hlk, hK, hX, hA⟩ := C
  refine z_after (wc := w) (wc' := w2) (wr := []) (tysC := tys) (r := r) hA hI (List.range w.length) [] (z_rng w) rfl rfl (fun i h => absurd h List.not_mem_nil) (List.range w2.length) (z_nd _) (z_rng w2) (va_runV (rest := rest) (As := As) ⟨hx, hb, hml, hown, hts⟩ (hM H.size) (cwV n hts hg hw rfl rfl hd hR) ⟨z_blind, va_recv hK hI.1 hcl hrec, z_pre hK hX hA hI (List.range w.length) (List.range tys.length) (z_rng w) (z_nd _) (z_fm _ _ _ (z_rng tys))⟩ rfl hn hl hst (lv_room hrm) hdg hcs) hs2 kk
/-- a call of a method over some of the cells that are held -/
theorem z_callW {y : MethodName} {ws ws' : List Cond} {bytes : ByteArray} {maxL fr lo b index ci N : Nat} {rt : Option FieldType} {T : u_T} {As fs st : List Value} {r : Option Value} {Cn : String} {tysC : List (ClassId × FieldType)} {wc wc' wr : va_W} (C : zC p s m args meth c cc nL ret own Ts D tys zq A) (n : Nat) (hM : zMet l y ws fr lo zq D tysC wc (.ref b :: As) r wc') (hg : GoodIn Ts (wsV own index Cn y ws)) (hw : ws = Cond.code y bytes maxL rt :: ws') (hd : y.cls = Cn ∧ y.cls ≠ "java/lang/invoke/MethodHandle" ∧ y.cls ≠ "java/lang/invoke/VarHandle" ∧ (parseMethodDescriptor y.desc).map (fun d => d.parameters.length) = some n) (hR : fr + 1 ≤ R.frames ∧ 8 + (maxL + 11) + lo ≤ R.locals) (hI : zI D A s H locs w) (q0 : Nat) (hrec : w[q0]? = some (b, .inr (ci, fs))) (hcl : vwCl[ci]? = some (Cn, T, N))
    (isC isR pm tC : List Nat) (hC : isC.map (fun i => w[i]?) = wc.map some) (hnc : va_nd isC = true) (hRr : isR.map (fun i => w[i]?) = wr.map some) (hnd : va_nd isR = true) (hdis : ∀ i ∈ isR, i ∉ isC) (hpn : va_nd pm = true) (hpm : pm.map (fun i => (wr ++ wc')[i]?) = w2.map some) (hty : tC.filterMap (fun i => tys[i]?) = tysC)
    (hn : As.length = n) (hl : ls.size = nL) (hst : st = As.reverse ++ .ref b :: rest) (hrm : (rest.map fun v => v.category).sum ≤ 8) (hdg : decode cc pc = .ok (.invokevirtual index, 3)) (hcs : cells + 0 ≤ R.cells ∧ slots + 0 ≤ R.slots) {st2 : List Value} (hs2 : r.toList ++ rest = st2) (kk : ∀ (H1 : Heap) (locs1 : List Loc), zI D A s H1 locs1 w2 → W p l e R s m args below meth c H1 locs1 cells slots Q (F0 m (pc + 3) ls st2)) : W p l e R s m args below meth c H locs cells slots Q (F0 m pc ls st) := by
  obtain ⟨hx, hb, hml, hown, hts, hret, hlk, hK, hX, hA⟩ := C
  exact z_after (wc := wc) (wc' := wc') (wr := wr) (tysC := tysC) (r := r) hA hI isC isR hC hRr hnd hdis pm hpn hpm (va_runV (rest := rest) (As := As) ⟨hx, hb, hml, hown, hts⟩ (hM H.size) (cwV n hts hg hw rfl rfl hd hR) ⟨z_blind, va_recv hK hI.1 hcl hrec, z_pre hK hX hA hI isC tC hC hnc hty⟩ rfl hn hl hst (lv_room hrm) hdg hcs) hs2 kk
/-- a call of a static method that needs no cells -/
theorem z_callS {y : MethodName} {ws ws' : List Cond} {bytes : ByteArray} {maxL fr lo index : Nat} {rt : Option FieldType} {As st : List Value} {r : Option Value} (C : zC p s m args meth c cc nL ret own Ts D tys zq A) (n : Nat) (hM : zMet l y ws fr lo zq D [] [] As r []) (hg : GoodIn Ts (va_wsS own index y ws)) (hw : ws = Cond.code y bytes maxL rt :: ws') (hd : y.cls ≠ "java/lang/invoke/MethodHandle" ∧ y.cls ≠ "java/lang/invoke/VarHandle" ∧ (parseMethodDescriptor y.desc).map (fun d => d.parameters.length) = some n) (hR : fr + 1 ≤ R.frames ∧ 8 + (maxL + 11) + lo ≤ R.locals) (hI : zI D A s H locs w)
    (hn : As.length = n) (hl : ls.size = nL) (hst : st = As.reverse ++ rest) (hrm : (rest.map fun v => v.category).sum ≤ 8) (hdg : decode cc pc = .ok (.invokestatic index, 3)) (hcs : cells + 0 ≤ R.cells ∧ slots + 0 ≤ R.slots) {st2 : List Value} (hs2 : r.toList ++ rest = st2) (kk : ∀ (H1 : Heap) (locs1 : List Loc), zI D A s H1 locs1 w → W p l e R s m args below meth c H1 locs1 cells slots Q (F0 m (pc + 3) ls st2)) : W p l e R s m args below meth c H locs cells slots Q (F0 m pc ls st) := by
  obtain ⟨hx, hb, hml, hown, hts, hret, hlk, hK, hX, hA⟩ := C
  exact z_after (wc := []) (wc' := []) (wr := w) (tysC := []) (r := r) hA hI [] (List.range w.length) rfl (z_rng w) (z_nd _) (fun i _ h => absurd h List.not_mem_nil) (List.range w.length) (z_nd _) (by rw [List.append_nil]; exact z_rng w) (va_runS (rest := rest) (As := As) ⟨hx, hb, hml, hown, hts⟩ (hM H.size) (va_cwS n hts hg hw rfl rfl hd hR) ⟨z_blind, z_pre hK hX hA hI [] [] rfl rfl rfl⟩ rfl hn hl hst (lv_room hrm) hdg hcs) hs2 kk
/-- a call of a nest mate's static method that needs no cells -/
theorem z_callN {y : MethodName} {ws ws' : List Cond} {bytes : ByteArray} {maxL fr lo index : Nat} {rt : Option FieldType} {As st : List Value} {r : Option Value} {host : String} (C : zC p s m args meth c cc nL ret own Ts D tys zq A) (n : Nat) (hM : zMet l y ws fr lo zq D [] [] As r []) (hg : GoodIn Ts ws) (hw : ws = Cond.code y bytes maxL rt :: ws') (hnw : va_Nw (.methodLinkNest own index y host) s) (hini : (Cond.initialized y.cls).before args s = true) (hstt : (Cond.static y).before args s = true) (hd : y.cls ≠ "java/lang/invoke/MethodHandle" ∧ y.cls ≠ "java/lang/invoke/VarHandle" ∧ (parseMethodDescriptor y.desc).map (fun d => d.parameters.length) = some n) (hR : fr + 1 ≤ R.frames ∧ 8 + (maxL + 11) + lo ≤ R.locals) (hI : zI D A s H locs w)
    (hn : As.length = n) (hl : ls.size = nL) (hst : st = As.reverse ++ rest) (hrm : (rest.map fun v => v.category).sum ≤ 8) (hdg : decode cc pc = .ok (.invokestatic index, 3)) (hcs : cells + 0 ≤ R.cells ∧ slots + 0 ≤ R.slots) {st2 : List Value} (hs2 : r.toList ++ rest = st2) (kk : ∀ (H1 : Heap) (locs1 : List Loc), zI D A s H1 locs1 w → W p l e R s m args below meth c H1 locs1 cells slots Q (F0 m (pc + 3) ls st2)) : W p l e R s m args below meth c H locs cells slots Q (F0 m pc ls st) := by
  obtain ⟨hx, hb, hml, hown, hts, hret, hlk, hK, hX, hA⟩ := C
  exact z_after (wc := []) (wc' := []) (wr := w) (tysC := []) (r := r) hA hI [] (List.range w.length) rfl (z_rng w) (z_nd _) (fun i _ h => absurd h List.not_mem_nil) (List.range w.length) (z_nd _) (by rw [List.append_nil]; exact z_rng w) (va_runSN (rest := rest) (As := As) ⟨hx, hb, hml, hown, hts⟩ (hM H.size) ⟨va_cnB n hts hg hw rfl rfl hnw hini hd hR, hstt, trivial⟩ ⟨z_blind, z_pre hK hX hA hI [] [] rfl rfl rfl⟩ rfl hn hl hst (lv_room hrm) hdg hcs) hs2 kk
end ZKIT
