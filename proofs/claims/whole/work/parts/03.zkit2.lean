def zGI {α : Type} (i : Int32) (n : Nat) (k : Option α) : Option α := if i < 0 ∨ n ≤ i.toNatClampNeg then none else k
theorem zGI_s {α : Type} {i : Int32} {n : Nat} {k : Option α} {x : α} (h : zGI i n k = some x) : vp_in i n ∧ k = some x := by
  unfold zGI at h
  by_cases hc : i < 0 ∨ n ≤ i.toNatClampNeg
  · rw [if_pos hc] at h; cases h
  · rw [if_neg hc] at h; exact ⟨hc, h⟩
theorem zGI_t {α : Type} {i : Int32} {n : Nat} {k : Option α} (h : vp_in i n) : zGI i n k = k := if_neg h
def zUshr (x y : Int32) : Int32 := (x.toUInt32 >>> (y.toUInt32 &&& Int32.toUInt32 31)).toInt32
def zLushr (x : Int64) (y : Int32) : Int64 := (x.toUInt64 >>> (y.toInt64.toUInt64 &&& Int64.toUInt64 63)).toInt64
theorem zP1 {α : Type} {x y : α} (h : some x = some y) : y = x := (Option.some.inj h).symm
theorem zP2 {α β : Type} {a c : α} {b d : β} (h : some (a, b) = some (c, d)) : c = a ∧ d = b := by cases h; exact ⟨rfl, rfl⟩
theorem zTab (x : Int32) (lo hi : Int) (h : ∀ k : Int, lo ≤ k → k ≤ hi → ¬ x = Int32.ofInt k) : x.toInt < lo ∨ hi < x.toInt := by
  rcases Int.lt_or_le x.toInt lo with q | q
  · exact Or.inl q
  · rcases Int.lt_or_le hi x.toInt with q2 | q2
    · exact Or.inr q2
    · exact absurd (by simp) (h x.toInt q q2)
def zL {α β : Type} (x : α) (k : α → β) : β := k x
theorem zL_s {α β : Type} {x y : α} {k : α → Option β} {r : β} (h : zL x k = some r) (e : y = x) : k y = some r := by subst e; exact h
theorem zL_e {α β : Type} {x : α} {k : α → Option β} {r : β} (h : zL x k = some r) : ∃ y, y = x ∧ k y = some r := ⟨x, rfl, h⟩
theorem zL_t {α β : Type} (x : α) (k : α → β) : zL x k = k x := rfl
def zPick (is : List Nat) (w : va_W) : va_W := is.filterMap (fun i => w[i]?)
section ZKIT2
variable {p : Program} {l : Launch} {e : Env} {R : Room} {s : State} {m : MethodId} {args : Array Value} {below : List Frame} {meth : Method} {c : Code} {H : Heap} {locs : List Loc} {cells slots : Nat} {Q : State → Prop}
variable {cc : ByteArray} {pc nL : Nat} {ret : Option FieldType} {own : String} {Ts : List Cond} {ls : Array Slot} {rest : List Value} {A : Nat → Prop} {D : va_G} {tys : List (ClassId × FieldType)} {w w2 : va_W} {zq : Nat → Nat}
theorem z_callX {y : MethodName} {ws ws' : List Cond} {bytes : ByteArray} {maxL fr lo b index ci N : Nat} {rt : Option FieldType} {T : u_T} {As fs st : List Value} {r : Option Value} {Cn : String} {tysC : List (ClassId × FieldType)} {wc wc' : va_W} (C : zC p s m args meth c cc nL ret own Ts D tys zq A) (n : Nat) (hM : zMet l y ws fr lo zq D tysC wc (.ref b :: As) r wc') (hg : GoodIn Ts (wsV own index Cn y ws)) (hw : ws = Cond.code y bytes maxL rt :: ws') (hd : y.cls = Cn ∧ y.cls ≠ "java/lang/invoke/MethodHandle" ∧ y.cls ≠ "java/lang/invoke/VarHandle" ∧ (parseMethodDescriptor y.desc).map (fun d => d.parameters.length) = some n) (hR : fr + 1 ≤ R.frames ∧ 8 + (maxL + 11) + lo ≤ R.locals) (hI : zI D A s H locs w) (q0 : Nat) (hrec : w[q0]? = some (b, .inr (ci, fs))) (hcl : vwCl[ci]? = some (Cn, T, N))
    (isC isR pm tC : List Nat) (hC : isC.map (fun i => w[i]?) = wc.map some) (hnc : va_nd isC = true) (hRr : isR.map (fun i => w[i]?) = (zPick isR w).map some) (hnd : va_nd isR = true) (hdis : ∀ i ∈ isR, i ∉ isC) (hpn : va_nd pm = true) (hpm : pm.map (fun i => (zPick isR w ++ wc')[i]?) = w2.map some) (hty : tC.filterMap (fun i => tys[i]?) = tysC)
    (hn : As.length = n) (hl : ls.size = nL) (hst : st = As.reverse ++ .ref b :: rest) (hrm : (rest.map fun v => v.category).sum ≤ 8) (hdg : decode cc pc = .ok (.invokevirtual index, 3)) (hcs : cells + 0 ≤ R.cells ∧ slots + 0 ≤ R.slots) {st2 : List Value} (hs2 : r.toList ++ rest = st2) (kk : ∀ (H1 : Heap) (locs1 : List Loc), zI D A s H1 locs1 w2 → W p l e R s m args below meth c H1 locs1 cells slots Q (F0 m (pc + 3) ls st2)) : W p l e R s m args below meth c H locs cells slots Q (F0 m pc ls st) :=
  z_callW C n hM hg hw hd hR hI q0 hrec hcl isC isR pm tC hC hnc hRr hnd hdis hpn hpm hty hn hl hst hrm hdg hcs hs2 kk
end ZKIT2
