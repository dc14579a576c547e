abbrev ZLS : Type := XS × MS
def l_x (S : ZLS) : XS := S.1
def l_m (S : ZLS) : MS := S.2
def l_x_u (S : ZLS) (v : XS) : ZLS := (v, S.2)
def l_m_u (S : ZLS) (v : MS) : ZLS := (S.1, v)
def wL (cy : Nat → ClassId) (ad : Nat → Nat) (S : ZLS) : va_W := wX cy ad (l_x S) ++ wM (fun k => cy (k + 17)) (fun k => ad (k + 17)) (l_m S)
def tL (cy : Nat → ClassId) : List (ClassId × FieldType) := tX cy ++ tM (fun k => cy (k + 17))
def fL_law_b731 (L : Nat) (xs : Nat → Int32) (k18 : Int32 → ZLS → Option Int32) (v3 : Int32) (S : ZLS) : Option Int32 :=
k18 (v3 + (4 : Int32)) S

def fL_law_b18 (L : Nat) (xs : Nat → Int32) (k18 : Int32 → ZLS → Option Int32) (v3 : Int32) (S : ZLS) : Option Int32 :=
(if ((Int32.ofNat L) - (4 : Int32)) < v3 then some (1 : Int32) else
(zGI v3 L
((if ((xs v3.toNatClampNeg) &&& (31 : Int32)) = 0 then (zGI (v3 + (1 : Int32)) L
((zGI (v3 + (2 : Int32)) L
((zGI (v3 + (3 : Int32)) L
((zB2 (fX2_type (((((xs (v3 + (1 : Int32)).toNatClampNeg)).toInt64) <<< ((32 : Int32).toInt64 &&& 63)) ||| ((((xs (v3 + (2 : Int32)).toNatClampNeg)).toInt64) &&& (4294967295 : Int64))) (xs (v3 + (3 : Int32)).toNatClampNeg) (l_x S)) (fun r_162 S_162 =>
(zL (l_x_u S S_162) (fun W_162 =>
(zGI (v3 + (1 : Int32)) L
((zGI (v3 + (2 : Int32)) L
((zGI (v3 + (3 : Int32)) L
((zB2 (fX3_type (((((xs (v3 + (1 : Int32)).toNatClampNeg)).toInt64) <<< ((32 : Int32).toInt64 &&& 63)) ||| ((((xs (v3 + (2 : Int32)).toNatClampNeg)).toInt64) &&& (4294967295 : Int64))) (xs (v3 + (3 : Int32)).toNatClampNeg) (l_m W_162)) (fun r_191 S_191 =>
(zL (l_m_u W_162 S_191) (fun W_191 =>
(if r_162 = r_191 then fL_law_b731 L xs k18 v3 W_191 else
some (0 : Int32)))))))))))))))))))))) else
(if ((xs v3.toNatClampNeg) &&& (31 : Int32)) = 1 then (zB2 (fX2_clear (l_x S)) (fun r_200 S_200 =>
(zL (l_x_u S S_200) (fun W_200 =>
(zB2 (fX3_clear (l_m W_200)) (fun r_204 S_204 =>
(zL (l_m_u W_200 S_204) (fun W_204 =>
(if r_200 = r_204 then fL_law_b731 L xs k18 v3 W_204 else
some (0 : Int32)))))))))) else
(if ((xs v3.toNatClampNeg) &&& (31 : Int32)) = 2 then (zB2 (fX2_given (l_x S)) (fun r_213 S_213 =>
(zL (l_x_u S S_213) (fun W_213 =>
(zB2 (fX3_given (l_m W_213)) (fun r_217 S_217 =>
(zL (l_m_u W_213 S_217) (fun W_217 =>
(if r_213 = r_217 then fL_law_b731 L xs k18 v3 W_217 else
some (0 : Int32)))))))))) else
(if ((xs v3.toNatClampNeg) &&& (31 : Int32)) = 3 then (zB2 (fX2_proof (l_x S)) (fun r_226 S_226 =>
(zL (l_x_u S S_226) (fun W_226 =>
(zB2 (fX3_proof (l_m W_226)) (fun r_230 S_230 =>
(zL (l_m_u W_226 S_230) (fun W_230 =>
(if r_226 = r_230 then fL_law_b731 L xs k18 v3 W_230 else
some (0 : Int32)))))))))) else
(if ((xs v3.toNatClampNeg) &&& (31 : Int32)) = 4 then (zB2 (fX2_wrong (l_x S)) (fun r_239 S_239 =>
(zL (l_x_u S S_239) (fun W_239 =>
(zB2 (fX3_wrong (l_m W_239)) (fun r_243 S_243 =>
(zL (l_m_u W_239 S_243) (fun W_243 =>
(if r_239 = r_243 then fL_law_b731 L xs k18 v3 W_243 else
some (0 : Int32)))))))))) else
(if ((xs v3.toNatClampNeg) &&& (31 : Int32)) = 5 then (zB2 (fX2_end (l_x S)) (fun r_252 S_252 =>
(zL (l_x_u S S_252) (fun W_252 =>
(zB2 (fX3_end (l_m W_252)) (fun r_256 S_256 =>
(zL (l_m_u W_252 S_256) (fun W_256 =>
(if r_252 = r_256 then fL_law_b731 L xs k18 v3 W_256 else
some (0 : Int32)))))))))) else
(if ((xs v3.toNatClampNeg) &&& (31 : Int32)) = 6 then (zGI (v3 + (1 : Int32)) L
((zB2 (fX2_line (xs (v3 + (1 : Int32)).toNatClampNeg) (l_x S)) (fun r_270 S_270 =>
(zL (l_x_u S S_270) (fun W_270 =>
(zGI (v3 + (1 : Int32)) L
((zB2 (fX3_line (xs (v3 + (1 : Int32)).toNatClampNeg) (l_m W_270)) (fun r_279 S_279 =>
(zL (l_m_u W_270 S_279) (fun W_279 =>
(if (lg_cmp r_270 r_279) = 0 then fL_law_b731 L xs k18 v3 W_279 else
some (0 : Int32)))))))))))))) else
(if ((xs v3.toNatClampNeg) &&& (31 : Int32)) = 7 then (zGI (v3 + (1 : Int32)) L
((zGI (v3 + (2 : Int32)) L
((zB2 (fX2_value (xs (v3 + (1 : Int32)).toNatClampNeg) (xs (v3 + (2 : Int32)).toNatClampNeg) (l_x S)) (fun r_299 S_299 =>
(zL (l_x_u S S_299) (fun W_299 =>
(zGI (v3 + (1 : Int32)) L
((zGI (v3 + (2 : Int32)) L
((zB2 (fX3_value (xs (v3 + (1 : Int32)).toNatClampNeg) (xs (v3 + (2 : Int32)).toNatClampNeg) (l_m W_299)) (fun r_313 S_313 =>
(zL (l_m_u W_299 S_313) (fun W_313 =>
(if r_299 = r_313 then fL_law_b731 L xs k18 v3 W_313 else
some (0 : Int32)))))))))))))))))) else
(if ((xs v3.toNatClampNeg) &&& (31 : Int32)) = 8 then (zGI (v3 + (1 : Int32)) L
((zGI (v3 + (2 : Int32)) L
((zB2 (fX2_lead (xs (v3 + (1 : Int32)).toNatClampNeg) (xs (v3 + (2 : Int32)).toNatClampNeg) (l_x S)) (fun r_332 S_332 =>
(zL (l_x_u S S_332) (fun W_332 =>
(zGI (v3 + (1 : Int32)) L
((zGI (v3 + (2 : Int32)) L
((zB2 (fX3_lead (xs (v3 + (1 : Int32)).toNatClampNeg) (xs (v3 + (2 : Int32)).toNatClampNeg) (l_m W_332)) (fun r_346 S_346 =>
(zL (l_m_u W_332 S_346) (fun W_346 =>
(if r_332 = r_346 then fL_law_b731 L xs k18 v3 W_346 else
some (0 : Int32)))))))))))))))))) else
(if ((xs v3.toNatClampNeg) &&& (31 : Int32)) = 9 then (zGI (v3 + (1 : Int32)) L
((zGI (v3 + (2 : Int32)) L
((zGI (v3 + (3 : Int32)) L
((zB2 (fX2_both (xs (v3 + (1 : Int32)).toNatClampNeg) (xs (v3 + (2 : Int32)).toNatClampNeg) (xs (v3 + (3 : Int32)).toNatClampNeg) (l_x S)) (fun r_370 S_370 =>
(zL (l_x_u S S_370) (fun W_370 =>
(zGI (v3 + (1 : Int32)) L
((zGI (v3 + (2 : Int32)) L
((zGI (v3 + (3 : Int32)) L
((zB2 (fX3_both (xs (v3 + (1 : Int32)).toNatClampNeg) (xs (v3 + (2 : Int32)).toNatClampNeg) (xs (v3 + (3 : Int32)).toNatClampNeg) (l_m W_370)) (fun r_389 S_389 =>
(zL (l_m_u W_370 S_389) (fun W_389 =>
(if (lg_cmp r_370 r_389) = 0 then fL_law_b731 L xs k18 v3 W_389 else
some (0 : Int32)))))))))))))))))))))) else
(if ((xs v3.toNatClampNeg) &&& (31 : Int32)) = 10 then (zGI (v3 + (1 : Int32)) L
((zGI (v3 + (2 : Int32)) L
((zGI (v3 + (3 : Int32)) L
((zB2 (fX2_with (xs (v3 + (1 : Int32)).toNatClampNeg) (xs (v3 + (2 : Int32)).toNatClampNeg) (xs (v3 + (3 : Int32)).toNatClampNeg) (l_x S)) (fun r_414 S_414 =>
(zL (l_x_u S S_414) (fun W_414 =>
(zGI (v3 + (1 : Int32)) L
((zGI (v3 + (2 : Int32)) L
((zGI (v3 + (3 : Int32)) L
((zB2 (fX3_with (xs (v3 + (1 : Int32)).toNatClampNeg) (xs (v3 + (2 : Int32)).toNatClampNeg) (xs (v3 + (3 : Int32)).toNatClampNeg) (l_m W_414)) (fun r_433 S_433 =>
(zL (l_m_u W_414 S_433) (fun W_433 =>
(if (lg_cmp r_414 r_433) = 0 then fL_law_b731 L xs k18 v3 W_433 else
some (0 : Int32)))))))))))))))))))))) else
(if ((xs v3.toNatClampNeg) &&& (31 : Int32)) = 11 then (zB2 (fX2_common (l_x S)) (fun r_443 S_443 =>
(zL (l_x_u S S_443) (fun W_443 =>
(zB2 (fX3_common (l_m W_443)) (fun r_447 S_447 =>
(zL (l_m_u W_443 S_447) (fun W_447 =>
(if (lg_cmp r_443 r_447) = 0 then fL_law_b731 L xs k18 v3 W_447 else
some (0 : Int32)))))))))) else
(if ((xs v3.toNatClampNeg) &&& (31 : Int32)) = 12 then (zGI (v3 + (1 : Int32)) L
((zB2 (fX2_follows (xs (v3 + (1 : Int32)).toNatClampNeg) (l_x S)) (fun r_462 S_462 =>
(zL (l_x_u S S_462) (fun W_462 =>
(zGI (v3 + (1 : Int32)) L
((zB2 (fX3_follows (xs (v3 + (1 : Int32)).toNatClampNeg) (l_m W_462)) (fun r_471 S_471 =>
(zL (l_m_u W_462 S_471) (fun W_471 =>
(if r_462 = r_471 then fL_law_b731 L xs k18 v3 W_471 else
some (0 : Int32)))))))))))))) else
(if ((xs v3.toNatClampNeg) &&& (31 : Int32)) = 13 then (zB2 (fX2_standing (l_x S)) (fun r_480 S_480 =>
(zL (l_x_u S S_480) (fun W_480 =>
(zB2 (fX3_standing (l_m W_480)) (fun r_484 S_484 =>
(zL (l_m_u W_480 S_484) (fun W_484 =>
(if (lg_cmp r_480 r_484) = 0 then fL_law_b731 L xs k18 v3 W_484 else
some (0 : Int32)))))))))) else
(if ((xs v3.toNatClampNeg) &&& (31 : Int32)) = 14 then (zGI (v3 + (1 : Int32)) L
((zB2 (fX2_left (xs (v3 + (1 : Int32)).toNatClampNeg) (l_x S)) (fun r_499 S_499 =>
(zL (l_x_u S S_499) (fun W_499 =>
(zGI (v3 + (1 : Int32)) L
((zB2 (fX3_left (xs (v3 + (1 : Int32)).toNatClampNeg) (l_m W_499)) (fun r_508 S_508 =>
(zL (l_m_u W_499 S_508) (fun W_508 =>
(if (lg_cmp r_499 r_508) = 0 then fL_law_b731 L xs k18 v3 W_508 else
some (0 : Int32)))))))))))))) else
(if ((xs v3.toNatClampNeg) &&& (31 : Int32)) = 15 then (zGI (v3 + (1 : Int32)) L
((zGI (v3 + (2 : Int32)) L
((zB2 (fX2_rest (((((xs (v3 + (1 : Int32)).toNatClampNeg)).toInt64) <<< ((32 : Int32).toInt64 &&& 63)) ||| ((((xs (v3 + (2 : Int32)).toNatClampNeg)).toInt64) &&& (4294967295 : Int64))) (l_x S)) (fun r_538 S_538 =>
(zL (l_x_u S S_538) (fun W_538 =>
(zGI (v3 + (1 : Int32)) L
((zGI (v3 + (2 : Int32)) L
((zB2 (fX3_rest (((((xs (v3 + (1 : Int32)).toNatClampNeg)).toInt64) <<< ((32 : Int32).toInt64 &&& 63)) ||| ((((xs (v3 + (2 : Int32)).toNatClampNeg)).toInt64) &&& (4294967295 : Int64))) (l_m W_538)) (fun r_562 S_562 =>
(zL (l_m_u W_538 S_562) (fun W_562 =>
(if (lg_cmp r_538 r_562) = 0 then fL_law_b731 L xs k18 v3 W_562 else
some (0 : Int32)))))))))))))))))) else
(if ((xs v3.toNatClampNeg) &&& (31 : Int32)) = 16 then (zGI (v3 + (1 : Int32)) L
((zB2 (fX2_base (xs (v3 + (1 : Int32)).toNatClampNeg) (l_x S)) (fun r_577 S_577 =>
(zL (l_x_u S S_577) (fun W_577 =>
(zGI (v3 + (1 : Int32)) L
((zB2 (fX3_base (xs (v3 + (1 : Int32)).toNatClampNeg) (l_m W_577)) (fun r_586 S_586 =>
(zL (l_m_u W_577 S_586) (fun W_586 =>
(if (lg_cmp r_577 r_586) = 0 then fL_law_b731 L xs k18 v3 W_586 else
some (0 : Int32)))))))))))))) else
(if ((xs v3.toNatClampNeg) &&& (31 : Int32)) = 17 then (zGI (v3 + (1 : Int32)) L
((zGI (v3 + (2 : Int32)) L
((zB2 (fX2_deep (xs (v3 + (1 : Int32)).toNatClampNeg) (xs (v3 + (2 : Int32)).toNatClampNeg) (l_x S)) (fun r_606 S_606 =>
(zL (l_x_u S S_606) (fun W_606 =>
(zGI (v3 + (1 : Int32)) L
((zGI (v3 + (2 : Int32)) L
((zB2 (fX3_deep (xs (v3 + (1 : Int32)).toNatClampNeg) (xs (v3 + (2 : Int32)).toNatClampNeg) (l_m W_606)) (fun r_620 S_620 =>
(zL (l_m_u W_606 S_620) (fun W_620 =>
(if r_606 = r_620 then fL_law_b731 L xs k18 v3 W_620 else
some (0 : Int32)))))))))))))))))) else
(if ((xs v3.toNatClampNeg) &&& (31 : Int32)) = 18 then (zGI (v3 + (1 : Int32)) L
((zGI (v3 + (2 : Int32)) L
((zB2 (fX2_needed (xs (v3 + (1 : Int32)).toNatClampNeg) (xs (v3 + (2 : Int32)).toNatClampNeg) (l_x S)) (fun r_639 S_639 =>
(zL (l_x_u S S_639) (fun W_639 =>
(zGI (v3 + (1 : Int32)) L
((zGI (v3 + (2 : Int32)) L
((zB2 (fX3_needed (xs (v3 + (1 : Int32)).toNatClampNeg) (xs (v3 + (2 : Int32)).toNatClampNeg) (l_m W_639)) (fun r_653 S_653 =>
(zL (l_m_u W_639 S_653) (fun W_653 =>
(if r_639 = r_653 then fL_law_b731 L xs k18 v3 W_653 else
some (0 : Int32)))))))))))))))))) else
(if ((xs v3.toNatClampNeg) &&& (31 : Int32)) = 19 then (zGI (v3 + (1 : Int32)) L
((zGI (v3 + (2 : Int32)) L
((zB2 (fX2_weight (xs (v3 + (1 : Int32)).toNatClampNeg) (xs (v3 + (2 : Int32)).toNatClampNeg) (l_x S)) (fun r_672 S_672 =>
(zL (l_x_u S S_672) (fun W_672 =>
(zGI (v3 + (1 : Int32)) L
((zGI (v3 + (2 : Int32)) L
((zB2 (fX3_weight (xs (v3 + (1 : Int32)).toNatClampNeg) (xs (v3 + (2 : Int32)).toNatClampNeg) (l_m W_672)) (fun r_686 S_686 =>
(zL (l_m_u W_672 S_686) (fun W_686 =>
(if r_672 = r_686 then fL_law_b731 L xs k18 v3 W_686 else
some (0 : Int32)))))))))))))))))) else
(if ((xs v3.toNatClampNeg) &&& (31 : Int32)) = 20 then (zGI (v3 + (1 : Int32)) L
((zB2 (fX2_count (xs (v3 + (1 : Int32)).toNatClampNeg) (l_x S)) (fun r_700 S_700 =>
(zL (l_x_u S S_700) (fun W_700 =>
(zGI (v3 + (1 : Int32)) L
((zB2 (fX3_count (xs (v3 + (1 : Int32)).toNatClampNeg) (l_m W_700)) (fun r_709 S_709 =>
(zL (l_m_u W_700 S_709) (fun W_709 =>
(if r_700 = r_709 then fL_law_b731 L xs k18 v3 W_709 else
some (0 : Int32)))))))))))))) else
(if ((xs v3.toNatClampNeg) &&& (31 : Int32)) = 21 then (zB2 (fX2_trace (l_x S)) (fun r_718 S_718 =>
(zL (l_x_u S S_718) (fun W_718 =>
(zB2 (fX3_trace (l_m W_718)) (fun r_722 S_722 =>
(zL (l_m_u W_718 S_722) (fun W_722 =>
(if (lg_cmp r_718 r_722) = 0 then fL_law_b731 L xs k18 v3 W_722 else
some (0 : Int32)))))))))) else
fL_law_b731 L xs k18 v3 S)))))))))))))))))))))))))
def fL_law_b18L (L : Nat) (xs : Nat → Int32) : Nat → Int32 → ZLS → Option Int32
  | 0, _, _ => none
  | n + 1, v3, S => fL_law_b18 L xs (fL_law_b18L L xs n) v3 S

def fL_law (L : Nat) (xs : Nat → Int32) (S : ZLS) : Option Int32 :=
fL_law_b18L L xs zF (0 : Int32) S
set_option maxHeartbeats 8000000 in
set_option maxRecDepth 100000 in
theorem law_from {p : Program} {e : Env} {s : State} {m : MethodId} {below : List Frame} {meth : Method} {c : Code} (l : Launch) (zq : Nat → Nat) (D : va_G) (cy : Nat → ClassId) (ad : Nat → Nat) {b L : Nat} {xs : Nat → Int32} {A : Nat → Prop} (S : ZLS) {H : Heap} {locs : List Loc} {ls : Array Slot} (hXs : va_X b L xs s s.heap) (hbl : b < s.heap.size) (hbA : ¬ A b) (hAn : A = fun q : Nat => s.heap.size ≤ q) (C : zC p s m #[Value.ref b] meth c code 4 ret RL wsL_law D (tL cy) zq A) (hI : zI D A s H locs (wL cy ad S)) (hl : lv_has ls 4 [(2, .ref (ad 17)), (1, .ref (ad 0)), (0, .ref b)]) (hf : fL_law L xs S = some 1) : W p l e room_1 s m #[Value.ref b] below meth c H locs 29 1925 (lw_Z below #[Value.ref b] s) (F0 m 16 ls []) := by
  obtain ⟨hx, hb, hml, hown, hts, hret, hlk, hK, hX, hA⟩ := id C
  subst hAn
  obtain ⟨Q, hQ⟩ : ∃ Q, Q = lw_Z below #[Value.ref b] s := ⟨_, rfl⟩
  rw [← hQ]
  have hb731 : ∀ (k18 : Int32 → ZLS → Option Int32) (hk18 : ∀ (v3 : Int32) (S : ZLS) (H : Heap) (locs : List Loc) (ls : Array Slot), k18 v3 S = some (1 : Int32) → zI D (fun q : Nat => s.heap.size ≤ q) s H locs (wL cy ad S) → lv_has ls 4 [(0, .ref b), (1, .ref (ad 0)), (2, .ref (ad 17)), (3, .int v3)] → W p l e room_1 s m #[Value.ref b] below meth c H locs 29 1925 Q (F0 m 18 ls [])), ∀ (v3 : Int32) (S : ZLS) (H : Heap) (locs : List Loc) (ls : Array Slot), fL_law_b731 L xs k18 v3 S = some (1 : Int32) → zI D (fun q : Nat => s.heap.size ≤ q) s H locs (wL cy ad S) → lv_has ls 4 [(0, .ref b), (1, .ref (ad 0)), (2, .ref (ad 17)), (3, .int v3)] → W p l e room_1 s m #[Value.ref b] below meth c H locs 29 1925 Q (F0 m 731 ls []) := by
    intro k18 hk18 v3 S H locs ls hf hI hl
    unfold fL_law_b731 at hf
    refine lv_iinc (v := (v3 + (4 : Int32))) (lv' := [(3, .int (v3 + (4 : Int32))), (0, .ref b), (1, .ref (ad 0)), (2, .ref (ad 17))]) hx hb dL_law_731 hl (k := 3) rfl rfl (by decide) rfl (fun ls hl => ?_)
    refine lv_goto (tgt := 18) hx hb dL_law_734 (by decide) ?_
    exact hk18 (v3 + (4 : Int32)) S _ _ _ hf hI (lv_sub hl [1, 2, 3, 0] rfl)
  have hb18 : ∀ (n : Nat), ∀ (v3 : Int32) (S : ZLS) (H : Heap) (locs : List Loc) (ls : Array Slot), fL_law_b18L L xs n v3 S = some (1 : Int32) → zI D (fun q : Nat => s.heap.size ≤ q) s H locs (wL cy ad S) → lv_has ls 4 [(0, .ref b), (1, .ref (ad 0)), (2, .ref (ad 17)), (3, .int v3)] → W p l e room_1 s m #[Value.ref b] below meth c H locs 29 1925 Q (F0 m 18 ls []) := by
    intro n
    induction n with
    | zero => intro v3 S H locs ls hf; cases (show (none : Option Int32) = some (1 : Int32) from hf)
    | succ n ih =>
      intro v3 S H locs ls hf hI hl
      have hf : fL_law_b18 L xs (fL_law_b18L L xs n) v3 S = some (1 : Int32) := hf
      unfold fL_law_b18 at hf
      refine lv_iload_n hx hb dL_law_18 rfl (lv_at hl 3 rfl) ?_
      refine lv_aload_n hx hb dL_law_19 rfl (lv_at hl 0 rfl) ?_
      refine va_slen hx hb hXs hbl hbA hI.2.2 dL_law_20 ?_
      refine lv_iconst (v := 4) hx hb dL_law_21 (by decide) ?_
      refine lv_isub hx hb dL_law_22 ?_
      refine lv_icmp_gt (tgt := 737) hx hb dL_law_23 (by decide) (fun c_23 => ?_) (fun c_23 => ?_)
      · replace hf := zIt c_23 hf
        refine lv_iconst (v := 1) hx hb dL_law_737 (by decide) ?_
        rw [hQ]
        refine va_forget (fun q hq => hI.2.2.2.2 q hq) ?_
        exact lw_ret hx hb hret hlk dL_law_738
      · replace hf := zIf c_23 hf
        refine lv_aload_n hx hb dL_law_26 rfl (lv_at hl 0 rfl) ?_
        refine lv_iload_n hx hb dL_law_27 rfl (lv_at hl 3 rfl) ?_
        obtain ⟨g_28, hf⟩ := zGI_s hf
        refine va_sld hx hb hXs hbl hbA hI.2.2 g_28 dL_law_28 ?_
        refine lv_bipush (v := 31) hx hb dL_law_29 (by decide) ?_
        refine lv_iand hx hb dL_law_31 ?_
        by_cases c_32_0 : ((xs v3.toNatClampNeg) &&& (31 : Int32)) = 0
        · replace hf := zIt c_32_0 hf
          refine lv_tableIn (tgt := 136) (off := 104) hx hb dL_law_32 (by rw [c_32_0]; decide) (by rw [c_32_0]; decide) (by rw [c_32_0]; rfl) (by decide) ?_
          refine lv_aload_n hx hb dL_law_136 rfl (lv_at hl 1 rfl) ?_
          refine lv_aload_n hx hb dL_law_137 rfl (lv_at hl 0 rfl) ?_
          refine lv_iload_n hx hb dL_law_138 rfl (lv_at hl 3 rfl) ?_
          refine lv_iconst (v := 1) hx hb dL_law_139 (by decide) ?_
          refine lv_iadd hx hb dL_law_140 ?_
          obtain ⟨g_141, hf⟩ := zGI_s hf
          refine va_sld hx hb hXs hbl hbA hI.2.2 g_141 dL_law_141 ?_
          refine lv_i2l hx hb dL_law_142 rfl ?_
          refine lv_bipush (v := 32) hx hb dL_law_143 (by decide) ?_
          refine lv_lshl hx hb dL_law_145 rfl ?_
          refine lv_aload_n hx hb dL_law_146 rfl (lv_at hl 0 rfl) ?_
          refine lv_iload_n hx hb dL_law_147 rfl (lv_at hl 3 rfl) ?_
          refine lv_iconst (v := 2) hx hb dL_law_148 (by decide) ?_
          refine lv_iadd hx hb dL_law_149 ?_
          obtain ⟨g_150, hf⟩ := zGI_s hf
          refine va_sld hx hb hXs hbl hbA hI.2.2 g_150 dL_law_150 ?_
          refine lv_i2l hx hb dL_law_151 rfl ?_
          refine lv_ldc2 hx hb hown (hts (.constantLong RL 13 (4294967295)) (by decide +kernel)) dL_law_152 ?_
          refine lv_land hx hb dL_law_155 ?_
          refine lv_lor hx hb dL_law_156 ?_
          refine lv_aload_n hx hb dL_law_157 rfl (lv_at hl 0 rfl) ?_
          refine lv_iload_n hx hb dL_law_158 rfl (lv_at hl 3 rfl) ?_
          refine lv_iconst (v := 3) hx hb dL_law_159 (by decide) ?_
          refine lv_iadd hx hb dL_law_160 ?_
          obtain ⟨g_161, hf⟩ := zGI_s hf
          refine va_sld hx hb hXs hbl hbA hI.2.2 g_161 dL_law_161 ?_
          obtain ⟨r_162, S_162, hf_162, hf⟩ := zB2_s hf
          obtain ⟨W_162, eW_162, hf⟩ := zL_e hf
          refine z_callX (w2 := (wL cy ad W_162)) C 2 (kX2_type l zq D (fun k => cy (k + 0)) (fun k => ad (k + 0)) (((((xs (v3 + (1 : Int32)).toNatClampNeg)).toInt64) <<< ((32 : Int32).toInt64 &&& 63)) ||| ((((xs (v3 + (2 : Int32)).toNatClampNeg)).toInt64) &&& (4294967295 : Int64))) (xs (v3 + (3 : Int32)).toNatClampNeg) (l_x S) S_162 r_162 hf_162) gL_law_X2_type rfl (by decide +kernel) ⟨by decide, by decide⟩ hI 0 rfl rfl [0, 1, 2, 3, 4, 5, 6, 7, 8, 9, 10, 11, 12, 13, 14, 15, 16] [17, 18, 19, 20, 21, 22, 23, 24, 25, 26, 27, 28] [12, 13, 14, 15, 16, 17, 18, 19, 20, 21, 22, 23, 24, 25, 26, 27, 28, 0, 1, 2, 3, 4, 5, 6, 7, 8, 9, 10, 11] [0, 1, 2, 3, 4, 5, 6, 7, 8, 9, 10, 11, 12] rfl rfl rfl rfl (by decide) rfl (by rw [eW_162]; rfl) rfl rfl hl.1 rfl (Nat.le_of_ble_eq_true rfl) dL_law_162 ⟨by decide, by decide⟩ (st2 := [.int r_162]) rfl (fun H locs hI => ?_)
          refine lv_aload_n hx hb dL_law_165 rfl (lv_at hl 2 rfl) ?_
          refine lv_aload_n hx hb dL_law_166 rfl (lv_at hl 0 rfl) ?_
          refine lv_iload_n hx hb dL_law_167 rfl (lv_at hl 3 rfl) ?_
          refine lv_iconst (v := 1) hx hb dL_law_168 (by decide) ?_
          refine lv_iadd hx hb dL_law_169 ?_
          obtain ⟨g_170, hf⟩ := zGI_s hf
          refine va_sld hx hb hXs hbl hbA hI.2.2 g_170 dL_law_170 ?_
          refine lv_i2l hx hb dL_law_171 rfl ?_
          refine lv_bipush (v := 32) hx hb dL_law_172 (by decide) ?_
          refine lv_lshl hx hb dL_law_174 rfl ?_
          refine lv_aload_n hx hb dL_law_175 rfl (lv_at hl 0 rfl) ?_
          refine lv_iload_n hx hb dL_law_176 rfl (lv_at hl 3 rfl) ?_
          refine lv_iconst (v := 2) hx hb dL_law_177 (by decide) ?_
          refine lv_iadd hx hb dL_law_178 ?_
          obtain ⟨g_179, hf⟩ := zGI_s hf
          refine va_sld hx hb hXs hbl hbA hI.2.2 g_179 dL_law_179 ?_
          refine lv_i2l hx hb dL_law_180 rfl ?_
          refine lv_ldc2 hx hb hown (hts (.constantLong RL 13 (4294967295)) (by decide +kernel)) dL_law_181 ?_
          refine lv_land hx hb dL_law_184 ?_
          refine lv_lor hx hb dL_law_185 ?_
          refine lv_aload_n hx hb dL_law_186 rfl (lv_at hl 0 rfl) ?_
          refine lv_iload_n hx hb dL_law_187 rfl (lv_at hl 3 rfl) ?_
          refine lv_iconst (v := 3) hx hb dL_law_188 (by decide) ?_
          refine lv_iadd hx hb dL_law_189 ?_
          obtain ⟨g_190, hf⟩ := zGI_s hf
          refine va_sld hx hb hXs hbl hbA hI.2.2 g_190 dL_law_190 ?_
          obtain ⟨r_191, S_191, hf_191, hf⟩ := zB2_s hf
          obtain ⟨W_191, eW_191, hf⟩ := zL_e hf
          refine z_callX (w2 := (wL cy ad W_191)) C 2 (kX3_type l zq D (fun k => cy (k + 17)) (fun k => ad (k + 17)) (((((xs (v3 + (1 : Int32)).toNatClampNeg)).toInt64) <<< ((32 : Int32).toInt64 &&& 63)) ||| ((((xs (v3 + (2 : Int32)).toNatClampNeg)).toInt64) &&& (4294967295 : Int64))) (xs (v3 + (3 : Int32)).toNatClampNeg) (l_m W_162) S_191 r_191 hf_191) gL_law_X3_type rfl (by decide +kernel) ⟨by decide, by decide⟩ hI 17 rfl rfl [17, 18, 19, 20, 21, 22, 23, 24, 25, 26, 27, 28] [0, 1, 2, 3, 4, 5, 6, 7, 8, 9, 10, 11, 12, 13, 14, 15, 16] [0, 1, 2, 3, 4, 5, 6, 7, 8, 9, 10, 11, 12, 13, 14, 15, 16, 17, 18, 19, 20, 21, 22, 23, 24, 25, 26, 27, 28] [13, 14, 15, 16, 17, 18, 19, 20, 21, 22, 23] rfl rfl rfl rfl (by decide) rfl (by rw [eW_191]; rfl) rfl rfl hl.1 rfl (Nat.le_of_ble_eq_true rfl) dL_law_191 ⟨by decide, by decide⟩ (st2 := [.int r_191, .int r_162]) rfl (fun H locs hI => ?_)
          refine lv_icmp_eq (tgt := 731) hx hb dL_law_194 (by decide) (fun c_194 => ?_) (fun c_194 => ?_)
          · replace hf := zIt c_194 hf
            exact hb731 (fL_law_b18L L xs n) ih v3 W_191 _ _ _ hf hI (lv_sub hl [0, 1, 2, 3] rfl)
          · replace hf := zIf c_194 hf
            refine lv_iconst (v := 0) hx hb dL_law_197 (by decide) ?_
            exact absurd hf (by decide)
        replace hf := zIf c_32_0 hf
        by_cases c_32_1 : ((xs v3.toNatClampNeg) &&& (31 : Int32)) = 1
        · replace hf := zIt c_32_1 hf
          refine lv_tableIn (tgt := 199) (off := 167) hx hb dL_law_32 (by rw [c_32_1]; decide) (by rw [c_32_1]; decide) (by rw [c_32_1]; rfl) (by decide) ?_
          refine lv_aload_n hx hb dL_law_199 rfl (lv_at hl 1 rfl) ?_
          obtain ⟨r_200, S_200, hf_200, hf⟩ := zB2_s hf
          obtain ⟨W_200, eW_200, hf⟩ := zL_e hf
          refine z_callX (w2 := (wL cy ad W_200)) C 0 (kX2_clear l zq D (fun k => cy (k + 0)) (fun k => ad (k + 0)) (l_x S) S_200 r_200 hf_200) gL_law_X2_clear rfl (by decide +kernel) ⟨by decide, by decide⟩ hI 0 rfl rfl [0, 1, 2, 3, 4, 5, 6, 7, 8, 9, 10, 11, 12, 13, 14, 15, 16] [17, 18, 19, 20, 21, 22, 23, 24, 25, 26, 27, 28] [12, 13, 14, 15, 16, 17, 18, 19, 20, 21, 22, 23, 24, 25, 26, 27, 28, 0, 1, 2, 3, 4, 5, 6, 7, 8, 9, 10, 11] [0, 1, 2, 3, 4, 5, 6, 7, 8, 9, 10, 11, 12] rfl rfl rfl rfl (by decide) rfl (by rw [eW_200]; rfl) rfl rfl hl.1 rfl (Nat.le_of_ble_eq_true rfl) dL_law_200 ⟨by decide, by decide⟩ (st2 := [.int r_200]) rfl (fun H locs hI => ?_)
          refine lv_aload_n hx hb dL_law_203 rfl (lv_at hl 2 rfl) ?_
          obtain ⟨r_204, S_204, hf_204, hf⟩ := zB2_s hf
          obtain ⟨W_204, eW_204, hf⟩ := zL_e hf
          refine z_callX (w2 := (wL cy ad W_204)) C 0 (kX3_clear l zq D (fun k => cy (k + 17)) (fun k => ad (k + 17)) (l_m W_200) S_204 r_204 hf_204) gL_law_X3_clear rfl (by decide +kernel) ⟨by decide, by decide⟩ hI 17 rfl rfl [17, 18, 19, 20, 21, 22, 23, 24, 25, 26, 27, 28] [0, 1, 2, 3, 4, 5, 6, 7, 8, 9, 10, 11, 12, 13, 14, 15, 16] [0, 1, 2, 3, 4, 5, 6, 7, 8, 9, 10, 11, 12, 13, 14, 15, 16, 17, 18, 19, 20, 21, 22, 23, 24, 25, 26, 27, 28] [13, 14, 15, 16, 17, 18, 19, 20, 21, 22, 23] rfl rfl rfl rfl (by decide) rfl (by rw [eW_204]; rfl) rfl rfl hl.1 rfl (Nat.le_of_ble_eq_true rfl) dL_law_204 ⟨by decide, by decide⟩ (st2 := [.int r_204, .int r_200]) rfl (fun H locs hI => ?_)
          refine lv_icmp_eq (tgt := 731) hx hb dL_law_207 (by decide) (fun c_207 => ?_) (fun c_207 => ?_)
          · replace hf := zIt c_207 hf
            exact hb731 (fL_law_b18L L xs n) ih v3 W_204 _ _ _ hf hI (lv_sub hl [0, 1, 2, 3] rfl)
          · replace hf := zIf c_207 hf
            refine lv_iconst (v := 0) hx hb dL_law_210 (by decide) ?_
            exact absurd hf (by decide)
        replace hf := zIf c_32_1 hf
        by_cases c_32_2 : ((xs v3.toNatClampNeg) &&& (31 : Int32)) = 2
        · replace hf := zIt c_32_2 hf
          refine lv_tableIn (tgt := 212) (off := 180) hx hb dL_law_32 (by rw [c_32_2]; decide) (by rw [c_32_2]; decide) (by rw [c_32_2]; rfl) (by decide) ?_
          refine lv_aload_n hx hb dL_law_212 rfl (lv_at hl 1 rfl) ?_
          obtain ⟨r_213, S_213, hf_213, hf⟩ := zB2_s hf
          obtain ⟨W_213, eW_213, hf⟩ := zL_e hf
          refine z_callX (w2 := (wL cy ad W_213)) C 0 (kX2_given l zq D (fun k => cy (k + 0)) (fun k => ad (k + 0)) (l_x S) S_213 r_213 hf_213) gL_law_X2_given rfl (by decide +kernel) ⟨by decide, by decide⟩ hI 0 rfl rfl [0, 1, 2, 3, 4, 5, 6, 7, 8, 9, 10, 11, 12, 13, 14, 15, 16] [17, 18, 19, 20, 21, 22, 23, 24, 25, 26, 27, 28] [12, 13, 14, 15, 16, 17, 18, 19, 20, 21, 22, 23, 24, 25, 26, 27, 28, 0, 1, 2, 3, 4, 5, 6, 7, 8, 9, 10, 11] [0, 1, 2, 3, 4, 5, 6, 7, 8, 9, 10, 11, 12] rfl rfl rfl rfl (by decide) rfl (by rw [eW_213]; rfl) rfl rfl hl.1 rfl (Nat.le_of_ble_eq_true rfl) dL_law_213 ⟨by decide, by decide⟩ (st2 := [.int r_213]) rfl (fun H locs hI => ?_)
          refine lv_aload_n hx hb dL_law_216 rfl (lv_at hl 2 rfl) ?_
          obtain ⟨r_217, S_217, hf_217, hf⟩ := zB2_s hf
          obtain ⟨W_217, eW_217, hf⟩ := zL_e hf
          refine z_callX (w2 := (wL cy ad W_217)) C 0 (kX3_given l zq D (fun k => cy (k + 17)) (fun k => ad (k + 17)) (l_m W_213) S_217 r_217 hf_217) gL_law_X3_given rfl (by decide +kernel) ⟨by decide, by decide⟩ hI 17 rfl rfl [17, 18, 19, 20, 21, 22, 23, 24, 25, 26, 27, 28] [0, 1, 2, 3, 4, 5, 6, 7, 8, 9, 10, 11, 12, 13, 14, 15, 16] [0, 1, 2, 3, 4, 5, 6, 7, 8, 9, 10, 11, 12, 13, 14, 15, 16, 17, 18, 19, 20, 21, 22, 23, 24, 25, 26, 27, 28] [13, 14, 15, 16, 17, 18, 19, 20, 21, 22, 23] rfl rfl rfl rfl (by decide) rfl (by rw [eW_217]; rfl) rfl rfl hl.1 rfl (Nat.le_of_ble_eq_true rfl) dL_law_217 ⟨by decide, by decide⟩ (st2 := [.int r_217, .int r_213]) rfl (fun H locs hI => ?_)
          refine lv_icmp_eq (tgt := 731) hx hb dL_law_220 (by decide) (fun c_220 => ?_) (fun c_220 => ?_)
          · replace hf := zIt c_220 hf
            exact hb731 (fL_law_b18L L xs n) ih v3 W_217 _ _ _ hf hI (lv_sub hl [0, 1, 2, 3] rfl)
          · replace hf := zIf c_220 hf
            refine lv_iconst (v := 0) hx hb dL_law_223 (by decide) ?_
            exact absurd hf (by decide)
        replace hf := zIf c_32_2 hf
        by_cases c_32_3 : ((xs v3.toNatClampNeg) &&& (31 : Int32)) = 3
        · replace hf := zIt c_32_3 hf
          refine lv_tableIn (tgt := 225) (off := 193) hx hb dL_law_32 (by rw [c_32_3]; decide) (by rw [c_32_3]; decide) (by rw [c_32_3]; rfl) (by decide) ?_
          refine lv_aload_n hx hb dL_law_225 rfl (lv_at hl 1 rfl) ?_
          obtain ⟨r_226, S_226, hf_226, hf⟩ := zB2_s hf
          obtain ⟨W_226, eW_226, hf⟩ := zL_e hf
          refine z_callX (w2 := (wL cy ad W_226)) C 0 (kX2_proof l zq D (fun k => cy (k + 0)) (fun k => ad (k + 0)) (l_x S) S_226 r_226 hf_226) gL_law_X2_proof rfl (by decide +kernel) ⟨by decide, by decide⟩ hI 0 rfl rfl [0, 1, 2, 3, 4, 5, 6, 7, 8, 9, 10, 11, 12, 13, 14, 15, 16] [17, 18, 19, 20, 21, 22, 23, 24, 25, 26, 27, 28] [12, 13, 14, 15, 16, 17, 18, 19, 20, 21, 22, 23, 24, 25, 26, 27, 28, 0, 1, 2, 3, 4, 5, 6, 7, 8, 9, 10, 11] [0, 1, 2, 3, 4, 5, 6, 7, 8, 9, 10, 11, 12] rfl rfl rfl rfl (by decide) rfl (by rw [eW_226]; rfl) rfl rfl hl.1 rfl (Nat.le_of_ble_eq_true rfl) dL_law_226 ⟨by decide, by decide⟩ (st2 := [.int r_226]) rfl (fun H locs hI => ?_)
          refine lv_aload_n hx hb dL_law_229 rfl (lv_at hl 2 rfl) ?_
          obtain ⟨r_230, S_230, hf_230, hf⟩ := zB2_s hf
          obtain ⟨W_230, eW_230, hf⟩ := zL_e hf
          refine z_callX (w2 := (wL cy ad W_230)) C 0 (kX3_proof l zq D (fun k => cy (k + 17)) (fun k => ad (k + 17)) (l_m W_226) S_230 r_230 hf_230) gL_law_X3_proof rfl (by decide +kernel) ⟨by decide, by decide⟩ hI 17 rfl rfl [17, 18, 19, 20, 21, 22, 23, 24, 25, 26, 27, 28] [0, 1, 2, 3, 4, 5, 6, 7, 8, 9, 10, 11, 12, 13, 14, 15, 16] [0, 1, 2, 3, 4, 5, 6, 7, 8, 9, 10, 11, 12, 13, 14, 15, 16, 17, 18, 19, 20, 21, 22, 23, 24, 25, 26, 27, 28] [13, 14, 15, 16, 17, 18, 19, 20, 21, 22, 23] rfl rfl rfl rfl (by decide) rfl (by rw [eW_230]; rfl) rfl rfl hl.1 rfl (Nat.le_of_ble_eq_true rfl) dL_law_230 ⟨by decide, by decide⟩ (st2 := [.int r_230, .int r_226]) rfl (fun H locs hI => ?_)
          refine lv_icmp_eq (tgt := 731) hx hb dL_law_233 (by decide) (fun c_233 => ?_) (fun c_233 => ?_)
          · replace hf := zIt c_233 hf
            exact hb731 (fL_law_b18L L xs n) ih v3 W_230 _ _ _ hf hI (lv_sub hl [0, 1, 2, 3] rfl)
          · replace hf := zIf c_233 hf
            refine lv_iconst (v := 0) hx hb dL_law_236 (by decide) ?_
            exact absurd hf (by decide)
        replace hf := zIf c_32_3 hf
        by_cases c_32_4 : ((xs v3.toNatClampNeg) &&& (31 : Int32)) = 4
        · replace hf := zIt c_32_4 hf
          refine lv_tableIn (tgt := 238) (off := 206) hx hb dL_law_32 (by rw [c_32_4]; decide) (by rw [c_32_4]; decide) (by rw [c_32_4]; rfl) (by decide) ?_
          refine lv_aload_n hx hb dL_law_238 rfl (lv_at hl 1 rfl) ?_
          obtain ⟨r_239, S_239, hf_239, hf⟩ := zB2_s hf
          obtain ⟨W_239, eW_239, hf⟩ := zL_e hf
          refine z_callX (w2 := (wL cy ad W_239)) C 0 (kX2_wrong l zq D (fun k => cy (k + 0)) (fun k => ad (k + 0)) (l_x S) S_239 r_239 hf_239) gL_law_X2_wrong rfl (by decide +kernel) ⟨by decide, by decide⟩ hI 0 rfl rfl [0, 1, 2, 3, 4, 5, 6, 7, 8, 9, 10, 11, 12, 13, 14, 15, 16] [17, 18, 19, 20, 21, 22, 23, 24, 25, 26, 27, 28] [12, 13, 14, 15, 16, 17, 18, 19, 20, 21, 22, 23, 24, 25, 26, 27, 28, 0, 1, 2, 3, 4, 5, 6, 7, 8, 9, 10, 11] [0, 1, 2, 3, 4, 5, 6, 7, 8, 9, 10, 11, 12] rfl rfl rfl rfl (by decide) rfl (by rw [eW_239]; rfl) rfl rfl hl.1 rfl (Nat.le_of_ble_eq_true rfl) dL_law_239 ⟨by decide, by decide⟩ (st2 := [.int r_239]) rfl (fun H locs hI => ?_)
          refine lv_aload_n hx hb dL_law_242 rfl (lv_at hl 2 rfl) ?_
          obtain ⟨r_243, S_243, hf_243, hf⟩ := zB2_s hf
          obtain ⟨W_243, eW_243, hf⟩ := zL_e hf
          refine z_callX (w2 := (wL cy ad W_243)) C 0 (kX3_wrong l zq D (fun k => cy (k + 17)) (fun k => ad (k + 17)) (l_m W_239) S_243 r_243 hf_243) gL_law_X3_wrong rfl (by decide +kernel) ⟨by decide, by decide⟩ hI 17 rfl rfl [17, 18, 19, 20, 21, 22, 23, 24, 25, 26, 27, 28] [0, 1, 2, 3, 4, 5, 6, 7, 8, 9, 10, 11, 12, 13, 14, 15, 16] [0, 1, 2, 3, 4, 5, 6, 7, 8, 9, 10, 11, 12, 13, 14, 15, 16, 17, 18, 19, 20, 21, 22, 23, 24, 25, 26, 27, 28] [13, 14, 15, 16, 17, 18, 19, 20, 21, 22, 23] rfl rfl rfl rfl (by decide) rfl (by rw [eW_243]; rfl) rfl rfl hl.1 rfl (Nat.le_of_ble_eq_true rfl) dL_law_243 ⟨by decide, by decide⟩ (st2 := [.int r_243, .int r_239]) rfl (fun H locs hI => ?_)
          refine lv_icmp_eq (tgt := 731) hx hb dL_law_246 (by decide) (fun c_246 => ?_) (fun c_246 => ?_)
          · replace hf := zIt c_246 hf
            exact hb731 (fL_law_b18L L xs n) ih v3 W_243 _ _ _ hf hI (lv_sub hl [0, 1, 2, 3] rfl)
          · replace hf := zIf c_246 hf
            refine lv_iconst (v := 0) hx hb dL_law_249 (by decide) ?_
            exact absurd hf (by decide)
        replace hf := zIf c_32_4 hf
        by_cases c_32_5 : ((xs v3.toNatClampNeg) &&& (31 : Int32)) = 5
        · replace hf := zIt c_32_5 hf
          refine lv_tableIn (tgt := 251) (off := 219) hx hb dL_law_32 (by rw [c_32_5]; decide) (by rw [c_32_5]; decide) (by rw [c_32_5]; rfl) (by decide) ?_
          refine lv_aload_n hx hb dL_law_251 rfl (lv_at hl 1 rfl) ?_
          obtain ⟨r_252, S_252, hf_252, hf⟩ := zB2_s hf
          obtain ⟨W_252, eW_252, hf⟩ := zL_e hf
          refine z_callX (w2 := (wL cy ad W_252)) C 0 (kX2_end l zq D (fun k => cy (k + 0)) (fun k => ad (k + 0)) (l_x S) S_252 r_252 hf_252) gL_law_X2_end rfl (by decide +kernel) ⟨by decide, by decide⟩ hI 0 rfl rfl [0, 1, 2, 3, 4, 5, 6, 7, 8, 9, 10, 11, 12, 13, 14, 15, 16] [17, 18, 19, 20, 21, 22, 23, 24, 25, 26, 27, 28] [12, 13, 14, 15, 16, 17, 18, 19, 20, 21, 22, 23, 24, 25, 26, 27, 28, 0, 1, 2, 3, 4, 5, 6, 7, 8, 9, 10, 11] [0, 1, 2, 3, 4, 5, 6, 7, 8, 9, 10, 11, 12] rfl rfl rfl rfl (by decide) rfl (by rw [eW_252]; rfl) rfl rfl hl.1 rfl (Nat.le_of_ble_eq_true rfl) dL_law_252 ⟨by decide, by decide⟩ (st2 := [.int r_252]) rfl (fun H locs hI => ?_)
          refine lv_aload_n hx hb dL_law_255 rfl (lv_at hl 2 rfl) ?_
          obtain ⟨r_256, S_256, hf_256, hf⟩ := zB2_s hf
          obtain ⟨W_256, eW_256, hf⟩ := zL_e hf
          refine z_callX (w2 := (wL cy ad W_256)) C 0 (kX3_end l zq D (fun k => cy (k + 17)) (fun k => ad (k + 17)) (l_m W_252) S_256 r_256 hf_256) gL_law_X3_end rfl (by decide +kernel) ⟨by decide, by decide⟩ hI 17 rfl rfl [17, 18, 19, 20, 21, 22, 23, 24, 25, 26, 27, 28] [0, 1, 2, 3, 4, 5, 6, 7, 8, 9, 10, 11, 12, 13, 14, 15, 16] [0, 1, 2, 3, 4, 5, 6, 7, 8, 9, 10, 11, 12, 13, 14, 15, 16, 17, 18, 19, 20, 21, 22, 23, 24, 25, 26, 27, 28] [13, 14, 15, 16, 17, 18, 19, 20, 21, 22, 23] rfl rfl rfl rfl (by decide) rfl (by rw [eW_256]; rfl) rfl rfl hl.1 rfl (Nat.le_of_ble_eq_true rfl) dL_law_256 ⟨by decide, by decide⟩ (st2 := [.int r_256, .int r_252]) rfl (fun H locs hI => ?_)
          refine lv_icmp_eq (tgt := 731) hx hb dL_law_259 (by decide) (fun c_259 => ?_) (fun c_259 => ?_)
          · replace hf := zIt c_259 hf
            exact hb731 (fL_law_b18L L xs n) ih v3 W_256 _ _ _ hf hI (lv_sub hl [0, 1, 2, 3] rfl)
          · replace hf := zIf c_259 hf
            refine lv_iconst (v := 0) hx hb dL_law_262 (by decide) ?_
            exact absurd hf (by decide)
        replace hf := zIf c_32_5 hf
        by_cases c_32_6 : ((xs v3.toNatClampNeg) &&& (31 : Int32)) = 6
        · replace hf := zIt c_32_6 hf
          refine lv_tableIn (tgt := 264) (off := 232) hx hb dL_law_32 (by rw [c_32_6]; decide) (by rw [c_32_6]; decide) (by rw [c_32_6]; rfl) (by decide) ?_
          refine lv_aload_n hx hb dL_law_264 rfl (lv_at hl 1 rfl) ?_
          refine lv_aload_n hx hb dL_law_265 rfl (lv_at hl 0 rfl) ?_
          refine lv_iload_n hx hb dL_law_266 rfl (lv_at hl 3 rfl) ?_
          refine lv_iconst (v := 1) hx hb dL_law_267 (by decide) ?_
          refine lv_iadd hx hb dL_law_268 ?_
          obtain ⟨g_269, hf⟩ := zGI_s hf
          refine va_sld hx hb hXs hbl hbA hI.2.2 g_269 dL_law_269 ?_
          obtain ⟨r_270, S_270, hf_270, hf⟩ := zB2_s hf
          obtain ⟨W_270, eW_270, hf⟩ := zL_e hf
          refine z_callX (w2 := (wL cy ad W_270)) C 1 (kX2_line l zq D (fun k => cy (k + 0)) (fun k => ad (k + 0)) (xs (v3 + (1 : Int32)).toNatClampNeg) (l_x S) S_270 r_270 hf_270) gL_law_X2_line rfl (by decide +kernel) ⟨by decide, by decide⟩ hI 0 rfl rfl [0, 1, 2, 3, 4, 5, 6, 7, 8, 9, 10, 11, 12, 13, 14, 15, 16] [17, 18, 19, 20, 21, 22, 23, 24, 25, 26, 27, 28] [12, 13, 14, 15, 16, 17, 18, 19, 20, 21, 22, 23, 24, 25, 26, 27, 28, 0, 1, 2, 3, 4, 5, 6, 7, 8, 9, 10, 11] [0, 1, 2, 3, 4, 5, 6, 7, 8, 9, 10, 11, 12] rfl rfl rfl rfl (by decide) rfl (by rw [eW_270]; rfl) rfl rfl hl.1 rfl (Nat.le_of_ble_eq_true rfl) dL_law_270 ⟨by decide, by decide⟩ (st2 := [.long r_270]) rfl (fun H locs hI => ?_)
          refine lv_aload_n hx hb dL_law_273 rfl (lv_at hl 2 rfl) ?_
          refine lv_aload_n hx hb dL_law_274 rfl (lv_at hl 0 rfl) ?_
          refine lv_iload_n hx hb dL_law_275 rfl (lv_at hl 3 rfl) ?_
          refine lv_iconst (v := 1) hx hb dL_law_276 (by decide) ?_
          refine lv_iadd hx hb dL_law_277 ?_
          obtain ⟨g_278, hf⟩ := zGI_s hf
          refine va_sld hx hb hXs hbl hbA hI.2.2 g_278 dL_law_278 ?_
          obtain ⟨r_279, S_279, hf_279, hf⟩ := zB2_s hf
          obtain ⟨W_279, eW_279, hf⟩ := zL_e hf
          refine z_callX (w2 := (wL cy ad W_279)) C 1 (kX3_line l zq D (fun k => cy (k + 17)) (fun k => ad (k + 17)) (xs (v3 + (1 : Int32)).toNatClampNeg) (l_m W_270) S_279 r_279 hf_279) gL_law_X3_line rfl (by decide +kernel) ⟨by decide, by decide⟩ hI 17 rfl rfl [17, 18, 19, 20, 21, 22, 23, 24, 25, 26, 27, 28] [0, 1, 2, 3, 4, 5, 6, 7, 8, 9, 10, 11, 12, 13, 14, 15, 16] [0, 1, 2, 3, 4, 5, 6, 7, 8, 9, 10, 11, 12, 13, 14, 15, 16, 17, 18, 19, 20, 21, 22, 23, 24, 25, 26, 27, 28] [13, 14, 15, 16, 17, 18, 19, 20, 21, 22, 23] rfl rfl rfl rfl (by decide) rfl (by rw [eW_279]; rfl) rfl rfl hl.1 rfl (Nat.le_of_ble_eq_true rfl) dL_law_279 ⟨by decide, by decide⟩ (st2 := [.long r_279, .long r_270]) rfl (fun H locs hI => ?_)
          refine W.lcmp hx hb dL_law_282 ?_
          refine lv_if_eq (tgt := 731) hx hb dL_law_283 (by decide) (fun c_283 => ?_) (fun c_283 => ?_)
          · replace hf := zIt c_283 hf
            exact hb731 (fL_law_b18L L xs n) ih v3 W_279 _ _ _ hf hI (lv_sub hl [0, 1, 2, 3] rfl)
          · replace hf := zIf c_283 hf
            refine lv_iconst (v := 0) hx hb dL_law_286 (by decide) ?_
            exact absurd hf (by decide)
        replace hf := zIf c_32_6 hf
        by_cases c_32_7 : ((xs v3.toNatClampNeg) &&& (31 : Int32)) = 7
        · replace hf := zIt c_32_7 hf
          refine lv_tableIn (tgt := 288) (off := 256) hx hb dL_law_32 (by rw [c_32_7]; decide) (by rw [c_32_7]; decide) (by rw [c_32_7]; rfl) (by decide) ?_
          refine lv_aload_n hx hb dL_law_288 rfl (lv_at hl 1 rfl) ?_
          refine lv_aload_n hx hb dL_law_289 rfl (lv_at hl 0 rfl) ?_
          refine lv_iload_n hx hb dL_law_290 rfl (lv_at hl 3 rfl) ?_
          refine lv_iconst (v := 1) hx hb dL_law_291 (by decide) ?_
          refine lv_iadd hx hb dL_law_292 ?_
          obtain ⟨g_293, hf⟩ := zGI_s hf
          refine va_sld hx hb hXs hbl hbA hI.2.2 g_293 dL_law_293 ?_
          refine lv_aload_n hx hb dL_law_294 rfl (lv_at hl 0 rfl) ?_
          refine lv_iload_n hx hb dL_law_295 rfl (lv_at hl 3 rfl) ?_
          refine lv_iconst (v := 2) hx hb dL_law_296 (by decide) ?_
          refine lv_iadd hx hb dL_law_297 ?_
          obtain ⟨g_298, hf⟩ := zGI_s hf
          refine va_sld hx hb hXs hbl hbA hI.2.2 g_298 dL_law_298 ?_
          obtain ⟨r_299, S_299, hf_299, hf⟩ := zB2_s hf
          obtain ⟨W_299, eW_299, hf⟩ := zL_e hf
          refine z_callX (w2 := (wL cy ad W_299)) C 2 (kX2_value l zq D (fun k => cy (k + 0)) (fun k => ad (k + 0)) (xs (v3 + (1 : Int32)).toNatClampNeg) (xs (v3 + (2 : Int32)).toNatClampNeg) (l_x S) S_299 r_299 hf_299) gL_law_X2_value rfl (by decide +kernel) ⟨by decide, by decide⟩ hI 0 rfl rfl [0, 1, 2, 3, 4, 5, 6, 7, 8, 9, 10, 11, 12, 13, 14, 15, 16] [17, 18, 19, 20, 21, 22, 23, 24, 25, 26, 27, 28] [12, 13, 14, 15, 16, 17, 18, 19, 20, 21, 22, 23, 24, 25, 26, 27, 28, 0, 1, 2, 3, 4, 5, 6, 7, 8, 9, 10, 11] [0, 1, 2, 3, 4, 5, 6, 7, 8, 9, 10, 11, 12] rfl rfl rfl rfl (by decide) rfl (by rw [eW_299]; rfl) rfl rfl hl.1 rfl (Nat.le_of_ble_eq_true rfl) dL_law_299 ⟨by decide, by decide⟩ (st2 := [.int r_299]) rfl (fun H locs hI => ?_)
          refine lv_aload_n hx hb dL_law_302 rfl (lv_at hl 2 rfl) ?_
          refine lv_aload_n hx hb dL_law_303 rfl (lv_at hl 0 rfl) ?_
          refine lv_iload_n hx hb dL_law_304 rfl (lv_at hl 3 rfl) ?_
          refine lv_iconst (v := 1) hx hb dL_law_305 (by decide) ?_
          refine lv_iadd hx hb dL_law_306 ?_
          obtain ⟨g_307, hf⟩ := zGI_s hf
          refine va_sld hx hb hXs hbl hbA hI.2.2 g_307 dL_law_307 ?_
          refine lv_aload_n hx hb dL_law_308 rfl (lv_at hl 0 rfl) ?_
          refine lv_iload_n hx hb dL_law_309 rfl (lv_at hl 3 rfl) ?_
          refine lv_iconst (v := 2) hx hb dL_law_310 (by decide) ?_
          refine lv_iadd hx hb dL_law_311 ?_
          obtain ⟨g_312, hf⟩ := zGI_s hf
          refine va_sld hx hb hXs hbl hbA hI.2.2 g_312 dL_law_312 ?_
          obtain ⟨r_313, S_313, hf_313, hf⟩ := zB2_s hf
          obtain ⟨W_313, eW_313, hf⟩ := zL_e hf
          refine z_callX (w2 := (wL cy ad W_313)) C 2 (kX3_value l zq D (fun k => cy (k + 17)) (fun k => ad (k + 17)) (xs (v3 + (1 : Int32)).toNatClampNeg) (xs (v3 + (2 : Int32)).toNatClampNeg) (l_m W_299) S_313 r_313 hf_313) gL_law_X3_value rfl (by decide +kernel) ⟨by decide, by decide⟩ hI 17 rfl rfl [17, 18, 19, 20, 21, 22, 23, 24, 25, 26, 27, 28] [0, 1, 2, 3, 4, 5, 6, 7, 8, 9, 10, 11, 12, 13, 14, 15, 16] [0, 1, 2, 3, 4, 5, 6, 7, 8, 9, 10, 11, 12, 13, 14, 15, 16, 17, 18, 19, 20, 21, 22, 23, 24, 25, 26, 27, 28] [13, 14, 15, 16, 17, 18, 19, 20, 21, 22, 23] rfl rfl rfl rfl (by decide) rfl (by rw [eW_313]; rfl) rfl rfl hl.1 rfl (Nat.le_of_ble_eq_true rfl) dL_law_313 ⟨by decide, by decide⟩ (st2 := [.int r_313, .int r_299]) rfl (fun H locs hI => ?_)
          refine lv_icmp_eq (tgt := 731) hx hb dL_law_316 (by decide) (fun c_316 => ?_) (fun c_316 => ?_)
          · replace hf := zIt c_316 hf
            exact hb731 (fL_law_b18L L xs n) ih v3 W_313 _ _ _ hf hI (lv_sub hl [0, 1, 2, 3] rfl)
          · replace hf := zIf c_316 hf
            refine lv_iconst (v := 0) hx hb dL_law_319 (by decide) ?_
            exact absurd hf (by decide)
        replace hf := zIf c_32_7 hf
        by_cases c_32_8 : ((xs v3.toNatClampNeg) &&& (31 : Int32)) = 8
        · replace hf := zIt c_32_8 hf
          refine lv_tableIn (tgt := 321) (off := 289) hx hb dL_law_32 (by rw [c_32_8]; decide) (by rw [c_32_8]; decide) (by rw [c_32_8]; rfl) (by decide) ?_
          refine lv_aload_n hx hb dL_law_321 rfl (lv_at hl 1 rfl) ?_
          refine lv_aload_n hx hb dL_law_322 rfl (lv_at hl 0 rfl) ?_
          refine lv_iload_n hx hb dL_law_323 rfl (lv_at hl 3 rfl) ?_
          refine lv_iconst (v := 1) hx hb dL_law_324 (by decide) ?_
          refine lv_iadd hx hb dL_law_325 ?_
          obtain ⟨g_326, hf⟩ := zGI_s hf
          refine va_sld hx hb hXs hbl hbA hI.2.2 g_326 dL_law_326 ?_
          refine lv_aload_n hx hb dL_law_327 rfl (lv_at hl 0 rfl) ?_
          refine lv_iload_n hx hb dL_law_328 rfl (lv_at hl 3 rfl) ?_
          refine lv_iconst (v := 2) hx hb dL_law_329 (by decide) ?_
          refine lv_iadd hx hb dL_law_330 ?_
          obtain ⟨g_331, hf⟩ := zGI_s hf
          refine va_sld hx hb hXs hbl hbA hI.2.2 g_331 dL_law_331 ?_
          obtain ⟨r_332, S_332, hf_332, hf⟩ := zB2_s hf
          obtain ⟨W_332, eW_332, hf⟩ := zL_e hf
          refine z_callX (w2 := (wL cy ad W_332)) C 2 (kX2_lead l zq D (fun k => cy (k + 0)) (fun k => ad (k + 0)) (xs (v3 + (1 : Int32)).toNatClampNeg) (xs (v3 + (2 : Int32)).toNatClampNeg) (l_x S) S_332 r_332 hf_332) gL_law_X2_lead rfl (by decide +kernel) ⟨by decide, by decide⟩ hI 0 rfl rfl [0, 1, 2, 3, 4, 5, 6, 7, 8, 9, 10, 11, 12, 13, 14, 15, 16] [17, 18, 19, 20, 21, 22, 23, 24, 25, 26, 27, 28] [12, 13, 14, 15, 16, 17, 18, 19, 20, 21, 22, 23, 24, 25, 26, 27, 28, 0, 1, 2, 3, 4, 5, 6, 7, 8, 9, 10, 11] [0, 1, 2, 3, 4, 5, 6, 7, 8, 9, 10, 11, 12] rfl rfl rfl rfl (by decide) rfl (by rw [eW_332]; rfl) rfl rfl hl.1 rfl (Nat.le_of_ble_eq_true rfl) dL_law_332 ⟨by decide, by decide⟩ (st2 := [.int r_332]) rfl (fun H locs hI => ?_)
          refine lv_aload_n hx hb dL_law_335 rfl (lv_at hl 2 rfl) ?_
          refine lv_aload_n hx hb dL_law_336 rfl (lv_at hl 0 rfl) ?_
          refine lv_iload_n hx hb dL_law_337 rfl (lv_at hl 3 rfl) ?_
          refine lv_iconst (v := 1) hx hb dL_law_338 (by decide) ?_
          refine lv_iadd hx hb dL_law_339 ?_
          obtain ⟨g_340, hf⟩ := zGI_s hf
          refine va_sld hx hb hXs hbl hbA hI.2.2 g_340 dL_law_340 ?_
          refine lv_aload_n hx hb dL_law_341 rfl (lv_at hl 0 rfl) ?_
          refine lv_iload_n hx hb dL_law_342 rfl (lv_at hl 3 rfl) ?_
          refine lv_iconst (v := 2) hx hb dL_law_343 (by decide) ?_
          refine lv_iadd hx hb dL_law_344 ?_
          obtain ⟨g_345, hf⟩ := zGI_s hf
          refine va_sld hx hb hXs hbl hbA hI.2.2 g_345 dL_law_345 ?_
          obtain ⟨r_346, S_346, hf_346, hf⟩ := zB2_s hf
          obtain ⟨W_346, eW_346, hf⟩ := zL_e hf
          refine z_callX (w2 := (wL cy ad W_346)) C 2 (kX3_lead l zq D (fun k => cy (k + 17)) (fun k => ad (k + 17)) (xs (v3 + (1 : Int32)).toNatClampNeg) (xs (v3 + (2 : Int32)).toNatClampNeg) (l_m W_332) S_346 r_346 hf_346) gL_law_X3_lead rfl (by decide +kernel) ⟨by decide, by decide⟩ hI 17 rfl rfl [17, 18, 19, 20, 21, 22, 23, 24, 25, 26, 27, 28] [0, 1, 2, 3, 4, 5, 6, 7, 8, 9, 10, 11, 12, 13, 14, 15, 16] [0, 1, 2, 3, 4, 5, 6, 7, 8, 9, 10, 11, 12, 13, 14, 15, 16, 17, 18, 19, 20, 21, 22, 23, 24, 25, 26, 27, 28] [13, 14, 15, 16, 17, 18, 19, 20, 21, 22, 23] rfl rfl rfl rfl (by decide) rfl (by rw [eW_346]; rfl) rfl rfl hl.1 rfl (Nat.le_of_ble_eq_true rfl) dL_law_346 ⟨by decide, by decide⟩ (st2 := [.int r_346, .int r_332]) rfl (fun H locs hI => ?_)
          refine lv_icmp_eq (tgt := 731) hx hb dL_law_349 (by decide) (fun c_349 => ?_) (fun c_349 => ?_)
          · replace hf := zIt c_349 hf
            exact hb731 (fL_law_b18L L xs n) ih v3 W_346 _ _ _ hf hI (lv_sub hl [0, 1, 2, 3] rfl)
          · replace hf := zIf c_349 hf
            refine lv_iconst (v := 0) hx hb dL_law_352 (by decide) ?_
            exact absurd hf (by decide)
        replace hf := zIf c_32_8 hf
        by_cases c_32_9 : ((xs v3.toNatClampNeg) &&& (31 : Int32)) = 9
        · replace hf := zIt c_32_9 hf
          refine lv_tableIn (tgt := 354) (off := 322) hx hb dL_law_32 (by rw [c_32_9]; decide) (by rw [c_32_9]; decide) (by rw [c_32_9]; rfl) (by decide) ?_
          refine lv_aload_n hx hb dL_law_354 rfl (lv_at hl 1 rfl) ?_
          refine lv_aload_n hx hb dL_law_355 rfl (lv_at hl 0 rfl) ?_
          refine lv_iload_n hx hb dL_law_356 rfl (lv_at hl 3 rfl) ?_
          refine lv_iconst (v := 1) hx hb dL_law_357 (by decide) ?_
          refine lv_iadd hx hb dL_law_358 ?_
          obtain ⟨g_359, hf⟩ := zGI_s hf
          refine va_sld hx hb hXs hbl hbA hI.2.2 g_359 dL_law_359 ?_
          refine lv_aload_n hx hb dL_law_360 rfl (lv_at hl 0 rfl) ?_
          refine lv_iload_n hx hb dL_law_361 rfl (lv_at hl 3 rfl) ?_
          refine lv_iconst (v := 2) hx hb dL_law_362 (by decide) ?_
          refine lv_iadd hx hb dL_law_363 ?_
          obtain ⟨g_364, hf⟩ := zGI_s hf
          refine va_sld hx hb hXs hbl hbA hI.2.2 g_364 dL_law_364 ?_
          refine lv_aload_n hx hb dL_law_365 rfl (lv_at hl 0 rfl) ?_
          refine lv_iload_n hx hb dL_law_366 rfl (lv_at hl 3 rfl) ?_
          refine lv_iconst (v := 3) hx hb dL_law_367 (by decide) ?_
          refine lv_iadd hx hb dL_law_368 ?_
          obtain ⟨g_369, hf⟩ := zGI_s hf
          refine va_sld hx hb hXs hbl hbA hI.2.2 g_369 dL_law_369 ?_
          obtain ⟨r_370, S_370, hf_370, hf⟩ := zB2_s hf
          obtain ⟨W_370, eW_370, hf⟩ := zL_e hf
          refine z_callX (w2 := (wL cy ad W_370)) C 3 (kX2_both l zq D (fun k => cy (k + 0)) (fun k => ad (k + 0)) (xs (v3 + (1 : Int32)).toNatClampNeg) (xs (v3 + (2 : Int32)).toNatClampNeg) (xs (v3 + (3 : Int32)).toNatClampNeg) (l_x S) S_370 r_370 hf_370) gL_law_X2_both rfl (by decide +kernel) ⟨by decide, by decide⟩ hI 0 rfl rfl [0, 1, 2, 3, 4, 5, 6, 7, 8, 9, 10, 11, 12, 13, 14, 15, 16] [17, 18, 19, 20, 21, 22, 23, 24, 25, 26, 27, 28] [12, 13, 14, 15, 16, 17, 18, 19, 20, 21, 22, 23, 24, 25, 26, 27, 28, 0, 1, 2, 3, 4, 5, 6, 7, 8, 9, 10, 11] [0, 1, 2, 3, 4, 5, 6, 7, 8, 9, 10, 11, 12] rfl rfl rfl rfl (by decide) rfl (by rw [eW_370]; rfl) rfl rfl hl.1 rfl (Nat.le_of_ble_eq_true rfl) dL_law_370 ⟨by decide, by decide⟩ (st2 := [.long r_370]) rfl (fun H locs hI => ?_)
          refine lv_aload_n hx hb dL_law_373 rfl (lv_at hl 2 rfl) ?_
          refine lv_aload_n hx hb dL_law_374 rfl (lv_at hl 0 rfl) ?_
          refine lv_iload_n hx hb dL_law_375 rfl (lv_at hl 3 rfl) ?_
          refine lv_iconst (v := 1) hx hb dL_law_376 (by decide) ?_
          refine lv_iadd hx hb dL_law_377 ?_
          obtain ⟨g_378, hf⟩ := zGI_s hf
          refine va_sld hx hb hXs hbl hbA hI.2.2 g_378 dL_law_378 ?_
          refine lv_aload_n hx hb dL_law_379 rfl (lv_at hl 0 rfl) ?_
          refine lv_iload_n hx hb dL_law_380 rfl (lv_at hl 3 rfl) ?_
          refine lv_iconst (v := 2) hx hb dL_law_381 (by decide) ?_
          refine lv_iadd hx hb dL_law_382 ?_
          obtain ⟨g_383, hf⟩ := zGI_s hf
          refine va_sld hx hb hXs hbl hbA hI.2.2 g_383 dL_law_383 ?_
          refine lv_aload_n hx hb dL_law_384 rfl (lv_at hl 0 rfl) ?_
          refine lv_iload_n hx hb dL_law_385 rfl (lv_at hl 3 rfl) ?_
          refine lv_iconst (v := 3) hx hb dL_law_386 (by decide) ?_
          refine lv_iadd hx hb dL_law_387 ?_
          obtain ⟨g_388, hf⟩ := zGI_s hf
          refine va_sld hx hb hXs hbl hbA hI.2.2 g_388 dL_law_388 ?_
          obtain ⟨r_389, S_389, hf_389, hf⟩ := zB2_s hf
          obtain ⟨W_389, eW_389, hf⟩ := zL_e hf
          refine z_callX (w2 := (wL cy ad W_389)) C 3 (kX3_both l zq D (fun k => cy (k + 17)) (fun k => ad (k + 17)) (xs (v3 + (1 : Int32)).toNatClampNeg) (xs (v3 + (2 : Int32)).toNatClampNeg) (xs (v3 + (3 : Int32)).toNatClampNeg) (l_m W_370) S_389 r_389 hf_389) gL_law_X3_both rfl (by decide +kernel) ⟨by decide, by decide⟩ hI 17 rfl rfl [17, 18, 19, 20, 21, 22, 23, 24, 25, 26, 27, 28] [0, 1, 2, 3, 4, 5, 6, 7, 8, 9, 10, 11, 12, 13, 14, 15, 16] [0, 1, 2, 3, 4, 5, 6, 7, 8, 9, 10, 11, 12, 13, 14, 15, 16, 17, 18, 19, 20, 21, 22, 23, 24, 25, 26, 27, 28] [13, 14, 15, 16, 17, 18, 19, 20, 21, 22, 23] rfl rfl rfl rfl (by decide) rfl (by rw [eW_389]; rfl) rfl rfl hl.1 rfl (Nat.le_of_ble_eq_true rfl) dL_law_389 ⟨by decide, by decide⟩ (st2 := [.long r_389, .long r_370]) rfl (fun H locs hI => ?_)
          refine W.lcmp hx hb dL_law_392 ?_
          refine lv_if_eq (tgt := 731) hx hb dL_law_393 (by decide) (fun c_393 => ?_) (fun c_393 => ?_)
          · replace hf := zIt c_393 hf
            exact hb731 (fL_law_b18L L xs n) ih v3 W_389 _ _ _ hf hI (lv_sub hl [0, 1, 2, 3] rfl)
          · replace hf := zIf c_393 hf
            refine lv_iconst (v := 0) hx hb dL_law_396 (by decide) ?_
            exact absurd hf (by decide)
        replace hf := zIf c_32_9 hf
        by_cases c_32_10 : ((xs v3.toNatClampNeg) &&& (31 : Int32)) = 10
        · replace hf := zIt c_32_10 hf
          refine lv_tableIn (tgt := 398) (off := 366) hx hb dL_law_32 (by rw [c_32_10]; decide) (by rw [c_32_10]; decide) (by rw [c_32_10]; rfl) (by decide) ?_
          refine lv_aload_n hx hb dL_law_398 rfl (lv_at hl 1 rfl) ?_
          refine lv_aload_n hx hb dL_law_399 rfl (lv_at hl 0 rfl) ?_
          refine lv_iload_n hx hb dL_law_400 rfl (lv_at hl 3 rfl) ?_
          refine lv_iconst (v := 1) hx hb dL_law_401 (by decide) ?_
          refine lv_iadd hx hb dL_law_402 ?_
          obtain ⟨g_403, hf⟩ := zGI_s hf
          refine va_sld hx hb hXs hbl hbA hI.2.2 g_403 dL_law_403 ?_
          refine lv_aload_n hx hb dL_law_404 rfl (lv_at hl 0 rfl) ?_
          refine lv_iload_n hx hb dL_law_405 rfl (lv_at hl 3 rfl) ?_
          refine lv_iconst (v := 2) hx hb dL_law_406 (by decide) ?_
          refine lv_iadd hx hb dL_law_407 ?_
          obtain ⟨g_408, hf⟩ := zGI_s hf
          refine va_sld hx hb hXs hbl hbA hI.2.2 g_408 dL_law_408 ?_
          refine lv_aload_n hx hb dL_law_409 rfl (lv_at hl 0 rfl) ?_
          refine lv_iload_n hx hb dL_law_410 rfl (lv_at hl 3 rfl) ?_
          refine lv_iconst (v := 3) hx hb dL_law_411 (by decide) ?_
          refine lv_iadd hx hb dL_law_412 ?_
          obtain ⟨g_413, hf⟩ := zGI_s hf
          refine va_sld hx hb hXs hbl hbA hI.2.2 g_413 dL_law_413 ?_
          obtain ⟨r_414, S_414, hf_414, hf⟩ := zB2_s hf
          obtain ⟨W_414, eW_414, hf⟩ := zL_e hf
          refine z_callX (w2 := (wL cy ad W_414)) C 3 (kX2_with l zq D (fun k => cy (k + 0)) (fun k => ad (k + 0)) (xs (v3 + (1 : Int32)).toNatClampNeg) (xs (v3 + (2 : Int32)).toNatClampNeg) (xs (v3 + (3 : Int32)).toNatClampNeg) (l_x S) S_414 r_414 hf_414) gL_law_X2_with rfl (by decide +kernel) ⟨by decide, by decide⟩ hI 0 rfl rfl [0, 1, 2, 3, 4, 5, 6, 7, 8, 9, 10, 11, 12, 13, 14, 15, 16] [17, 18, 19, 20, 21, 22, 23, 24, 25, 26, 27, 28] [12, 13, 14, 15, 16, 17, 18, 19, 20, 21, 22, 23, 24, 25, 26, 27, 28, 0, 1, 2, 3, 4, 5, 6, 7, 8, 9, 10, 11] [0, 1, 2, 3, 4, 5, 6, 7, 8, 9, 10, 11, 12] rfl rfl rfl rfl (by decide) rfl (by rw [eW_414]; rfl) rfl rfl hl.1 rfl (Nat.le_of_ble_eq_true rfl) dL_law_414 ⟨by decide, by decide⟩ (st2 := [.long r_414]) rfl (fun H locs hI => ?_)
          refine lv_aload_n hx hb dL_law_417 rfl (lv_at hl 2 rfl) ?_
          refine lv_aload_n hx hb dL_law_418 rfl (lv_at hl 0 rfl) ?_
          refine lv_iload_n hx hb dL_law_419 rfl (lv_at hl 3 rfl) ?_
          refine lv_iconst (v := 1) hx hb dL_law_420 (by decide) ?_
          refine lv_iadd hx hb dL_law_421 ?_
          obtain ⟨g_422, hf⟩ := zGI_s hf
          refine va_sld hx hb hXs hbl hbA hI.2.2 g_422 dL_law_422 ?_
          refine lv_aload_n hx hb dL_law_423 rfl (lv_at hl 0 rfl) ?_
          refine lv_iload_n hx hb dL_law_424 rfl (lv_at hl 3 rfl) ?_
          refine lv_iconst (v := 2) hx hb dL_law_425 (by decide) ?_
          refine lv_iadd hx hb dL_law_426 ?_
          obtain ⟨g_427, hf⟩ := zGI_s hf
          refine va_sld hx hb hXs hbl hbA hI.2.2 g_427 dL_law_427 ?_
          refine lv_aload_n hx hb dL_law_428 rfl (lv_at hl 0 rfl) ?_
          refine lv_iload_n hx hb dL_law_429 rfl (lv_at hl 3 rfl) ?_
          refine lv_iconst (v := 3) hx hb dL_law_430 (by decide) ?_
          refine lv_iadd hx hb dL_law_431 ?_
          obtain ⟨g_432, hf⟩ := zGI_s hf
          refine va_sld hx hb hXs hbl hbA hI.2.2 g_432 dL_law_432 ?_
          obtain ⟨r_433, S_433, hf_433, hf⟩ := zB2_s hf
          obtain ⟨W_433, eW_433, hf⟩ := zL_e hf
          refine z_callX (w2 := (wL cy ad W_433)) C 3 (kX3_with l zq D (fun k => cy (k + 17)) (fun k => ad (k + 17)) (xs (v3 + (1 : Int32)).toNatClampNeg) (xs (v3 + (2 : Int32)).toNatClampNeg) (xs (v3 + (3 : Int32)).toNatClampNeg) (l_m W_414) S_433 r_433 hf_433) gL_law_X3_with rfl (by decide +kernel) ⟨by decide, by decide⟩ hI 17 rfl rfl [17, 18, 19, 20, 21, 22, 23, 24, 25, 26, 27, 28] [0, 1, 2, 3, 4, 5, 6, 7, 8, 9, 10, 11, 12, 13, 14, 15, 16] [0, 1, 2, 3, 4, 5, 6, 7, 8, 9, 10, 11, 12, 13, 14, 15, 16, 17, 18, 19, 20, 21, 22, 23, 24, 25, 26, 27, 28] [13, 14, 15, 16, 17, 18, 19, 20, 21, 22, 23] rfl rfl rfl rfl (by decide) rfl (by rw [eW_433]; rfl) rfl rfl hl.1 rfl (Nat.le_of_ble_eq_true rfl) dL_law_433 ⟨by decide, by decide⟩ (st2 := [.long r_433, .long r_414]) rfl (fun H locs hI => ?_)
          refine W.lcmp hx hb dL_law_436 ?_
          refine lv_if_eq (tgt := 731) hx hb dL_law_437 (by decide) (fun c_437 => ?_) (fun c_437 => ?_)
          · replace hf := zIt c_437 hf
            exact hb731 (fL_law_b18L L xs n) ih v3 W_433 _ _ _ hf hI (lv_sub hl [0, 1, 2, 3] rfl)
          · replace hf := zIf c_437 hf
            refine lv_iconst (v := 0) hx hb dL_law_440 (by decide) ?_
            exact absurd hf (by decide)
        replace hf := zIf c_32_10 hf
        by_cases c_32_11 : ((xs v3.toNatClampNeg) &&& (31 : Int32)) = 11
        · replace hf := zIt c_32_11 hf
          refine lv_tableIn (tgt := 442) (off := 410) hx hb dL_law_32 (by rw [c_32_11]; decide) (by rw [c_32_11]; decide) (by rw [c_32_11]; rfl) (by decide) ?_
          refine lv_aload_n hx hb dL_law_442 rfl (lv_at hl 1 rfl) ?_
          obtain ⟨r_443, S_443, hf_443, hf⟩ := zB2_s hf
          obtain ⟨W_443, eW_443, hf⟩ := zL_e hf
          refine z_callX (w2 := (wL cy ad W_443)) C 0 (kX2_common l zq D (fun k => cy (k + 0)) (fun k => ad (k + 0)) (l_x S) S_443 r_443 hf_443) gL_law_X2_common rfl (by decide +kernel) ⟨by decide, by decide⟩ hI 0 rfl rfl [0, 1, 2, 3, 4, 5, 6, 7, 8, 9, 10, 11, 12, 13, 14, 15, 16] [17, 18, 19, 20, 21, 22, 23, 24, 25, 26, 27, 28] [12, 13, 14, 15, 16, 17, 18, 19, 20, 21, 22, 23, 24, 25, 26, 27, 28, 0, 1, 2, 3, 4, 5, 6, 7, 8, 9, 10, 11] [0, 1, 2, 3, 4, 5, 6, 7, 8, 9, 10, 11, 12] rfl rfl rfl rfl (by decide) rfl (by rw [eW_443]; rfl) rfl rfl hl.1 rfl (Nat.le_of_ble_eq_true rfl) dL_law_443 ⟨by decide, by decide⟩ (st2 := [.long r_443]) rfl (fun H locs hI => ?_)
          refine lv_aload_n hx hb dL_law_446 rfl (lv_at hl 2 rfl) ?_
          obtain ⟨r_447, S_447, hf_447, hf⟩ := zB2_s hf
          obtain ⟨W_447, eW_447, hf⟩ := zL_e hf
          refine z_callX (w2 := (wL cy ad W_447)) C 0 (kX3_common l zq D (fun k => cy (k + 17)) (fun k => ad (k + 17)) (l_m W_443) S_447 r_447 hf_447) gL_law_X3_common rfl (by decide +kernel) ⟨by decide, by decide⟩ hI 17 rfl rfl [17, 18, 19, 20, 21, 22, 23, 24, 25, 26, 27, 28] [0, 1, 2, 3, 4, 5, 6, 7, 8, 9, 10, 11, 12, 13, 14, 15, 16] [0, 1, 2, 3, 4, 5, 6, 7, 8, 9, 10, 11, 12, 13, 14, 15, 16, 17, 18, 19, 20, 21, 22, 23, 24, 25, 26, 27, 28] [13, 14, 15, 16, 17, 18, 19, 20, 21, 22, 23] rfl rfl rfl rfl (by decide) rfl (by rw [eW_447]; rfl) rfl rfl hl.1 rfl (Nat.le_of_ble_eq_true rfl) dL_law_447 ⟨by decide, by decide⟩ (st2 := [.long r_447, .long r_443]) rfl (fun H locs hI => ?_)
          refine W.lcmp hx hb dL_law_450 ?_
          refine lv_if_eq (tgt := 731) hx hb dL_law_451 (by decide) (fun c_451 => ?_) (fun c_451 => ?_)
          · replace hf := zIt c_451 hf
            exact hb731 (fL_law_b18L L xs n) ih v3 W_447 _ _ _ hf hI (lv_sub hl [0, 1, 2, 3] rfl)
          · replace hf := zIf c_451 hf
            refine lv_iconst (v := 0) hx hb dL_law_454 (by decide) ?_
            exact absurd hf (by decide)
        replace hf := zIf c_32_11 hf
        by_cases c_32_12 : ((xs v3.toNatClampNeg) &&& (31 : Int32)) = 12
        · replace hf := zIt c_32_12 hf
          refine lv_tableIn (tgt := 456) (off := 424) hx hb dL_law_32 (by rw [c_32_12]; decide) (by rw [c_32_12]; decide) (by rw [c_32_12]; rfl) (by decide) ?_
          refine lv_aload_n hx hb dL_law_456 rfl (lv_at hl 1 rfl) ?_
          refine lv_aload_n hx hb dL_law_457 rfl (lv_at hl 0 rfl) ?_
          refine lv_iload_n hx hb dL_law_458 rfl (lv_at hl 3 rfl) ?_
          refine lv_iconst (v := 1) hx hb dL_law_459 (by decide) ?_
          refine lv_iadd hx hb dL_law_460 ?_
          obtain ⟨g_461, hf⟩ := zGI_s hf
          refine va_sld hx hb hXs hbl hbA hI.2.2 g_461 dL_law_461 ?_
          obtain ⟨r_462, S_462, hf_462, hf⟩ := zB2_s hf
          obtain ⟨W_462, eW_462, hf⟩ := zL_e hf
          refine z_callX (w2 := (wL cy ad W_462)) C 1 (kX2_follows l zq D (fun k => cy (k + 0)) (fun k => ad (k + 0)) (xs (v3 + (1 : Int32)).toNatClampNeg) (l_x S) S_462 r_462 hf_462) gL_law_X2_follows rfl (by decide +kernel) ⟨by decide, by decide⟩ hI 0 rfl rfl [0, 1, 2, 3, 4, 5, 6, 7, 8, 9, 10, 11, 12, 13, 14, 15, 16] [17, 18, 19, 20, 21, 22, 23, 24, 25, 26, 27, 28] [12, 13, 14, 15, 16, 17, 18, 19, 20, 21, 22, 23, 24, 25, 26, 27, 28, 0, 1, 2, 3, 4, 5, 6, 7, 8, 9, 10, 11] [0, 1, 2, 3, 4, 5, 6, 7, 8, 9, 10, 11, 12] rfl rfl rfl rfl (by decide) rfl (by rw [eW_462]; rfl) rfl rfl hl.1 rfl (Nat.le_of_ble_eq_true rfl) dL_law_462 ⟨by decide, by decide⟩ (st2 := [.int r_462]) rfl (fun H locs hI => ?_)
          refine lv_aload_n hx hb dL_law_465 rfl (lv_at hl 2 rfl) ?_
          refine lv_aload_n hx hb dL_law_466 rfl (lv_at hl 0 rfl) ?_
          refine lv_iload_n hx hb dL_law_467 rfl (lv_at hl 3 rfl) ?_
          refine lv_iconst (v := 1) hx hb dL_law_468 (by decide) ?_
          refine lv_iadd hx hb dL_law_469 ?_
          obtain ⟨g_470, hf⟩ := zGI_s hf
          refine va_sld hx hb hXs hbl hbA hI.2.2 g_470 dL_law_470 ?_
          obtain ⟨r_471, S_471, hf_471, hf⟩ := zB2_s hf
          obtain ⟨W_471, eW_471, hf⟩ := zL_e hf
          refine z_callX (w2 := (wL cy ad W_471)) C 1 (kX3_follows l zq D (fun k => cy (k + 17)) (fun k => ad (k + 17)) (xs (v3 + (1 : Int32)).toNatClampNeg) (l_m W_462) S_471 r_471 hf_471) gL_law_X3_follows rfl (by decide +kernel) ⟨by decide, by decide⟩ hI 17 rfl rfl [17, 18, 19, 20, 21, 22, 23, 24, 25, 26, 27, 28] [0, 1, 2, 3, 4, 5, 6, 7, 8, 9, 10, 11, 12, 13, 14, 15, 16] [0, 1, 2, 3, 4, 5, 6, 7, 8, 9, 10, 11, 12, 13, 14, 15, 16, 17, 18, 19, 20, 21, 22, 23, 24, 25, 26, 27, 28] [13, 14, 15, 16, 17, 18, 19, 20, 21, 22, 23] rfl rfl rfl rfl (by decide) rfl (by rw [eW_471]; rfl) rfl rfl hl.1 rfl (Nat.le_of_ble_eq_true rfl) dL_law_471 ⟨by decide, by decide⟩ (st2 := [.int r_471, .int r_462]) rfl (fun H locs hI => ?_)
          refine lv_icmp_eq (tgt := 731) hx hb dL_law_474 (by decide) (fun c_474 => ?_) (fun c_474 => ?_)
          · replace hf := zIt c_474 hf
            exact hb731 (fL_law_b18L L xs n) ih v3 W_471 _ _ _ hf hI (lv_sub hl [0, 1, 2, 3] rfl)
          · replace hf := zIf c_474 hf
            refine lv_iconst (v := 0) hx hb dL_law_477 (by decide) ?_
            exact absurd hf (by decide)
        replace hf := zIf c_32_12 hf
        by_cases c_32_13 : ((xs v3.toNatClampNeg) &&& (31 : Int32)) = 13
        · replace hf := zIt c_32_13 hf
          refine lv_tableIn (tgt := 479) (off := 447) hx hb dL_law_32 (by rw [c_32_13]; decide) (by rw [c_32_13]; decide) (by rw [c_32_13]; rfl) (by decide) ?_
          refine lv_aload_n hx hb dL_law_479 rfl (lv_at hl 1 rfl) ?_
          obtain ⟨r_480, S_480, hf_480, hf⟩ := zB2_s hf
          obtain ⟨W_480, eW_480, hf⟩ := zL_e hf
          refine z_callX (w2 := (wL cy ad W_480)) C 0 (kX2_standing l zq D (fun k => cy (k + 0)) (fun k => ad (k + 0)) (l_x S) S_480 r_480 hf_480) gL_law_X2_standing rfl (by decide +kernel) ⟨by decide, by decide⟩ hI 0 rfl rfl [0, 1, 2, 3, 4, 5, 6, 7, 8, 9, 10, 11, 12, 13, 14, 15, 16] [17, 18, 19, 20, 21, 22, 23, 24, 25, 26, 27, 28] [12, 13, 14, 15, 16, 17, 18, 19, 20, 21, 22, 23, 24, 25, 26, 27, 28, 0, 1, 2, 3, 4, 5, 6, 7, 8, 9, 10, 11] [0, 1, 2, 3, 4, 5, 6, 7, 8, 9, 10, 11, 12] rfl rfl rfl rfl (by decide) rfl (by rw [eW_480]; rfl) rfl rfl hl.1 rfl (Nat.le_of_ble_eq_true rfl) dL_law_480 ⟨by decide, by decide⟩ (st2 := [.long r_480]) rfl (fun H locs hI => ?_)
          refine lv_aload_n hx hb dL_law_483 rfl (lv_at hl 2 rfl) ?_
          obtain ⟨r_484, S_484, hf_484, hf⟩ := zB2_s hf
          obtain ⟨W_484, eW_484, hf⟩ := zL_e hf
          refine z_callX (w2 := (wL cy ad W_484)) C 0 (kX3_standing l zq D (fun k => cy (k + 17)) (fun k => ad (k + 17)) (l_m W_480) S_484 r_484 hf_484) gL_law_X3_standing rfl (by decide +kernel) ⟨by decide, by decide⟩ hI 17 rfl rfl [17, 18, 19, 20, 21, 22, 23, 24, 25, 26, 27, 28] [0, 1, 2, 3, 4, 5, 6, 7, 8, 9, 10, 11, 12, 13, 14, 15, 16] [0, 1, 2, 3, 4, 5, 6, 7, 8, 9, 10, 11, 12, 13, 14, 15, 16, 17, 18, 19, 20, 21, 22, 23, 24, 25, 26, 27, 28] [13, 14, 15, 16, 17, 18, 19, 20, 21, 22, 23] rfl rfl rfl rfl (by decide) rfl (by rw [eW_484]; rfl) rfl rfl hl.1 rfl (Nat.le_of_ble_eq_true rfl) dL_law_484 ⟨by decide, by decide⟩ (st2 := [.long r_484, .long r_480]) rfl (fun H locs hI => ?_)
          refine W.lcmp hx hb dL_law_487 ?_
          refine lv_if_eq (tgt := 731) hx hb dL_law_488 (by decide) (fun c_488 => ?_) (fun c_488 => ?_)
          · replace hf := zIt c_488 hf
            exact hb731 (fL_law_b18L L xs n) ih v3 W_484 _ _ _ hf hI (lv_sub hl [0, 1, 2, 3] rfl)
          · replace hf := zIf c_488 hf
            refine lv_iconst (v := 0) hx hb dL_law_491 (by decide) ?_
            exact absurd hf (by decide)
        replace hf := zIf c_32_13 hf
        by_cases c_32_14 : ((xs v3.toNatClampNeg) &&& (31 : Int32)) = 14
        · replace hf := zIt c_32_14 hf
          refine lv_tableIn (tgt := 493) (off := 461) hx hb dL_law_32 (by rw [c_32_14]; decide) (by rw [c_32_14]; decide) (by rw [c_32_14]; rfl) (by decide) ?_
          refine lv_aload_n hx hb dL_law_493 rfl (lv_at hl 1 rfl) ?_
          refine lv_aload_n hx hb dL_law_494 rfl (lv_at hl 0 rfl) ?_
          refine lv_iload_n hx hb dL_law_495 rfl (lv_at hl 3 rfl) ?_
          refine lv_iconst (v := 1) hx hb dL_law_496 (by decide) ?_
          refine lv_iadd hx hb dL_law_497 ?_
          obtain ⟨g_498, hf⟩ := zGI_s hf
          refine va_sld hx hb hXs hbl hbA hI.2.2 g_498 dL_law_498 ?_
          obtain ⟨r_499, S_499, hf_499, hf⟩ := zB2_s hf
          obtain ⟨W_499, eW_499, hf⟩ := zL_e hf
          refine z_callX (w2 := (wL cy ad W_499)) C 1 (kX2_left l zq D (fun k => cy (k + 0)) (fun k => ad (k + 0)) (xs (v3 + (1 : Int32)).toNatClampNeg) (l_x S) S_499 r_499 hf_499) gL_law_X2_left rfl (by decide +kernel) ⟨by decide, by decide⟩ hI 0 rfl rfl [0, 1, 2, 3, 4, 5, 6, 7, 8, 9, 10, 11, 12, 13, 14, 15, 16] [17, 18, 19, 20, 21, 22, 23, 24, 25, 26, 27, 28] [12, 13, 14, 15, 16, 17, 18, 19, 20, 21, 22, 23, 24, 25, 26, 27, 28, 0, 1, 2, 3, 4, 5, 6, 7, 8, 9, 10, 11] [0, 1, 2, 3, 4, 5, 6, 7, 8, 9, 10, 11, 12] rfl rfl rfl rfl (by decide) rfl (by rw [eW_499]; rfl) rfl rfl hl.1 rfl (Nat.le_of_ble_eq_true rfl) dL_law_499 ⟨by decide, by decide⟩ (st2 := [.long r_499]) rfl (fun H locs hI => ?_)
          refine lv_aload_n hx hb dL_law_502 rfl (lv_at hl 2 rfl) ?_
          refine lv_aload_n hx hb dL_law_503 rfl (lv_at hl 0 rfl) ?_
          refine lv_iload_n hx hb dL_law_504 rfl (lv_at hl 3 rfl) ?_
          refine lv_iconst (v := 1) hx hb dL_law_505 (by decide) ?_
          refine lv_iadd hx hb dL_law_506 ?_
          obtain ⟨g_507, hf⟩ := zGI_s hf
          refine va_sld hx hb hXs hbl hbA hI.2.2 g_507 dL_law_507 ?_
          obtain ⟨r_508, S_508, hf_508, hf⟩ := zB2_s hf
          obtain ⟨W_508, eW_508, hf⟩ := zL_e hf
          refine z_callX (w2 := (wL cy ad W_508)) C 1 (kX3_left l zq D (fun k => cy (k + 17)) (fun k => ad (k + 17)) (xs (v3 + (1 : Int32)).toNatClampNeg) (l_m W_499) S_508 r_508 hf_508) gL_law_X3_left rfl (by decide +kernel) ⟨by decide, by decide⟩ hI 17 rfl rfl [17, 18, 19, 20, 21, 22, 23, 24, 25, 26, 27, 28] [0, 1, 2, 3, 4, 5, 6, 7, 8, 9, 10, 11, 12, 13, 14, 15, 16] [0, 1, 2, 3, 4, 5, 6, 7, 8, 9, 10, 11, 12, 13, 14, 15, 16, 17, 18, 19, 20, 21, 22, 23, 24, 25, 26, 27, 28] [13, 14, 15, 16, 17, 18, 19, 20, 21, 22, 23] rfl rfl rfl rfl (by decide) rfl (by rw [eW_508]; rfl) rfl rfl hl.1 rfl (Nat.le_of_ble_eq_true rfl) dL_law_508 ⟨by decide, by decide⟩ (st2 := [.long r_508, .long r_499]) rfl (fun H locs hI => ?_)
          refine W.lcmp hx hb dL_law_511 ?_
          refine lv_if_eq (tgt := 731) hx hb dL_law_512 (by decide) (fun c_512 => ?_) (fun c_512 => ?_)
          · replace hf := zIt c_512 hf
            exact hb731 (fL_law_b18L L xs n) ih v3 W_508 _ _ _ hf hI (lv_sub hl [0, 1, 2, 3] rfl)
          · replace hf := zIf c_512 hf
            refine lv_iconst (v := 0) hx hb dL_law_515 (by decide) ?_
            exact absurd hf (by decide)
        replace hf := zIf c_32_14 hf
        by_cases c_32_15 : ((xs v3.toNatClampNeg) &&& (31 : Int32)) = 15
        · replace hf := zIt c_32_15 hf
          refine lv_tableIn (tgt := 517) (off := 485) hx hb dL_law_32 (by rw [c_32_15]; decide) (by rw [c_32_15]; decide) (by rw [c_32_15]; rfl) (by decide) ?_
          refine lv_aload_n hx hb dL_law_517 rfl (lv_at hl 1 rfl) ?_
          refine lv_aload_n hx hb dL_law_518 rfl (lv_at hl 0 rfl) ?_
          refine lv_iload_n hx hb dL_law_519 rfl (lv_at hl 3 rfl) ?_
          refine lv_iconst (v := 1) hx hb dL_law_520 (by decide) ?_
          refine lv_iadd hx hb dL_law_521 ?_
          obtain ⟨g_522, hf⟩ := zGI_s hf
          refine va_sld hx hb hXs hbl hbA hI.2.2 g_522 dL_law_522 ?_
          refine lv_i2l hx hb dL_law_523 rfl ?_
          refine lv_bipush (v := 32) hx hb dL_law_524 (by decide) ?_
          refine lv_lshl hx hb dL_law_526 rfl ?_
          refine lv_aload_n hx hb dL_law_527 rfl (lv_at hl 0 rfl) ?_
          refine lv_iload_n hx hb dL_law_528 rfl (lv_at hl 3 rfl) ?_
          refine lv_iconst (v := 2) hx hb dL_law_529 (by decide) ?_
          refine lv_iadd hx hb dL_law_530 ?_
          obtain ⟨g_531, hf⟩ := zGI_s hf
          refine va_sld hx hb hXs hbl hbA hI.2.2 g_531 dL_law_531 ?_
          refine lv_i2l hx hb dL_law_532 rfl ?_
          refine lv_ldc2 hx hb hown (hts (.constantLong RL 13 (4294967295)) (by decide +kernel)) dL_law_533 ?_
          refine lv_land hx hb dL_law_536 ?_
          refine lv_lor hx hb dL_law_537 ?_
          obtain ⟨r_538, S_538, hf_538, hf⟩ := zB2_s hf
          obtain ⟨W_538, eW_538, hf⟩ := zL_e hf
          refine z_callX (w2 := (wL cy ad W_538)) C 1 (kX2_rest l zq D (fun k => cy (k + 0)) (fun k => ad (k + 0)) (((((xs (v3 + (1 : Int32)).toNatClampNeg)).toInt64) <<< ((32 : Int32).toInt64 &&& 63)) ||| ((((xs (v3 + (2 : Int32)).toNatClampNeg)).toInt64) &&& (4294967295 : Int64))) (l_x S) S_538 r_538 hf_538) gL_law_X2_rest rfl (by decide +kernel) ⟨by decide, by decide⟩ hI 0 rfl rfl [0, 1, 2, 3, 4, 5, 6, 7, 8, 9, 10, 11, 12, 13, 14, 15, 16] [17, 18, 19, 20, 21, 22, 23, 24, 25, 26, 27, 28] [12, 13, 14, 15, 16, 17, 18, 19, 20, 21, 22, 23, 24, 25, 26, 27, 28, 0, 1, 2, 3, 4, 5, 6, 7, 8, 9, 10, 11] [0, 1, 2, 3, 4, 5, 6, 7, 8, 9, 10, 11, 12] rfl rfl rfl rfl (by decide) rfl (by rw [eW_538]; rfl) rfl rfl hl.1 rfl (Nat.le_of_ble_eq_true rfl) dL_law_538 ⟨by decide, by decide⟩ (st2 := [.long r_538]) rfl (fun H locs hI => ?_)
          refine lv_aload_n hx hb dL_law_541 rfl (lv_at hl 2 rfl) ?_
          refine lv_aload_n hx hb dL_law_542 rfl (lv_at hl 0 rfl) ?_
          refine lv_iload_n hx hb dL_law_543 rfl (lv_at hl 3 rfl) ?_
          refine lv_iconst (v := 1) hx hb dL_law_544 (by decide) ?_
          refine lv_iadd hx hb dL_law_545 ?_
          obtain ⟨g_546, hf⟩ := zGI_s hf
          refine va_sld hx hb hXs hbl hbA hI.2.2 g_546 dL_law_546 ?_
          refine lv_i2l hx hb dL_law_547 rfl ?_
          refine lv_bipush (v := 32) hx hb dL_law_548 (by decide) ?_
          refine lv_lshl hx hb dL_law_550 rfl ?_
          refine lv_aload_n hx hb dL_law_551 rfl (lv_at hl 0 rfl) ?_
          refine lv_iload_n hx hb dL_law_552 rfl (lv_at hl 3 rfl) ?_
          refine lv_iconst (v := 2) hx hb dL_law_553 (by decide) ?_
          refine lv_iadd hx hb dL_law_554 ?_
          obtain ⟨g_555, hf⟩ := zGI_s hf
          refine va_sld hx hb hXs hbl hbA hI.2.2 g_555 dL_law_555 ?_
          refine lv_i2l hx hb dL_law_556 rfl ?_
          refine lv_ldc2 hx hb hown (hts (.constantLong RL 13 (4294967295)) (by decide +kernel)) dL_law_557 ?_
          refine lv_land hx hb dL_law_560 ?_
          refine lv_lor hx hb dL_law_561 ?_
          obtain ⟨r_562, S_562, hf_562, hf⟩ := zB2_s hf
          obtain ⟨W_562, eW_562, hf⟩ := zL_e hf
          refine z_callX (w2 := (wL cy ad W_562)) C 1 (kX3_rest l zq D (fun k => cy (k + 17)) (fun k => ad (k + 17)) (((((xs (v3 + (1 : Int32)).toNatClampNeg)).toInt64) <<< ((32 : Int32).toInt64 &&& 63)) ||| ((((xs (v3 + (2 : Int32)).toNatClampNeg)).toInt64) &&& (4294967295 : Int64))) (l_m W_538) S_562 r_562 hf_562) gL_law_X3_rest rfl (by decide +kernel) ⟨by decide, by decide⟩ hI 17 rfl rfl [17, 18, 19, 20, 21, 22, 23, 24, 25, 26, 27, 28] [0, 1, 2, 3, 4, 5, 6, 7, 8, 9, 10, 11, 12, 13, 14, 15, 16] [0, 1, 2, 3, 4, 5, 6, 7, 8, 9, 10, 11, 12, 13, 14, 15, 16, 17, 18, 19, 20, 21, 22, 23, 24, 25, 26, 27, 28] [13, 14, 15, 16, 17, 18, 19, 20, 21, 22, 23] rfl rfl rfl rfl (by decide) rfl (by rw [eW_562]; rfl) rfl rfl hl.1 rfl (Nat.le_of_ble_eq_true rfl) dL_law_562 ⟨by decide, by decide⟩ (st2 := [.long r_562, .long r_538]) rfl (fun H locs hI => ?_)
          refine W.lcmp hx hb dL_law_565 ?_
          refine lv_if_eq (tgt := 731) hx hb dL_law_566 (by decide) (fun c_566 => ?_) (fun c_566 => ?_)
          · replace hf := zIt c_566 hf
            exact hb731 (fL_law_b18L L xs n) ih v3 W_562 _ _ _ hf hI (lv_sub hl [0, 1, 2, 3] rfl)
          · replace hf := zIf c_566 hf
            refine lv_iconst (v := 0) hx hb dL_law_569 (by decide) ?_
            exact absurd hf (by decide)
        replace hf := zIf c_32_15 hf
        by_cases c_32_16 : ((xs v3.toNatClampNeg) &&& (31 : Int32)) = 16
        · replace hf := zIt c_32_16 hf
          refine lv_tableIn (tgt := 571) (off := 539) hx hb dL_law_32 (by rw [c_32_16]; decide) (by rw [c_32_16]; decide) (by rw [c_32_16]; rfl) (by decide) ?_
          refine lv_aload_n hx hb dL_law_571 rfl (lv_at hl 1 rfl) ?_
          refine lv_aload_n hx hb dL_law_572 rfl (lv_at hl 0 rfl) ?_
          refine lv_iload_n hx hb dL_law_573 rfl (lv_at hl 3 rfl) ?_
          refine lv_iconst (v := 1) hx hb dL_law_574 (by decide) ?_
          refine lv_iadd hx hb dL_law_575 ?_
          obtain ⟨g_576, hf⟩ := zGI_s hf
          refine va_sld hx hb hXs hbl hbA hI.2.2 g_576 dL_law_576 ?_
          obtain ⟨r_577, S_577, hf_577, hf⟩ := zB2_s hf
          obtain ⟨W_577, eW_577, hf⟩ := zL_e hf
          refine z_callX (w2 := (wL cy ad W_577)) C 1 (kX2_base l zq D (fun k => cy (k + 0)) (fun k => ad (k + 0)) (xs (v3 + (1 : Int32)).toNatClampNeg) (l_x S) S_577 r_577 hf_577) gL_law_X2_base rfl (by decide +kernel) ⟨by decide, by decide⟩ hI 0 rfl rfl [0, 1, 2, 3, 4, 5, 6, 7, 8, 9, 10, 11, 12, 13, 14, 15, 16] [17, 18, 19, 20, 21, 22, 23, 24, 25, 26, 27, 28] [12, 13, 14, 15, 16, 17, 18, 19, 20, 21, 22, 23, 24, 25, 26, 27, 28, 0, 1, 2, 3, 4, 5, 6, 7, 8, 9, 10, 11] [0, 1, 2, 3, 4, 5, 6, 7, 8, 9, 10, 11, 12] rfl rfl rfl rfl (by decide) rfl (by rw [eW_577]; rfl) rfl rfl hl.1 rfl (Nat.le_of_ble_eq_true rfl) dL_law_577 ⟨by decide, by decide⟩ (st2 := [.long r_577]) rfl (fun H locs hI => ?_)
          refine lv_aload_n hx hb dL_law_580 rfl (lv_at hl 2 rfl) ?_
          refine lv_aload_n hx hb dL_law_581 rfl (lv_at hl 0 rfl) ?_
          refine lv_iload_n hx hb dL_law_582 rfl (lv_at hl 3 rfl) ?_
          refine lv_iconst (v := 1) hx hb dL_law_583 (by decide) ?_
          refine lv_iadd hx hb dL_law_584 ?_
          obtain ⟨g_585, hf⟩ := zGI_s hf
          refine va_sld hx hb hXs hbl hbA hI.2.2 g_585 dL_law_585 ?_
          obtain ⟨r_586, S_586, hf_586, hf⟩ := zB2_s hf
          obtain ⟨W_586, eW_586, hf⟩ := zL_e hf
          refine z_callX (w2 := (wL cy ad W_586)) C 1 (kX3_base l zq D (fun k => cy (k + 17)) (fun k => ad (k + 17)) (xs (v3 + (1 : Int32)).toNatClampNeg) (l_m W_577) S_586 r_586 hf_586) gL_law_X3_base rfl (by decide +kernel) ⟨by decide, by decide⟩ hI 17 rfl rfl [17, 18, 19, 20, 21, 22, 23, 24, 25, 26, 27, 28] [0, 1, 2, 3, 4, 5, 6, 7, 8, 9, 10, 11, 12, 13, 14, 15, 16] [0, 1, 2, 3, 4, 5, 6, 7, 8, 9, 10, 11, 12, 13, 14, 15, 16, 17, 18, 19, 20, 21, 22, 23, 24, 25, 26, 27, 28] [13, 14, 15, 16, 17, 18, 19, 20, 21, 22, 23] rfl rfl rfl rfl (by decide) rfl (by rw [eW_586]; rfl) rfl rfl hl.1 rfl (Nat.le_of_ble_eq_true rfl) dL_law_586 ⟨by decide, by decide⟩ (st2 := [.long r_586, .long r_577]) rfl (fun H locs hI => ?_)
          refine W.lcmp hx hb dL_law_589 ?_
          refine lv_if_eq (tgt := 731) hx hb dL_law_590 (by decide) (fun c_590 => ?_) (fun c_590 => ?_)
          · replace hf := zIt c_590 hf
            exact hb731 (fL_law_b18L L xs n) ih v3 W_586 _ _ _ hf hI (lv_sub hl [0, 1, 2, 3] rfl)
          · replace hf := zIf c_590 hf
            refine lv_iconst (v := 0) hx hb dL_law_593 (by decide) ?_
            exact absurd hf (by decide)
        replace hf := zIf c_32_16 hf
        by_cases c_32_17 : ((xs v3.toNatClampNeg) &&& (31 : Int32)) = 17
        · replace hf := zIt c_32_17 hf
          refine lv_tableIn (tgt := 595) (off := 563) hx hb dL_law_32 (by rw [c_32_17]; decide) (by rw [c_32_17]; decide) (by rw [c_32_17]; rfl) (by decide) ?_
          refine lv_aload_n hx hb dL_law_595 rfl (lv_at hl 1 rfl) ?_
          refine lv_aload_n hx hb dL_law_596 rfl (lv_at hl 0 rfl) ?_
          refine lv_iload_n hx hb dL_law_597 rfl (lv_at hl 3 rfl) ?_
          refine lv_iconst (v := 1) hx hb dL_law_598 (by decide) ?_
          refine lv_iadd hx hb dL_law_599 ?_
          obtain ⟨g_600, hf⟩ := zGI_s hf
          refine va_sld hx hb hXs hbl hbA hI.2.2 g_600 dL_law_600 ?_
          refine lv_aload_n hx hb dL_law_601 rfl (lv_at hl 0 rfl) ?_
          refine lv_iload_n hx hb dL_law_602 rfl (lv_at hl 3 rfl) ?_
          refine lv_iconst (v := 2) hx hb dL_law_603 (by decide) ?_
          refine lv_iadd hx hb dL_law_604 ?_
          obtain ⟨g_605, hf⟩ := zGI_s hf
          refine va_sld hx hb hXs hbl hbA hI.2.2 g_605 dL_law_605 ?_
          obtain ⟨r_606, S_606, hf_606, hf⟩ := zB2_s hf
          obtain ⟨W_606, eW_606, hf⟩ := zL_e hf
          refine z_callX (w2 := (wL cy ad W_606)) C 2 (kX2_deep l zq D (fun k => cy (k + 0)) (fun k => ad (k + 0)) (xs (v3 + (1 : Int32)).toNatClampNeg) (xs (v3 + (2 : Int32)).toNatClampNeg) (l_x S) S_606 r_606 hf_606) gL_law_X2_deep rfl (by decide +kernel) ⟨by decide, by decide⟩ hI 0 rfl rfl [0, 1, 2, 3, 4, 5, 6, 7, 8, 9, 10, 11, 12, 13, 14, 15, 16] [17, 18, 19, 20, 21, 22, 23, 24, 25, 26, 27, 28] [12, 13, 14, 15, 16, 17, 18, 19, 20, 21, 22, 23, 24, 25, 26, 27, 28, 0, 1, 2, 3, 4, 5, 6, 7, 8, 9, 10, 11] [0, 1, 2, 3, 4, 5, 6, 7, 8, 9, 10, 11, 12] rfl rfl rfl rfl (by decide) rfl (by rw [eW_606]; rfl) rfl rfl hl.1 rfl (Nat.le_of_ble_eq_true rfl) dL_law_606 ⟨by decide, by decide⟩ (st2 := [.int r_606]) rfl (fun H locs hI => ?_)
          refine lv_aload_n hx hb dL_law_609 rfl (lv_at hl 2 rfl) ?_
          refine lv_aload_n hx hb dL_law_610 rfl (lv_at hl 0 rfl) ?_
          refine lv_iload_n hx hb dL_law_611 rfl (lv_at hl 3 rfl) ?_
          refine lv_iconst (v := 1) hx hb dL_law_612 (by decide) ?_
          refine lv_iadd hx hb dL_law_613 ?_
          obtain ⟨g_614, hf⟩ := zGI_s hf
          refine va_sld hx hb hXs hbl hbA hI.2.2 g_614 dL_law_614 ?_
          refine lv_aload_n hx hb dL_law_615 rfl (lv_at hl 0 rfl) ?_
          refine lv_iload_n hx hb dL_law_616 rfl (lv_at hl 3 rfl) ?_
          refine lv_iconst (v := 2) hx hb dL_law_617 (by decide) ?_
          refine lv_iadd hx hb dL_law_618 ?_
          obtain ⟨g_619, hf⟩ := zGI_s hf
          refine va_sld hx hb hXs hbl hbA hI.2.2 g_619 dL_law_619 ?_
          obtain ⟨r_620, S_620, hf_620, hf⟩ := zB2_s hf
          obtain ⟨W_620, eW_620, hf⟩ := zL_e hf
          refine z_callX (w2 := (wL cy ad W_620)) C 2 (kX3_deep l zq D (fun k => cy (k + 17)) (fun k => ad (k + 17)) (xs (v3 + (1 : Int32)).toNatClampNeg) (xs (v3 + (2 : Int32)).toNatClampNeg) (l_m W_606) S_620 r_620 hf_620) gL_law_X3_deep rfl (by decide +kernel) ⟨by decide, by decide⟩ hI 17 rfl rfl [17, 18, 19, 20, 21, 22, 23, 24, 25, 26, 27, 28] [0, 1, 2, 3, 4, 5, 6, 7, 8, 9, 10, 11, 12, 13, 14, 15, 16] [0, 1, 2, 3, 4, 5, 6, 7, 8, 9, 10, 11, 12, 13, 14, 15, 16, 17, 18, 19, 20, 21, 22, 23, 24, 25, 26, 27, 28] [13, 14, 15, 16, 17, 18, 19, 20, 21, 22, 23] rfl rfl rfl rfl (by decide) rfl (by rw [eW_620]; rfl) rfl rfl hl.1 rfl (Nat.le_of_ble_eq_true rfl) dL_law_620 ⟨by decide, by decide⟩ (st2 := [.int r_620, .int r_606]) rfl (fun H locs hI => ?_)
          refine lv_icmp_eq (tgt := 731) hx hb dL_law_623 (by decide) (fun c_623 => ?_) (fun c_623 => ?_)
          · replace hf := zIt c_623 hf
            exact hb731 (fL_law_b18L L xs n) ih v3 W_620 _ _ _ hf hI (lv_sub hl [0, 1, 2, 3] rfl)
          · replace hf := zIf c_623 hf
            refine lv_iconst (v := 0) hx hb dL_law_626 (by decide) ?_
            exact absurd hf (by decide)
        replace hf := zIf c_32_17 hf
        by_cases c_32_18 : ((xs v3.toNatClampNeg) &&& (31 : Int32)) = 18
        · replace hf := zIt c_32_18 hf
          refine lv_tableIn (tgt := 628) (off := 596) hx hb dL_law_32 (by rw [c_32_18]; decide) (by rw [c_32_18]; decide) (by rw [c_32_18]; rfl) (by decide) ?_
          refine lv_aload_n hx hb dL_law_628 rfl (lv_at hl 1 rfl) ?_
          refine lv_aload_n hx hb dL_law_629 rfl (lv_at hl 0 rfl) ?_
          refine lv_iload_n hx hb dL_law_630 rfl (lv_at hl 3 rfl) ?_
          refine lv_iconst (v := 1) hx hb dL_law_631 (by decide) ?_
          refine lv_iadd hx hb dL_law_632 ?_
          obtain ⟨g_633, hf⟩ := zGI_s hf
          refine va_sld hx hb hXs hbl hbA hI.2.2 g_633 dL_law_633 ?_
          refine lv_aload_n hx hb dL_law_634 rfl (lv_at hl 0 rfl) ?_
          refine lv_iload_n hx hb dL_law_635 rfl (lv_at hl 3 rfl) ?_
          refine lv_iconst (v := 2) hx hb dL_law_636 (by decide) ?_
          refine lv_iadd hx hb dL_law_637 ?_
          obtain ⟨g_638, hf⟩ := zGI_s hf
          refine va_sld hx hb hXs hbl hbA hI.2.2 g_638 dL_law_638 ?_
          obtain ⟨r_639, S_639, hf_639, hf⟩ := zB2_s hf
          obtain ⟨W_639, eW_639, hf⟩ := zL_e hf
          refine z_callX (w2 := (wL cy ad W_639)) C 2 (kX2_needed l zq D (fun k => cy (k + 0)) (fun k => ad (k + 0)) (xs (v3 + (1 : Int32)).toNatClampNeg) (xs (v3 + (2 : Int32)).toNatClampNeg) (l_x S) S_639 r_639 hf_639) gL_law_X2_needed rfl (by decide +kernel) ⟨by decide, by decide⟩ hI 0 rfl rfl [0, 1, 2, 3, 4, 5, 6, 7, 8, 9, 10, 11, 12, 13, 14, 15, 16] [17, 18, 19, 20, 21, 22, 23, 24, 25, 26, 27, 28] [12, 13, 14, 15, 16, 17, 18, 19, 20, 21, 22, 23, 24, 25, 26, 27, 28, 0, 1, 2, 3, 4, 5, 6, 7, 8, 9, 10, 11] [0, 1, 2, 3, 4, 5, 6, 7, 8, 9, 10, 11, 12] rfl rfl rfl rfl (by decide) rfl (by rw [eW_639]; rfl) rfl rfl hl.1 rfl (Nat.le_of_ble_eq_true rfl) dL_law_639 ⟨by decide, by decide⟩ (st2 := [.int r_639]) rfl (fun H locs hI => ?_)
          refine lv_aload_n hx hb dL_law_642 rfl (lv_at hl 2 rfl) ?_
          refine lv_aload_n hx hb dL_law_643 rfl (lv_at hl 0 rfl) ?_
          refine lv_iload_n hx hb dL_law_644 rfl (lv_at hl 3 rfl) ?_
          refine lv_iconst (v := 1) hx hb dL_law_645 (by decide) ?_
          refine lv_iadd hx hb dL_law_646 ?_
          obtain ⟨g_647, hf⟩ := zGI_s hf
          refine va_sld hx hb hXs hbl hbA hI.2.2 g_647 dL_law_647 ?_
          refine lv_aload_n hx hb dL_law_648 rfl (lv_at hl 0 rfl) ?_
          refine lv_iload_n hx hb dL_law_649 rfl (lv_at hl 3 rfl) ?_
          refine lv_iconst (v := 2) hx hb dL_law_650 (by decide) ?_
          refine lv_iadd hx hb dL_law_651 ?_
          obtain ⟨g_652, hf⟩ := zGI_s hf
          refine va_sld hx hb hXs hbl hbA hI.2.2 g_652 dL_law_652 ?_
          obtain ⟨r_653, S_653, hf_653, hf⟩ := zB2_s hf
          obtain ⟨W_653, eW_653, hf⟩ := zL_e hf
          refine z_callX (w2 := (wL cy ad W_653)) C 2 (kX3_needed l zq D (fun k => cy (k + 17)) (fun k => ad (k + 17)) (xs (v3 + (1 : Int32)).toNatClampNeg) (xs (v3 + (2 : Int32)).toNatClampNeg) (l_m W_639) S_653 r_653 hf_653) gL_law_X3_needed rfl (by decide +kernel) ⟨by decide, by decide⟩ hI 17 rfl rfl [17, 18, 19, 20, 21, 22, 23, 24, 25, 26, 27, 28] [0, 1, 2, 3, 4, 5, 6, 7, 8, 9, 10, 11, 12, 13, 14, 15, 16] [0, 1, 2, 3, 4, 5, 6, 7, 8, 9, 10, 11, 12, 13, 14, 15, 16, 17, 18, 19, 20, 21, 22, 23, 24, 25, 26, 27, 28] [13, 14, 15, 16, 17, 18, 19, 20, 21, 22, 23] rfl rfl rfl rfl (by decide) rfl (by rw [eW_653]; rfl) rfl rfl hl.1 rfl (Nat.le_of_ble_eq_true rfl) dL_law_653 ⟨by decide, by decide⟩ (st2 := [.int r_653, .int r_639]) rfl (fun H locs hI => ?_)
          refine lv_icmp_eq (tgt := 731) hx hb dL_law_656 (by decide) (fun c_656 => ?_) (fun c_656 => ?_)
          · replace hf := zIt c_656 hf
            exact hb731 (fL_law_b18L L xs n) ih v3 W_653 _ _ _ hf hI (lv_sub hl [0, 1, 2, 3] rfl)
          · replace hf := zIf c_656 hf
            refine lv_iconst (v := 0) hx hb dL_law_659 (by decide) ?_
            exact absurd hf (by decide)
        replace hf := zIf c_32_18 hf
        by_cases c_32_19 : ((xs v3.toNatClampNeg) &&& (31 : Int32)) = 19
        · replace hf := zIt c_32_19 hf
          refine lv_tableIn (tgt := 661) (off := 629) hx hb dL_law_32 (by rw [c_32_19]; decide) (by rw [c_32_19]; decide) (by rw [c_32_19]; rfl) (by decide) ?_
          refine lv_aload_n hx hb dL_law_661 rfl (lv_at hl 1 rfl) ?_
          refine lv_aload_n hx hb dL_law_662 rfl (lv_at hl 0 rfl) ?_
          refine lv_iload_n hx hb dL_law_663 rfl (lv_at hl 3 rfl) ?_
          refine lv_iconst (v := 1) hx hb dL_law_664 (by decide) ?_
          refine lv_iadd hx hb dL_law_665 ?_
          obtain ⟨g_666, hf⟩ := zGI_s hf
          refine va_sld hx hb hXs hbl hbA hI.2.2 g_666 dL_law_666 ?_
          refine lv_aload_n hx hb dL_law_667 rfl (lv_at hl 0 rfl) ?_
          refine lv_iload_n hx hb dL_law_668 rfl (lv_at hl 3 rfl) ?_
          refine lv_iconst (v := 2) hx hb dL_law_669 (by decide) ?_
          refine lv_iadd hx hb dL_law_670 ?_
          obtain ⟨g_671, hf⟩ := zGI_s hf
          refine va_sld hx hb hXs hbl hbA hI.2.2 g_671 dL_law_671 ?_
          obtain ⟨r_672, S_672, hf_672, hf⟩ := zB2_s hf
          obtain ⟨W_672, eW_672, hf⟩ := zL_e hf
          refine z_callX (w2 := (wL cy ad W_672)) C 2 (kX2_weight l zq D (fun k => cy (k + 0)) (fun k => ad (k + 0)) (xs (v3 + (1 : Int32)).toNatClampNeg) (xs (v3 + (2 : Int32)).toNatClampNeg) (l_x S) S_672 r_672 hf_672) gL_law_X2_weight rfl (by decide +kernel) ⟨by decide, by decide⟩ hI 0 rfl rfl [0, 1, 2, 3, 4, 5, 6, 7, 8, 9, 10, 11, 12, 13, 14, 15, 16] [17, 18, 19, 20, 21, 22, 23, 24, 25, 26, 27, 28] [12, 13, 14, 15, 16, 17, 18, 19, 20, 21, 22, 23, 24, 25, 26, 27, 28, 0, 1, 2, 3, 4, 5, 6, 7, 8, 9, 10, 11] [0, 1, 2, 3, 4, 5, 6, 7, 8, 9, 10, 11, 12] rfl rfl rfl rfl (by decide) rfl (by rw [eW_672]; rfl) rfl rfl hl.1 rfl (Nat.le_of_ble_eq_true rfl) dL_law_672 ⟨by decide, by decide⟩ (st2 := [.int r_672]) rfl (fun H locs hI => ?_)
          refine lv_aload_n hx hb dL_law_675 rfl (lv_at hl 2 rfl) ?_
          refine lv_aload_n hx hb dL_law_676 rfl (lv_at hl 0 rfl) ?_
          refine lv_iload_n hx hb dL_law_677 rfl (lv_at hl 3 rfl) ?_
          refine lv_iconst (v := 1) hx hb dL_law_678 (by decide) ?_
          refine lv_iadd hx hb dL_law_679 ?_
          obtain ⟨g_680, hf⟩ := zGI_s hf
          refine va_sld hx hb hXs hbl hbA hI.2.2 g_680 dL_law_680 ?_
          refine lv_aload_n hx hb dL_law_681 rfl (lv_at hl 0 rfl) ?_
          refine lv_iload_n hx hb dL_law_682 rfl (lv_at hl 3 rfl) ?_
          refine lv_iconst (v := 2) hx hb dL_law_683 (by decide) ?_
          refine lv_iadd hx hb dL_law_684 ?_
          obtain ⟨g_685, hf⟩ := zGI_s hf
          refine va_sld hx hb hXs hbl hbA hI.2.2 g_685 dL_law_685 ?_
          obtain ⟨r_686, S_686, hf_686, hf⟩ := zB2_s hf
          obtain ⟨W_686, eW_686, hf⟩ := zL_e hf
          refine z_callX (w2 := (wL cy ad W_686)) C 2 (kX3_weight l zq D (fun k => cy (k + 17)) (fun k => ad (k + 17)) (xs (v3 + (1 : Int32)).toNatClampNeg) (xs (v3 + (2 : Int32)).toNatClampNeg) (l_m W_672) S_686 r_686 hf_686) gL_law_X3_weight rfl (by decide +kernel) ⟨by decide, by decide⟩ hI 17 rfl rfl [17, 18, 19, 20, 21, 22, 23, 24, 25, 26, 27, 28] [0, 1, 2, 3, 4, 5, 6, 7, 8, 9, 10, 11, 12, 13, 14, 15, 16] [0, 1, 2, 3, 4, 5, 6, 7, 8, 9, 10, 11, 12, 13, 14, 15, 16, 17, 18, 19, 20, 21, 22, 23, 24, 25, 26, 27, 28] [13, 14, 15, 16, 17, 18, 19, 20, 21, 22, 23] rfl rfl rfl rfl (by decide) rfl (by rw [eW_686]; rfl) rfl rfl hl.1 rfl (Nat.le_of_ble_eq_true rfl) dL_law_686 ⟨by decide, by decide⟩ (st2 := [.int r_686, .int r_672]) rfl (fun H locs hI => ?_)
          refine lv_icmp_eq (tgt := 731) hx hb dL_law_689 (by decide) (fun c_689 => ?_) (fun c_689 => ?_)
          · replace hf := zIt c_689 hf
            exact hb731 (fL_law_b18L L xs n) ih v3 W_686 _ _ _ hf hI (lv_sub hl [0, 1, 2, 3] rfl)
          · replace hf := zIf c_689 hf
            refine lv_iconst (v := 0) hx hb dL_law_692 (by decide) ?_
            exact absurd hf (by decide)
        replace hf := zIf c_32_19 hf
        by_cases c_32_20 : ((xs v3.toNatClampNeg) &&& (31 : Int32)) = 20
        · replace hf := zIt c_32_20 hf
          refine lv_tableIn (tgt := 694) (off := 662) hx hb dL_law_32 (by rw [c_32_20]; decide) (by rw [c_32_20]; decide) (by rw [c_32_20]; rfl) (by decide) ?_
          refine lv_aload_n hx hb dL_law_694 rfl (lv_at hl 1 rfl) ?_
          refine lv_aload_n hx hb dL_law_695 rfl (lv_at hl 0 rfl) ?_
          refine lv_iload_n hx hb dL_law_696 rfl (lv_at hl 3 rfl) ?_
          refine lv_iconst (v := 1) hx hb dL_law_697 (by decide) ?_
          refine lv_iadd hx hb dL_law_698 ?_
          obtain ⟨g_699, hf⟩ := zGI_s hf
          refine va_sld hx hb hXs hbl hbA hI.2.2 g_699 dL_law_699 ?_
          obtain ⟨r_700, S_700, hf_700, hf⟩ := zB2_s hf
          obtain ⟨W_700, eW_700, hf⟩ := zL_e hf
          refine z_callX (w2 := (wL cy ad W_700)) C 1 (kX2_count l zq D (fun k => cy (k + 0)) (fun k => ad (k + 0)) (xs (v3 + (1 : Int32)).toNatClampNeg) (l_x S) S_700 r_700 hf_700) gL_law_X2_count rfl (by decide +kernel) ⟨by decide, by decide⟩ hI 0 rfl rfl [0, 1, 2, 3, 4, 5, 6, 7, 8, 9, 10, 11, 12, 13, 14, 15, 16] [17, 18, 19, 20, 21, 22, 23, 24, 25, 26, 27, 28] [12, 13, 14, 15, 16, 17, 18, 19, 20, 21, 22, 23, 24, 25, 26, 27, 28, 0, 1, 2, 3, 4, 5, 6, 7, 8, 9, 10, 11] [0, 1, 2, 3, 4, 5, 6, 7, 8, 9, 10, 11, 12] rfl rfl rfl rfl (by decide) rfl (by rw [eW_700]; rfl) rfl rfl hl.1 rfl (Nat.le_of_ble_eq_true rfl) dL_law_700 ⟨by decide, by decide⟩ (st2 := [.int r_700]) rfl (fun H locs hI => ?_)
          refine lv_aload_n hx hb dL_law_703 rfl (lv_at hl 2 rfl) ?_
          refine lv_aload_n hx hb dL_law_704 rfl (lv_at hl 0 rfl) ?_
          refine lv_iload_n hx hb dL_law_705 rfl (lv_at hl 3 rfl) ?_
          refine lv_iconst (v := 1) hx hb dL_law_706 (by decide) ?_
          refine lv_iadd hx hb dL_law_707 ?_
          obtain ⟨g_708, hf⟩ := zGI_s hf
          refine va_sld hx hb hXs hbl hbA hI.2.2 g_708 dL_law_708 ?_
          obtain ⟨r_709, S_709, hf_709, hf⟩ := zB2_s hf
          obtain ⟨W_709, eW_709, hf⟩ := zL_e hf
          refine z_callX (w2 := (wL cy ad W_709)) C 1 (kX3_count l zq D (fun k => cy (k + 17)) (fun k => ad (k + 17)) (xs (v3 + (1 : Int32)).toNatClampNeg) (l_m W_700) S_709 r_709 hf_709) gL_law_X3_count rfl (by decide +kernel) ⟨by decide, by decide⟩ hI 17 rfl rfl [17, 18, 19, 20, 21, 22, 23, 24, 25, 26, 27, 28] [0, 1, 2, 3, 4, 5, 6, 7, 8, 9, 10, 11, 12, 13, 14, 15, 16] [0, 1, 2, 3, 4, 5, 6, 7, 8, 9, 10, 11, 12, 13, 14, 15, 16, 17, 18, 19, 20, 21, 22, 23, 24, 25, 26, 27, 28] [13, 14, 15, 16, 17, 18, 19, 20, 21, 22, 23] rfl rfl rfl rfl (by decide) rfl (by rw [eW_709]; rfl) rfl rfl hl.1 rfl (Nat.le_of_ble_eq_true rfl) dL_law_709 ⟨by decide, by decide⟩ (st2 := [.int r_709, .int r_700]) rfl (fun H locs hI => ?_)
          refine lv_icmp_eq (tgt := 731) hx hb dL_law_712 (by decide) (fun c_712 => ?_) (fun c_712 => ?_)
          · replace hf := zIt c_712 hf
            exact hb731 (fL_law_b18L L xs n) ih v3 W_709 _ _ _ hf hI (lv_sub hl [0, 1, 2, 3] rfl)
          · replace hf := zIf c_712 hf
            refine lv_iconst (v := 0) hx hb dL_law_715 (by decide) ?_
            exact absurd hf (by decide)
        replace hf := zIf c_32_20 hf
        by_cases c_32_21 : ((xs v3.toNatClampNeg) &&& (31 : Int32)) = 21
        · replace hf := zIt c_32_21 hf
          refine lv_tableIn (tgt := 717) (off := 685) hx hb dL_law_32 (by rw [c_32_21]; decide) (by rw [c_32_21]; decide) (by rw [c_32_21]; rfl) (by decide) ?_
          refine lv_aload_n hx hb dL_law_717 rfl (lv_at hl 1 rfl) ?_
          obtain ⟨r_718, S_718, hf_718, hf⟩ := zB2_s hf
          obtain ⟨W_718, eW_718, hf⟩ := zL_e hf
          refine z_callX (w2 := (wL cy ad W_718)) C 0 (kX2_trace l zq D (fun k => cy (k + 0)) (fun k => ad (k + 0)) (l_x S) S_718 r_718 hf_718) gL_law_X2_trace rfl (by decide +kernel) ⟨by decide, by decide⟩ hI 0 rfl rfl [0, 1, 2, 3, 4, 5, 6, 7, 8, 9, 10, 11, 12, 13, 14, 15, 16] [17, 18, 19, 20, 21, 22, 23, 24, 25, 26, 27, 28] [12, 13, 14, 15, 16, 17, 18, 19, 20, 21, 22, 23, 24, 25, 26, 27, 28, 0, 1, 2, 3, 4, 5, 6, 7, 8, 9, 10, 11] [0, 1, 2, 3, 4, 5, 6, 7, 8, 9, 10, 11, 12] rfl rfl rfl rfl (by decide) rfl (by rw [eW_718]; rfl) rfl rfl hl.1 rfl (Nat.le_of_ble_eq_true rfl) dL_law_718 ⟨by decide, by decide⟩ (st2 := [.long r_718]) rfl (fun H locs hI => ?_)
          refine lv_aload_n hx hb dL_law_721 rfl (lv_at hl 2 rfl) ?_
          obtain ⟨r_722, S_722, hf_722, hf⟩ := zB2_s hf
          obtain ⟨W_722, eW_722, hf⟩ := zL_e hf
          refine z_callX (w2 := (wL cy ad W_722)) C 0 (kX3_trace l zq D (fun k => cy (k + 17)) (fun k => ad (k + 17)) (l_m W_718) S_722 r_722 hf_722) gL_law_X3_trace rfl (by decide +kernel) ⟨by decide, by decide⟩ hI 17 rfl rfl [17, 18, 19, 20, 21, 22, 23, 24, 25, 26, 27, 28] [0, 1, 2, 3, 4, 5, 6, 7, 8, 9, 10, 11, 12, 13, 14, 15, 16] [0, 1, 2, 3, 4, 5, 6, 7, 8, 9, 10, 11, 12, 13, 14, 15, 16, 17, 18, 19, 20, 21, 22, 23, 24, 25, 26, 27, 28] [13, 14, 15, 16, 17, 18, 19, 20, 21, 22, 23] rfl rfl rfl rfl (by decide) rfl (by rw [eW_722]; rfl) rfl rfl hl.1 rfl (Nat.le_of_ble_eq_true rfl) dL_law_722 ⟨by decide, by decide⟩ (st2 := [.long r_722, .long r_718]) rfl (fun H locs hI => ?_)
          refine W.lcmp hx hb dL_law_725 ?_
          refine lv_if_eq (tgt := 731) hx hb dL_law_726 (by decide) (fun c_726 => ?_) (fun c_726 => ?_)
          · replace hf := zIt c_726 hf
            exact hb731 (fL_law_b18L L xs n) ih v3 W_722 _ _ _ hf hI (lv_sub hl [0, 1, 2, 3] rfl)
          · replace hf := zIf c_726 hf
            refine lv_iconst (v := 0) hx hb dL_law_729 (by decide) ?_
            exact absurd hf (by decide)
        replace hf := zIf c_32_21 hf
        refine lv_tableOut (tgt := 731) hx hb dL_law_32 (zTab ((xs v3.toNatClampNeg) &&& (31 : Int32)) 0 21 (fun k h1 h2 => ?_)) (by decide) ?_
        · rcases (show k = 0 ∨ k = 1 ∨ k = 2 ∨ k = 3 ∨ k = 4 ∨ k = 5 ∨ k = 6 ∨ k = 7 ∨ k = 8 ∨ k = 9 ∨ k = 10 ∨ k = 11 ∨ k = 12 ∨ k = 13 ∨ k = 14 ∨ k = 15 ∨ k = 16 ∨ k = 17 ∨ k = 18 ∨ k = 19 ∨ k = 20 ∨ k = 21 by omega) with rfl | rfl | rfl | rfl | rfl | rfl | rfl | rfl | rfl | rfl | rfl | rfl | rfl | rfl | rfl | rfl | rfl | rfl | rfl | rfl | rfl | rfl
          · exact c_32_0
          · exact c_32_1
          · exact c_32_2
          · exact c_32_3
          · exact c_32_4
          · exact c_32_5
          · exact c_32_6
          · exact c_32_7
          · exact c_32_8
          · exact c_32_9
          · exact c_32_10
          · exact c_32_11
          · exact c_32_12
          · exact c_32_13
          · exact c_32_14
          · exact c_32_15
          · exact c_32_16
          · exact c_32_17
          · exact c_32_18
          · exact c_32_19
          · exact c_32_20
          · exact c_32_21
        exact hb731 (fL_law_b18L L xs n) ih v3 S _ _ _ hf hI (lv_sub hl [0, 1, 2, 3] rfl)
  unfold fL_law at hf
  refine lv_iconst (v := 0) hx hb dL_law_16 (by decide) ?_
  refine lv_istore_n (lv' := [(3, .int (0 : Int32)), (2, .ref (ad 17)), (1, .ref (ad 0)), (0, .ref b)]) hx hb dL_law_17 rfl hl (by decide) rfl (fun ls hl => ?_)
  exact hb18 zF (0 : Int32) S _ _ _ hf hI (lv_sub hl [3, 2, 1, 0] rfl)
