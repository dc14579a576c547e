theorem givX_tail (X : XS) (t : TS) (k : Nat) (hk : k ≤ 8) (hto : t_told t = nI k) : ∃ ls lv, (zL (x_text_u X t) (fun W_4 =>
(if (-1 : Int32) = (-1 : Int32) then (zL (x_text_u W_4 (t_length_u (x_text W_4) (0 : Int32))) (fun S_23 =>
(zL (x_lines_u S_23 (0 : Int32)) (fun S_28 =>
(zB1 (fX2_dropProof S_28) (fun S_32 =>
(zL (x_commonWorlds_u S_32 (-1 : Int64)) (fun S_39 =>
fX2_given_b44L zF (0 : Int32) S_39)))))))) else
some (((-10 : Int32) - (-1 : Int32)), W_4)))) = some (nI k, gfX (xU X (t_length_u t 0) 0 (x_givenLines X) 0 (-9) (-1)) ls lv (nI k) (cmn (t_sums t) k)) ∧ ∀ i, i < k → ls i = t_sums t i ∧ lv i = vals (t_sums t i) := by
  obtain ⟨ls, lv, d1, d2⟩ := givX_l (xU X (t_length_u t 0) 0 (x_givenLines X) 0 (-9) (-1)) k hk hto k zF 0 (x_lineSums X) (x_lineValues X) (by omega) (by unfold zF; omega) (fun i hi => absurd hi (by omega))
  refine ⟨ls, lv, ?_, d2⟩
  rw [zL_t, if_pos rfl, zL_t, zL_t, xu_0 X t, xu_gt, xu_t, xu_n, xu_drop, zB1_t rfl, zL_t, xu_c, xu_gv]
  exact d1.trans (giv105 _ _ _ _ _)
