/-! BANG: both sides. -/
def isL (r : Res) (O : Int64) (x : Int64) (Q : Mem → Prop) : Prop := ∃ M', r = some (.inl (some (.inr (.inl x))), M', O, 0, 0) ∧ Q M'
theorem isL_i {O : Int64} {x : Int64} {M' : Mem} {Q : Mem → Prop} (h : Q M') : isL (some (.inl (some (.inr (.inl x))), M', O, 0, 0)) O x Q := ⟨M', rfl, h⟩
theorem isL_e {r r' : Res} {O : Int64} {x : Int64} {Q : Mem → Prop} (h : r = r') (h' : isL r' O x Q) : isL r O x Q := h ▸ h'
theorem bitsL_t {p : Nat → Bool} {j : Nat} (h : p j = true) : bitsL p j ||| shl64 j = bitsL p (j + 1) := (if_pos h).symm
theorem bitsL_f {p : Nat → Bool} {j : Nat} (h : p j = false) : bitsL p j = bitsL p (j + 1) := (if_neg (fun e => by rw [h] at e; cases e)).symm
section
variable (L : Nat) (xs : Nat → Int32) (O : Int64)
theorem x6_isHeardAsTold {M0 : Mem} {V : Vw} {As : Nat → Nat → Int32} {n nh ns nw na : Nat} {D : Nat} (hD : 4 ≤ D) (h : Nat) (tm : Nat → Int32) (R : Nat → Int32) (hh : h < 24) (M : Mem) (hM : CQ M0 V As n nh ns nw na M) (ht : ∀ k, k < 8 → M 22 0 k = tm k) (hR : ∀ y, y < 40 → M 29 0 y = R y) : EX L xs (D) q_X6_isHeardAsTold [.inr (.inr (0, 0)), .inr (.inr (29, 0)), .inl (nI h)] M O = (some (.inl (some (.inl (b2i (hatB R V h tm nh)))), M, O, 0, 0) : Res) := by
  have hV := hM.2.1
  have v5 : n ≤ 40 := hV.2.2.2.2.2.1
  have v6 : nh ≤ 8 := hV.2.2.2.2.2.2.1
  have v7 : ns ≤ 6 := hV.2.2.2.2.2.2.2.1
  have v8 : nw ≤ 8 := hV.2.2.2.2.2.2.2.2.1
  have h6 : na ≤ 6 := hM.2.2.2.2.1
  have g0 := (hM.2.2.1 3 0 rfl).trans hV.1
  have g4 := (hM.2.2.1 3 4 rfl).trans hV.2.1
  have g8 := (hM.2.2.1 3 8 rfl).trans hV.2.2.1
  have g13 := (hM.2.2.1 3 13 rfl).trans hV.2.2.2.1
  have g6 := hM.2.2.2.1
  obtain ⟨d, rfl⟩ : ∃ d, D = d + 2 := ⟨D - 2, by omega⟩
  refine (EX_in mi_X6_isHeardAsTold rfl rfl rfl (ls := [some (.inr (.inr (0, 0))), some (.inr (.inr (29, 0))), some (.inl (nI h)), none, none, none]) rfl).trans ?_
  rw [e_X6_isHeardAsTold_0]
  refine loopA L xs O (P := fun r => r = (some (.inl (some (.inl (b2i (hatB R V h tm nh)))), M, O, 0, 0) : Res)) (fun j ls M' => ∃ u4 u5, ls = [some (.inr (.inr (0, 0))), some (.inr (.inr (29, 0))), some (.inl (nI h)), some (.inl (nI j)), u4, u5] ∧ hatB R V h tm j = true ∧ M' = M) nh 100 (by omega) ?_ ?_ (Nat.le_of_lt (FU (by omega))) ⟨_, _, rfl, rfl, rfl⟩
  · rintro f k j _ M' hj ⟨u4, u5, rfl, hb, e⟩ ih
    rw [e]
    have vc := hV.2.2.2.2.2.2.2.2.2.2.2.2.1 j hj
    have vc2 := vc.2
    have g7 := (hM.2.2.1 7 j (decide_eq_true (show j < 8 by omega))).trans vc.1
    have g29 := hR (vN V 7 j) (by omega)
    have g22 := ht j (by omega)
    have q2 := x1_need L xs O (D := d + 1) (by omega) 2 j h (by omega) hh M hM.2.2.1
    have hs1 : hatB R V h tm (j + 1) = (hatB R V h tm j && (decide (tm j = -2) || (decide (R (vN V 7 j) < needF (V 8) (V 9) j h) == decide (tm j = -1)))) := rfl
    rw [hb, Bool.true_and] at hs1
    have bad : hatB R V h tm (j + 1) = false → hatB R V h tm nh = false := by
      intro h3
      have h4 := hatB_f h3 (nh - (j + 1))
      rw [show j + 1 + (nh - (j + 1)) = nh by omega] at h4
      exact h4
    by_cases c : R (vN V 7 j) < needF (V 8) (V 9) j h
    · by_cases c2 : tm j = -2
      · simp (disch := first | omega | rfl | decide) only [e_X6_isHeardAsTold_0, e_X6_isHeardAsTold_2, e_X6_isHeardAsTold_33, e_X6_isHeardAsTold_41, e_X6_isHeardAsTold_79, e_X6_isHeardAsTold_74, xr_v, xr_n, hl_of, hl_cl, hl_toInt, hl_le, hl_lt, hl_eq, nI_add, hl_sub, pk_mul, hl_div, if_pos, if_neg, ↓reduceIte, Nat.reduceAdd, Nat.reduceSub, Nat.reduceMul, Nat.add_zero, Nat.zero_add, mp_s, mp_k, mp_i, mp_g, mr_s, mr_i, mr_g, zlt_0, zlt_1, zlt_2, zlt_3, zlt_4, zlt_5, zlt_6, zlt_8, zlt_12, zlt_15, zlt_20, zlt_24, zlt_36, zlt_40, zlt_48, zlt_80, zlt_97, zlt_120, zlt_256, zlt_600, zlt_99999999, zadd_1, zadd_2, zadd_5, zadd_6, zadd_8, zadd_20, zadd_24, zeq_0, zeq_1, zeq_2, zeq_3, zeq_4, zeq_5, zeq_6, zeq_7, zeq_8, zeq_13, zeq_14, zeq_20, zeq_32, zeq_59, zeq_60, zeq_80, zmul_2, zmul_4, zmul_6, zmul_8, zmul_10, zmul_24, zsub_1, zsub_2, zsub_10, zsub_48, zsub_97, zle_0, zle_1, zle_2, zle_6, zle_11, zle_200, zle_600, zle_100000000, ylt_0, ylt_1, ylt_2, ylt_3, ylt_6, ylt_9, ylt_20, ylt_24, ylt_57, ylt_60, ylt_99, ylt_120, ylt_122, ylt_999, ylt_9999, yle_0, yle_2, yle_4, yle_5, yle_6, yle_7, yle_8, yle_10, yle_12, yle_13, yle_15, yle_16, yle_20, yle_24, yle_40, yle_60, yle_64, yle_80, yadd_1, yadd_22, ymul_2, ymul_4, ymul_6, ymul_8, ymul_10, ymul_24, ymul_27, ymul_100, ysub_1, ysub_24, zdiv_2, zdiv_4, zdiv_24, g4, g7, g29, g22, q2, c, c2]
        exact ih _ _ ⟨_, _, rfl, hs1.trans (by rw [decide_eq_true c2]; rfl), rfl⟩
      · by_cases c3 : tm j = -1
        · have n2 : ¬ (-1 : Int32) = -2 := by decide
          simp (disch := first | omega | rfl | decide) only [e_X6_isHeardAsTold_0, e_X6_isHeardAsTold_2, e_X6_isHeardAsTold_33, e_X6_isHeardAsTold_41, e_X6_isHeardAsTold_79, e_X6_isHeardAsTold_74, xr_v, xr_n, hl_of, hl_cl, hl_toInt, hl_le, hl_lt, hl_eq, nI_add, hl_sub, pk_mul, hl_div, if_pos, if_neg, ↓reduceIte, Nat.reduceAdd, Nat.reduceSub, Nat.reduceMul, Nat.add_zero, Nat.zero_add, mp_s, mp_k, mp_i, mp_g, mr_s, mr_i, mr_g, zlt_0, zlt_1, zlt_2, zlt_3, zlt_4, zlt_5, zlt_6, zlt_8, zlt_12, zlt_15, zlt_20, zlt_24, zlt_36, zlt_40, zlt_48, zlt_80, zlt_97, zlt_120, zlt_256, zlt_600, zlt_99999999, zadd_1, zadd_2, zadd_5, zadd_6, zadd_8, zadd_20, zadd_24, zeq_0, zeq_1, zeq_2, zeq_3, zeq_4, zeq_5, zeq_6, zeq_7, zeq_8, zeq_13, zeq_14, zeq_20, zeq_32, zeq_59, zeq_60, zeq_80, zmul_2, zmul_4, zmul_6, zmul_8, zmul_10, zmul_24, zsub_1, zsub_2, zsub_10, zsub_48, zsub_97, zle_0, zle_1, zle_2, zle_6, zle_11, zle_200, zle_600, zle_100000000, ylt_0, ylt_1, ylt_2, ylt_3, ylt_6, ylt_9, ylt_20, ylt_24, ylt_57, ylt_60, ylt_99, ylt_120, ylt_122, ylt_999, ylt_9999, yle_0, yle_2, yle_4, yle_5, yle_6, yle_7, yle_8, yle_10, yle_12, yle_13, yle_15, yle_16, yle_20, yle_24, yle_40, yle_60, yle_64, yle_80, yadd_1, yadd_22, ymul_2, ymul_4, ymul_6, ymul_8, ymul_10, ymul_24, ymul_27, ymul_100, ysub_1, ysub_24, zdiv_2, zdiv_4, zdiv_24, g4, g7, g29, g22, q2, c, c3, n2]
          exact ih _ _ ⟨_, _, rfl, hs1.trans (by rw [decide_eq_true c, decide_eq_true c3]; exact Bool.or_true _), rfl⟩
        · simp (disch := first | omega | rfl | decide) only [e_X6_isHeardAsTold_0, e_X6_isHeardAsTold_2, e_X6_isHeardAsTold_33, e_X6_isHeardAsTold_41, e_X6_isHeardAsTold_79, e_X6_isHeardAsTold_74, xr_v, xr_n, hl_of, hl_cl, hl_toInt, hl_le, hl_lt, hl_eq, nI_add, hl_sub, pk_mul, hl_div, if_pos, if_neg, ↓reduceIte, Nat.reduceAdd, Nat.reduceSub, Nat.reduceMul, Nat.add_zero, Nat.zero_add, mp_s, mp_k, mp_i, mp_g, mr_s, mr_i, mr_g, zlt_0, zlt_1, zlt_2, zlt_3, zlt_4, zlt_5, zlt_6, zlt_8, zlt_12, zlt_15, zlt_20, zlt_24, zlt_36, zlt_40, zlt_48, zlt_80, zlt_97, zlt_120, zlt_256, zlt_600, zlt_99999999, zadd_1, zadd_2, zadd_5, zadd_6, zadd_8, zadd_20, zadd_24, zeq_0, zeq_1, zeq_2, zeq_3, zeq_4, zeq_5, zeq_6, zeq_7, zeq_8, zeq_13, zeq_14, zeq_20, zeq_32, zeq_59, zeq_60, zeq_80, zmul_2, zmul_4, zmul_6, zmul_8, zmul_10, zmul_24, zsub_1, zsub_2, zsub_10, zsub_48, zsub_97, zle_0, zle_1, zle_2, zle_6, zle_11, zle_200, zle_600, zle_100000000, ylt_0, ylt_1, ylt_2, ylt_3, ylt_6, ylt_9, ylt_20, ylt_24, ylt_57, ylt_60, ylt_99, ylt_120, ylt_122, ylt_999, ylt_9999, yle_0, yle_2, yle_4, yle_5, yle_6, yle_7, yle_8, yle_10, yle_12, yle_13, yle_15, yle_16, yle_20, yle_24, yle_40, yle_60, yle_64, yle_80, yadd_1, yadd_22, ymul_2, ymul_4, ymul_6, ymul_8, ymul_10, ymul_24, ymul_27, ymul_100, ysub_1, ysub_24, zdiv_2, zdiv_4, zdiv_24, g4, g7, g29, g22, q2, c, c2, c3]
          rw [bad (hs1.trans (by rw [decide_eq_true c, decide_eq_false c2, decide_eq_false c3]; rfl))]
          rfl
    · by_cases c2 : tm j = -2
      · simp (disch := first | omega | rfl | decide) only [e_X6_isHeardAsTold_0, e_X6_isHeardAsTold_2, e_X6_isHeardAsTold_33, e_X6_isHeardAsTold_41, e_X6_isHeardAsTold_79, e_X6_isHeardAsTold_74, xr_v, xr_n, hl_of, hl_cl, hl_toInt, hl_le, hl_lt, hl_eq, nI_add, hl_sub, pk_mul, hl_div, if_pos, if_neg, ↓reduceIte, Nat.reduceAdd, Nat.reduceSub, Nat.reduceMul, Nat.add_zero, Nat.zero_add, mp_s, mp_k, mp_i, mp_g, mr_s, mr_i, mr_g, zlt_0, zlt_1, zlt_2, zlt_3, zlt_4, zlt_5, zlt_6, zlt_8, zlt_12, zlt_15, zlt_20, zlt_24, zlt_36, zlt_40, zlt_48, zlt_80, zlt_97, zlt_120, zlt_256, zlt_600, zlt_99999999, zadd_1, zadd_2, zadd_5, zadd_6, zadd_8, zadd_20, zadd_24, zeq_0, zeq_1, zeq_2, zeq_3, zeq_4, zeq_5, zeq_6, zeq_7, zeq_8, zeq_13, zeq_14, zeq_20, zeq_32, zeq_59, zeq_60, zeq_80, zmul_2, zmul_4, zmul_6, zmul_8, zmul_10, zmul_24, zsub_1, zsub_2, zsub_10, zsub_48, zsub_97, zle_0, zle_1, zle_2, zle_6, zle_11, zle_200, zle_600, zle_100000000, ylt_0, ylt_1, ylt_2, ylt_3, ylt_6, ylt_9, ylt_20, ylt_24, ylt_57, ylt_60, ylt_99, ylt_120, ylt_122, ylt_999, ylt_9999, yle_0, yle_2, yle_4, yle_5, yle_6, yle_7, yle_8, yle_10, yle_12, yle_13, yle_15, yle_16, yle_20, yle_24, yle_40, yle_60, yle_64, yle_80, yadd_1, yadd_22, ymul_2, ymul_4, ymul_6, ymul_8, ymul_10, ymul_24, ymul_27, ymul_100, ysub_1, ysub_24, zdiv_2, zdiv_4, zdiv_24, g4, g7, g29, g22, q2, c, c2]
        exact ih _ _ ⟨_, _, rfl, hs1.trans (by rw [decide_eq_true c2]; rfl), rfl⟩
      · by_cases c3 : tm j = -1
        · have n2 : ¬ (-1 : Int32) = -2 := by decide
          simp (disch := first | omega | rfl | decide) only [e_X6_isHeardAsTold_0, e_X6_isHeardAsTold_2, e_X6_isHeardAsTold_33, e_X6_isHeardAsTold_41, e_X6_isHeardAsTold_79, e_X6_isHeardAsTold_74, xr_v, xr_n, hl_of, hl_cl, hl_toInt, hl_le, hl_lt, hl_eq, nI_add, hl_sub, pk_mul, hl_div, if_pos, if_neg, ↓reduceIte, Nat.reduceAdd, Nat.reduceSub, Nat.reduceMul, Nat.add_zero, Nat.zero_add, mp_s, mp_k, mp_i, mp_g, mr_s, mr_i, mr_g, zlt_0, zlt_1, zlt_2, zlt_3, zlt_4, zlt_5, zlt_6, zlt_8, zlt_12, zlt_15, zlt_20, zlt_24, zlt_36, zlt_40, zlt_48, zlt_80, zlt_97, zlt_120, zlt_256, zlt_600, zlt_99999999, zadd_1, zadd_2, zadd_5, zadd_6, zadd_8, zadd_20, zadd_24, zeq_0, zeq_1, zeq_2, zeq_3, zeq_4, zeq_5, zeq_6, zeq_7, zeq_8, zeq_13, zeq_14, zeq_20, zeq_32, zeq_59, zeq_60, zeq_80, zmul_2, zmul_4, zmul_6, zmul_8, zmul_10, zmul_24, zsub_1, zsub_2, zsub_10, zsub_48, zsub_97, zle_0, zle_1, zle_2, zle_6, zle_11, zle_200, zle_600, zle_100000000, ylt_0, ylt_1, ylt_2, ylt_3, ylt_6, ylt_9, ylt_20, ylt_24, ylt_57, ylt_60, ylt_99, ylt_120, ylt_122, ylt_999, ylt_9999, yle_0, yle_2, yle_4, yle_5, yle_6, yle_7, yle_8, yle_10, yle_12, yle_13, yle_15, yle_16, yle_20, yle_24, yle_40, yle_60, yle_64, yle_80, yadd_1, yadd_22, ymul_2, ymul_4, ymul_6, ymul_8, ymul_10, ymul_24, ymul_27, ymul_100, ysub_1, ysub_24, zdiv_2, zdiv_4, zdiv_24, g4, g7, g29, g22, q2, c, c3, n2]
          rw [bad (hs1.trans (by rw [decide_eq_false c, decide_eq_false c2, decide_eq_true c3]; rfl))]
          rfl
        · simp (disch := first | omega | rfl | decide) only [e_X6_isHeardAsTold_0, e_X6_isHeardAsTold_2, e_X6_isHeardAsTold_33, e_X6_isHeardAsTold_41, e_X6_isHeardAsTold_79, e_X6_isHeardAsTold_74, xr_v, xr_n, hl_of, hl_cl, hl_toInt, hl_le, hl_lt, hl_eq, nI_add, hl_sub, pk_mul, hl_div, if_pos, if_neg, ↓reduceIte, Nat.reduceAdd, Nat.reduceSub, Nat.reduceMul, Nat.add_zero, Nat.zero_add, mp_s, mp_k, mp_i, mp_g, mr_s, mr_i, mr_g, zlt_0, zlt_1, zlt_2, zlt_3, zlt_4, zlt_5, zlt_6, zlt_8, zlt_12, zlt_15, zlt_20, zlt_24, zlt_36, zlt_40, zlt_48, zlt_80, zlt_97, zlt_120, zlt_256, zlt_600, zlt_99999999, zadd_1, zadd_2, zadd_5, zadd_6, zadd_8, zadd_20, zadd_24, zeq_0, zeq_1, zeq_2, zeq_3, zeq_4, zeq_5, zeq_6, zeq_7, zeq_8, zeq_13, zeq_14, zeq_20, zeq_32, zeq_59, zeq_60, zeq_80, zmul_2, zmul_4, zmul_6, zmul_8, zmul_10, zmul_24, zsub_1, zsub_2, zsub_10, zsub_48, zsub_97, zle_0, zle_1, zle_2, zle_6, zle_11, zle_200, zle_600, zle_100000000, ylt_0, ylt_1, ylt_2, ylt_3, ylt_6, ylt_9, ylt_20, ylt_24, ylt_57, ylt_60, ylt_99, ylt_120, ylt_122, ylt_999, ylt_9999, yle_0, yle_2, yle_4, yle_5, yle_6, yle_7, yle_8, yle_10, yle_12, yle_13, yle_15, yle_16, yle_20, yle_24, yle_40, yle_60, yle_64, yle_80, yadd_1, yadd_22, ymul_2, ymul_4, ymul_6, ymul_8, ymul_10, ymul_24, ymul_27, ymul_100, ysub_1, ysub_24, zdiv_2, zdiv_4, zdiv_24, g4, g7, g29, g22, q2, c, c2, c3]
          exact ih _ _ ⟨_, _, rfl, hs1.trans (by rw [decide_eq_false c, decide_eq_false c3]; exact Bool.or_true _), rfl⟩
  · rintro f k _ M' ⟨u4, u5, rfl, hb, e⟩
    rw [e, hb]
    simp (disch := first | omega | rfl | decide) only [e_X6_isHeardAsTold_0, e_X6_isHeardAsTold_2, e_X6_isHeardAsTold_33, e_X6_isHeardAsTold_41, e_X6_isHeardAsTold_79, e_X6_isHeardAsTold_74, xr_v, xr_n, hl_of, hl_cl, hl_toInt, hl_le, hl_lt, hl_eq, nI_add, hl_sub, pk_mul, hl_div, if_pos, if_neg, ↓reduceIte, Nat.reduceAdd, Nat.reduceSub, Nat.reduceMul, Nat.add_zero, Nat.zero_add, mp_s, mp_k, mp_i, mp_g, mr_s, mr_i, mr_g, zlt_0, zlt_1, zlt_2, zlt_3, zlt_4, zlt_5, zlt_6, zlt_8, zlt_12, zlt_15, zlt_20, zlt_24, zlt_36, zlt_40, zlt_48, zlt_80, zlt_97, zlt_120, zlt_256, zlt_600, zlt_99999999, zadd_1, zadd_2, zadd_5, zadd_6, zadd_8, zadd_20, zadd_24, zeq_0, zeq_1, zeq_2, zeq_3, zeq_4, zeq_5, zeq_6, zeq_7, zeq_8, zeq_13, zeq_14, zeq_20, zeq_32, zeq_59, zeq_60, zeq_80, zmul_2, zmul_4, zmul_6, zmul_8, zmul_10, zmul_24, zsub_1, zsub_2, zsub_10, zsub_48, zsub_97, zle_0, zle_1, zle_2, zle_6, zle_11, zle_200, zle_600, zle_100000000, ylt_0, ylt_1, ylt_2, ylt_3, ylt_6, ylt_9, ylt_20, ylt_24, ylt_57, ylt_60, ylt_99, ylt_120, ylt_122, ylt_999, ylt_9999, yle_0, yle_2, yle_4, yle_5, yle_6, yle_7, yle_8, yle_10, yle_12, yle_13, yle_15, yle_16, yle_20, yle_24, yle_40, yle_60, yle_64, yle_80, yadd_1, yadd_22, ymul_2, ymul_4, ymul_6, ymul_8, ymul_10, ymul_24, ymul_27, ymul_100, ysub_1, ysub_24, zdiv_2, zdiv_4, zdiv_24, g4]
    rfl
theorem snt_c {V : Vw} {tm : Nat → Int32} {n x v k : Nat} (hx : x < n) (hn : n ≤ 40) (hc : vN V 7 k < n) (hv : v ≤ 9) {q : Nat} (hq : q ≤ 999) (e : tm k = nI q) : -999 ≤ (snt V tm x v k).toInt ∧ (snt V tm x v k).toInt ≤ 999 := by
  have hd := dist_lt hx hc
  have h2 := Nat.mul_le_mul hv (show dist x (vN V 7 k) ≤ 40 by omega)
  unfold snt
  rw [e, pk_mul, pk_sub_toInt (by omega) (by omega)]
  omega
/-- what timesAreRight keeps: earliest, latest -/
def tsC (o : Option (Int × Int)) (e l : Int32) : Prop := match o with
  | none => e = 999 ∧ l = -999
  | some (lo, hi) => e.toInt = lo ∧ l.toInt = hi ∧ -999 ≤ lo ∧ hi ≤ 999 ∧ lo ≤ 999 ∧ -999 ≤ hi
theorem tsC_s {V : Vw} {tm : Nat → Int32} {x v j : Nat} {e l : Int32} (h : tsC (tsF V tm x v j) e l) (c : ¬ tm j < 0) (hb : -999 ≤ (snt V tm x v j).toInt ∧ (snt V tm x v j).toInt ≤ 999) :
    tsC (tsF V tm x v (j + 1)) (if snt V tm x v j < e then snt V tm x v j else e) (if l < snt V tm x v j then snt V tm x v j else l) := by
  have m1 : (999 : Int32).toInt = 999 := by decide
  have m2 : (-999 : Int32).toInt = -999 := by decide
  cases hz : tsF V tm x v j with
  | none =>
    rw [hz] at h
    obtain ⟨h1, h2⟩ := h
    rw [ts_0 c hz, h1, h2]
    refine ⟨?_, ?_, hb.1, hb.2, hb.2, hb.1⟩
    · by_cases c1 : snt V tm x v j < 999
      · rw [if_pos c1]
      · rw [if_neg c1]
        rw [i_lt] at c1
        omega
    · by_cases c1 : (-999 : Int32) < snt V tm x v j
      · rw [if_pos c1]
      · rw [if_neg c1]
        rw [i_lt] at c1
        omega
  | some p =>
    obtain ⟨lo, hi⟩ := p
    rw [hz] at h
    obtain ⟨h1, h2, h4, h5, h6, h7⟩ := h
    rw [ts_1 c hz]
    refine ⟨?_, ?_, ?_, ?_, ?_, ?_⟩
    · by_cases c1 : snt V tm x v j < e
      · rw [if_pos c1, if_pos (by rw [i_lt] at c1; omega)]
      · rw [if_neg c1, if_neg (by rw [i_lt] at c1; omega)]
        exact h1
    · by_cases c1 : l < snt V tm x v j
      · rw [if_pos c1, if_pos (by rw [i_lt] at c1; omega)]
      · rw [if_neg c1, if_neg (by rw [i_lt] at c1; omega)]
        exact h2
    · split <;> omega
    · split <;> omega
    · split <;> omega
    · split <;> omega
theorem x6_timesAreRight {M0 : Mem} {V : Vw} {As : Nat → Nat → Int32} {n nh ns nw na : Nat} {D : Nat} (hD : 4 ≤ D) (x v dd : Nat) (tm : Nat → Int32) (hx : x < n) (hv : v ≤ 9) (hd9 : dd ≤ 99) (M : Mem) (hM : CQ M0 V As n nh ns nw na M) (ht : ∀ k, k < 8 → M 22 0 k = tm k) (htk : ∀ k, k < 8 → tOK (tm k)) : EX L xs (D) q_X6_timesAreRight [.inr (.inr (0, 0)), .inl (nI x), .inl (nI v), .inl (nI dd)] M O = (some (.inl (some (.inl (b2i (trB (tsF V tm x v nh) dd)))), M, O, 0, 0) : Res) := by
  have hV := hM.2.1
  have v5 : n ≤ 40 := hV.2.2.2.2.2.1
  have v6 : nh ≤ 8 := hV.2.2.2.2.2.2.1
  have v7 : ns ≤ 6 := hV.2.2.2.2.2.2.2.1
  have v8 : nw ≤ 8 := hV.2.2.2.2.2.2.2.2.1
  have h6 : na ≤ 6 := hM.2.2.2.2.1
  have g0 := (hM.2.2.1 3 0 rfl).trans hV.1
  have g4 := (hM.2.2.1 3 4 rfl).trans hV.2.1
  have g8 := (hM.2.2.1 3 8 rfl).trans hV.2.2.1
  have g13 := (hM.2.2.1 3 13 rfl).trans hV.2.2.2.1
  have g6 := hM.2.2.2.1
  obtain ⟨d, rfl⟩ : ∃ d, D = d + 2 := ⟨D - 2, by omega⟩
  refine (EX_in mi_X6_timesAreRight rfl rfl rfl (ls := [some (.inr (.inr (0, 0))), some (.inl (nI x)), some (.inl (nI v)), some (.inl (nI dd)), none, none, none, none]) rfl).trans ?_
  rw [e_X6_timesAreRight_0]
  refine loopA L xs O (P := fun r => r = (some (.inl (some (.inl (b2i (trB (tsF V tm x v nh) dd)))), M, O, 0, 0) : Res)) (fun j ls M' => ∃ a4 a5 u7, ls = [some (.inr (.inr (0, 0))), some (.inl (nI x)), some (.inl (nI v)), some (.inl (nI dd)), some (.inl (a4)), some (.inl (a5)), some (.inl (nI j)), u7] ∧ tsC (tsF V tm x v j) a4 a5 ∧ M' = M) nh 100 (by omega) ?_ ?_ (Nat.le_of_lt (FU (by omega))) ⟨_, _, _, rfl, ⟨rfl, rfl⟩, rfl⟩
  · rintro f k j _ M' hj ⟨a4, a5, u7, rfl, hC, e⟩ ih
    rw [e]
    have vc := hV.2.2.2.2.2.2.2.2.2.2.2.2.1 j hj
    have vc2 := vc.2
    have g7 := (hM.2.2.1 7 j (decide_eq_true (show j < 8 by omega))).trans vc.1
    have g22 := ht j (by omega)
    have ea := abs_d x (by omega) (vN V 7 j) (by omega)
    by_cases c : tm j < 0
    · simp (disch := first | omega | rfl | decide) only [e_X6_timesAreRight_0, e_X6_timesAreRight_13, e_X6_timesAreRight_108, e_X6_timesAreRight_86, e_X6_timesAreRight_64, e_X6_timesAreRight_75, e_X6_timesAreRight_84, xr_v, xr_n, hl_of, hl_cl, hl_toInt, hl_le, hl_lt, hl_eq, nI_add, hl_sub, pk_mul, hl_div, if_pos, if_neg, ↓reduceIte, Nat.reduceAdd, Nat.reduceSub, Nat.reduceMul, Nat.add_zero, Nat.zero_add, mp_s, mp_k, mp_i, mp_g, mr_s, mr_i, mr_g, zlt_0, zlt_1, zlt_2, zlt_3, zlt_4, zlt_5, zlt_6, zlt_8, zlt_12, zlt_15, zlt_20, zlt_24, zlt_36, zlt_40, zlt_48, zlt_80, zlt_97, zlt_120, zlt_256, zlt_600, zlt_99999999, zadd_1, zadd_2, zadd_5, zadd_6, zadd_8, zadd_20, zadd_24, zeq_0, zeq_1, zeq_2, zeq_3, zeq_4, zeq_5, zeq_6, zeq_7, zeq_8, zeq_13, zeq_14, zeq_20, zeq_32, zeq_59, zeq_60, zeq_80, zmul_2, zmul_4, zmul_6, zmul_8, zmul_10, zmul_24, zsub_1, zsub_2, zsub_10, zsub_48, zsub_97, zle_0, zle_1, zle_2, zle_6, zle_11, zle_200, zle_600, zle_100000000, ylt_0, ylt_1, ylt_2, ylt_3, ylt_6, ylt_9, ylt_20, ylt_24, ylt_57, ylt_60, ylt_99, ylt_120, ylt_122, ylt_999, ylt_9999, yle_0, yle_2, yle_4, yle_5, yle_6, yle_7, yle_8, yle_10, yle_12, yle_13, yle_15, yle_16, yle_20, yle_24, yle_40, yle_60, yle_64, yle_80, yadd_1, yadd_22, ymul_2, ymul_4, ymul_6, ymul_8, ymul_10, ymul_24, ymul_27, ymul_100, ysub_1, ysub_24, zdiv_2, zdiv_4, zdiv_24, g4, g22, c]
      exact ih _ _ ⟨_, _, _, rfl, by rw [ts_n c]; exact hC, rfl⟩
    · obtain ⟨q, hq, hqe⟩ := tOK_neg (htk j (by omega)) (fun e => c (by rw [e]; decide)) (fun e => c (by rw [e]; decide))
      have hb := snt_c (V := V) (tm := tm) hx v5 vc2 hv hq hqe
      have hs := tsC_s hC c hb
      rw [e_X6_timesAreRight_13, g4, if_neg (by rw [hl_le (by omega) (by omega)]; omega), if_pos (in_8 (by omega)), hl_cl (by omega), g22, if_neg c, if_pos (in_8 (by omega)), if_pos (in_8 (by omega)), g7, ea, e_X6_timesAreRight_64, e_X6_timesAreRight_75, e_X6_timesAreRight_84, e_X6_timesAreRight_86, zadd_1]
      exact ih _ _ ⟨_, _, _, rfl, hs, rfl⟩
  · rintro f k _ M' ⟨a4, a5, u7, rfl, hC, e⟩
    rw [e, e_X6_timesAreRight_13, g4, if_pos (by rw [hl_le (by omega) (by omega)]; omega)]
    cases hz : tsF V tm x v nh with
    | none =>
      rw [hz] at hC
      obtain ⟨h1, h2⟩ := hC
      have e1 : (a5 - a4).toInt = -1998 := by rw [h1, h2]; decide
      rw [ymul_2, if_neg (by rw [i_lt, e1, hl_toInt (by omega)]; omega), e_X6_timesAreRight_108, if_pos (Or.inr rfl)]
      rfl
    | some p =>
      obtain ⟨lo, hi⟩ := p
      rw [hz] at hC
      obtain ⟨h1, h2, h4, h5, h6, h7⟩ := hC
      have e1 : (a5 - a4).toInt = hi - lo := by rw [t_sub (by omega) (by omega)]; omega
      rw [ymul_2]
      by_cases c : hi - lo ≤ 2 * (dd : Int)
      · rw [if_neg (by rw [i_lt, e1, hl_toInt (by omega)]; omega), e_X6_timesAreRight_108, if_pos (Or.inr rfl), show trB (some (lo, hi)) dd = true from decide_eq_true c]
        rfl
      · rw [if_pos (by rw [i_lt, e1, hl_toInt (by omega)]; omega), e_X6_timesAreRight_108, if_pos (Or.inl rfl), show trB (some (lo, hi)) dd = false from decide_eq_false c]
        rfl
theorem c_bang {M0 : Mem} {V : Vw} {As : Nat → Nat → Int32} {n nh ns nw na : Nat} {D : Nat} (hD : 9 ≤ D) (a h l v dd : Nat) (tm : Nat → Int32) (ha : a < na) (hh : h < 24) (hl0 : 1 ≤ l) (hl : l ≤ 120) (hv0 : 1 ≤ v) (hv : v ≤ 9) (hd9 : dd ≤ 99) (ht : ∀ k, k < 8 → M0 22 0 k = tm k) (htk : ∀ k, k < 8 → tOK (tm k)) (M : Mem) (hM : CQ M0 V As n nh ns nw na M) : isL (EX L xs (D) q_X6_bang [.inr (.inr (0, 0)), .inl (nI a), .inl (nI h), .inl (nI l), .inl (nI v), .inl (nI dd)] M O) O (bangF V (As a) n nh h l v dd tm) (CQ M0 V As n nh ns nw na) := by
  have hV := hM.2.1
  have v5 : n ≤ 40 := hV.2.2.2.2.2.1
  have v6 : nh ≤ 8 := hV.2.2.2.2.2.2.1
  have v7 : ns ≤ 6 := hV.2.2.2.2.2.2.2.1
  have v8 : nw ≤ 8 := hV.2.2.2.2.2.2.2.2.1
  have h6 : na ≤ 6 := hM.2.2.2.2.1
  have g0 := (hM.2.2.1 3 0 rfl).trans hV.1
  have g4 := (hM.2.2.1 3 4 rfl).trans hV.2.1
  have g8 := (hM.2.2.1 3 8 rfl).trans hV.2.2.1
  have g13 := (hM.2.2.1 3 13 rfl).trans hV.2.2.2.1
  have g6 := hM.2.2.2.1
  obtain ⟨d, rfl⟩ : ∃ d, D = d + 2 := ⟨D - 2, by omega⟩
  refine isL_e (EX_in mi_X6_bang rfl rfl rfl (ls := [some (.inr (.inr (0, 0))), some (.inl (nI a)), some (.inl (nI h)), some (.inl (nI l)), some (.inl (nI v)), some (.inl (nI dd)), none, none, none]) rfl) ?_
  have q1 := x6_needAir_in L xs O (D := d + 1) (by omega) (by omega) a M g6 ha
  have q2 := x6_needHour_in L xs O (D := d + 1) (by omega) h M hh
  have q3 := x6_needArg_1 L xs O (D := d + 1) (by omega) M
  simp (disch := first | omega | rfl | decide) only [e_X6_bang_0, e_X6_bang_5, e_X6_bang_10, e_X6_bang_26, e_X6_bang_27, e_X6_bang_30, e_X6_bang_60, e_X6_bang_61, e_X6_bang_64, e_X6_bang_92, e_X6_bang_134, e_X6_bang_118, e_X6_bang_122, xr_v, xr_n, hl_of, hl_cl, hl_toInt, hl_le, hl_lt, hl_eq, nI_add, hl_sub, pk_mul, hl_div, if_pos, if_neg, ↓reduceIte, Nat.reduceAdd, Nat.reduceSub, Nat.reduceMul, Nat.add_zero, Nat.zero_add, mp_s, mp_k, mp_i, mp_g, mr_s, mr_i, mr_g, zlt_0, zlt_1, zlt_2, zlt_3, zlt_4, zlt_5, zlt_6, zlt_8, zlt_12, zlt_15, zlt_20, zlt_24, zlt_36, zlt_40, zlt_48, zlt_80, zlt_97, zlt_120, zlt_256, zlt_600, zlt_99999999, zadd_1, zadd_2, zadd_5, zadd_6, zadd_8, zadd_20, zadd_24, zeq_0, zeq_1, zeq_2, zeq_3, zeq_4, zeq_5, zeq_6, zeq_7, zeq_8, zeq_13, zeq_14, zeq_20, zeq_32, zeq_59, zeq_60, zeq_80, zmul_2, zmul_4, zmul_6, zmul_8, zmul_10, zmul_24, zsub_1, zsub_2, zsub_10, zsub_48, zsub_97, zle_0, zle_1, zle_2, zle_6, zle_11, zle_200, zle_600, zle_100000000, ylt_0, ylt_1, ylt_2, ylt_3, ylt_6, ylt_9, ylt_20, ylt_24, ylt_57, ylt_60, ylt_99, ylt_120, ylt_122, ylt_999, ylt_9999, yle_0, yle_2, yle_4, yle_5, yle_6, yle_7, yle_8, yle_10, yle_12, yle_13, yle_15, yle_16, yle_20, yle_24, yle_40, yle_60, yle_64, yle_80, yadd_1, yadd_22, ymul_2, ymul_4, ymul_6, ymul_8, ymul_10, ymul_24, ymul_27, ymul_100, ysub_1, ysub_24, zdiv_2, zdiv_4, zdiv_24, q1, q2, q3]
  refine loopA L xs O (P := fun r => isL r O _ (CQ M0 V As n nh ns nw na)) (fun j ls M => ∃ w, w = bitsL (fun x => trB (tsF V tm x v nh) dd && hatB (loudF V (As a) n x 1 (nI l) 1) V h tm nh) j ∧ ls = [some (.inr (.inr (0, 0))), some (.inl (nI a)), some (.inl (nI h)), some (.inl (nI l)), some (.inl (nI v)), some (.inl (nI dd)), some (.inr (.inl (w))), none, some (.inl (nI j))] ∧ CQ M0 V As n nh ns nw na M) n 100 (by omega) ?_ ?_ (Nat.le_of_lt (FU (by omega))) ⟨_, rfl, rfl, hM⟩
  · rintro f k j _ M hj ⟨_, rfl, rfl, hM⟩ ih
    have hV := hM.2.1
    have v5 : n ≤ 40 := hV.2.2.2.2.2.1
    have v6 : nh ≤ 8 := hV.2.2.2.2.2.2.1
    have v7 : ns ≤ 6 := hV.2.2.2.2.2.2.2.1
    have v8 : nw ≤ 8 := hV.2.2.2.2.2.2.2.2.1
    have h6 : na ≤ 6 := hM.2.2.2.2.1
    have g0 := (hM.2.2.1 3 0 rfl).trans hV.1
    have g4 := (hM.2.2.1 3 4 rfl).trans hV.2.1
    have g8 := (hM.2.2.1 3 8 rfl).trans hV.2.2.1
    have g13 := (hM.2.2.1 3 13 rfl).trans hV.2.2.2.1
    have g6 := hM.2.2.2.1
    have q4 := x6_timesAreRight L xs O (D := d + 1) (by omega) j v dd tm hj hv hd9 M hM (fun k hk => (hM.1 22 0 k rfl).trans (ht k hk)) htk
    cases c : trB (tsF V tm j v nh) dd with
    | false =>
      rw [c, b2i_f] at q4
      simp (disch := first | omega | rfl | decide) only [e_X6_bang_0, e_X6_bang_5, e_X6_bang_10, e_X6_bang_26, e_X6_bang_27, e_X6_bang_30, e_X6_bang_60, e_X6_bang_61, e_X6_bang_64, e_X6_bang_70, e_X6_bang_92, e_X6_bang_134, e_X6_bang_118, e_X6_bang_122, xr_v, xr_n, hl_of, hl_cl, hl_toInt, hl_le, hl_lt, hl_eq, nI_add, hl_sub, pk_mul, hl_div, if_pos, if_neg, ↓reduceIte, Nat.reduceAdd, Nat.reduceSub, Nat.reduceMul, Nat.add_zero, Nat.zero_add, mp_s, mp_k, mp_i, mp_g, mr_s, mr_i, mr_g, zlt_0, zlt_1, zlt_2, zlt_3, zlt_4, zlt_5, zlt_6, zlt_8, zlt_12, zlt_15, zlt_20, zlt_24, zlt_36, zlt_40, zlt_48, zlt_80, zlt_97, zlt_120, zlt_256, zlt_600, zlt_99999999, zadd_1, zadd_2, zadd_5, zadd_6, zadd_8, zadd_20, zadd_24, zeq_0, zeq_1, zeq_2, zeq_3, zeq_4, zeq_5, zeq_6, zeq_7, zeq_8, zeq_13, zeq_14, zeq_20, zeq_32, zeq_59, zeq_60, zeq_80, zmul_2, zmul_4, zmul_6, zmul_8, zmul_10, zmul_24, zsub_1, zsub_2, zsub_10, zsub_48, zsub_97, zle_0, zle_1, zle_2, zle_6, zle_11, zle_200, zle_600, zle_100000000, ylt_0, ylt_1, ylt_2, ylt_3, ylt_6, ylt_9, ylt_20, ylt_24, ylt_57, ylt_60, ylt_99, ylt_120, ylt_122, ylt_999, ylt_9999, yle_0, yle_2, yle_4, yle_5, yle_6, yle_7, yle_8, yle_10, yle_12, yle_13, yle_15, yle_16, yle_20, yle_24, yle_40, yle_60, yle_64, yle_80, yadd_1, yadd_22, ymul_2, ymul_4, ymul_6, ymul_8, ymul_10, ymul_24, ymul_27, ymul_100, ysub_1, ysub_24, zdiv_2, zdiv_4, zdiv_24, g0, q4]
      exact ih _ _ ⟨_, bitsL_f (by rw [c, Bool.false_and]), rfl, hM⟩
    | true =>
      rw [c, b2i_t] at q4
      obtain ⟨M1, q5, h1, r1⟩ := x4_alone L xs O (D := d + 1) (by omega) a j 1 (nI l) 1 ha hj (nn_n l (by omega)) M hM
      have q6 := x6_isHeardAsTold L xs O (D := d + 1) (by omega) h tm _ hh M1 h1 (fun k hk => (h1.1 22 0 k rfl).trans (ht k hk)) r1
      cases c2 : hatB (loudF V (As a) n j 1 (nI l) 1) V h tm nh with
      | false =>
        rw [c2, b2i_f] at q6
        simp (disch := first | omega | rfl | decide) only [e_X6_bang_0, e_X6_bang_5, e_X6_bang_10, e_X6_bang_26, e_X6_bang_27, e_X6_bang_30, e_X6_bang_60, e_X6_bang_61, e_X6_bang_64, e_X6_bang_70, e_X6_bang_92, e_X6_bang_134, e_X6_bang_118, e_X6_bang_122, xr_v, xr_n, hl_of, hl_cl, hl_toInt, hl_le, hl_lt, hl_eq, nI_add, hl_sub, pk_mul, hl_div, if_pos, if_neg, ↓reduceIte, Nat.reduceAdd, Nat.reduceSub, Nat.reduceMul, Nat.add_zero, Nat.zero_add, mp_s, mp_k, mp_i, mp_g, mr_s, mr_i, mr_g, zlt_0, zlt_1, zlt_2, zlt_3, zlt_4, zlt_5, zlt_6, zlt_8, zlt_12, zlt_15, zlt_20, zlt_24, zlt_36, zlt_40, zlt_48, zlt_80, zlt_97, zlt_120, zlt_256, zlt_600, zlt_99999999, zadd_1, zadd_2, zadd_5, zadd_6, zadd_8, zadd_20, zadd_24, zeq_0, zeq_1, zeq_2, zeq_3, zeq_4, zeq_5, zeq_6, zeq_7, zeq_8, zeq_13, zeq_14, zeq_20, zeq_32, zeq_59, zeq_60, zeq_80, zmul_2, zmul_4, zmul_6, zmul_8, zmul_10, zmul_24, zsub_1, zsub_2, zsub_10, zsub_48, zsub_97, zle_0, zle_1, zle_2, zle_6, zle_11, zle_200, zle_600, zle_100000000, ylt_0, ylt_1, ylt_2, ylt_3, ylt_6, ylt_9, ylt_20, ylt_24, ylt_57, ylt_60, ylt_99, ylt_120, ylt_122, ylt_999, ylt_9999, yle_0, yle_2, yle_4, yle_5, yle_6, yle_7, yle_8, yle_10, yle_12, yle_13, yle_15, yle_16, yle_20, yle_24, yle_40, yle_60, yle_64, yle_80, yadd_1, yadd_22, ymul_2, ymul_4, ymul_6, ymul_8, ymul_10, ymul_24, ymul_27, ymul_100, ysub_1, ysub_24, zdiv_2, zdiv_4, zdiv_24, g0, q4, q5, q6]
        exact ih _ _ ⟨_, bitsL_f (by rw [c2, Bool.and_false]), rfl, h1⟩
      | true =>
        rw [c2, b2i_t] at q6
        simp (disch := first | omega | rfl | decide) only [e_X6_bang_0, e_X6_bang_5, e_X6_bang_10, e_X6_bang_26, e_X6_bang_27, e_X6_bang_30, e_X6_bang_60, e_X6_bang_61, e_X6_bang_64, e_X6_bang_70, e_X6_bang_92, e_X6_bang_134, e_X6_bang_118, e_X6_bang_122, xr_v, xr_n, hl_of, hl_cl, hl_toInt, hl_le, hl_lt, hl_eq, nI_add, hl_sub, pk_mul, hl_div, if_pos, if_neg, ↓reduceIte, Nat.reduceAdd, Nat.reduceSub, Nat.reduceMul, Nat.add_zero, Nat.zero_add, mp_s, mp_k, mp_i, mp_g, mr_s, mr_i, mr_g, zlt_0, zlt_1, zlt_2, zlt_3, zlt_4, zlt_5, zlt_6, zlt_8, zlt_12, zlt_15, zlt_20, zlt_24, zlt_36, zlt_40, zlt_48, zlt_80, zlt_97, zlt_120, zlt_256, zlt_600, zlt_99999999, zadd_1, zadd_2, zadd_5, zadd_6, zadd_8, zadd_20, zadd_24, zeq_0, zeq_1, zeq_2, zeq_3, zeq_4, zeq_5, zeq_6, zeq_7, zeq_8, zeq_13, zeq_14, zeq_20, zeq_32, zeq_59, zeq_60, zeq_80, zmul_2, zmul_4, zmul_6, zmul_8, zmul_10, zmul_24, zsub_1, zsub_2, zsub_10, zsub_48, zsub_97, zle_0, zle_1, zle_2, zle_6, zle_11, zle_200, zle_600, zle_100000000, ylt_0, ylt_1, ylt_2, ylt_3, ylt_6, ylt_9, ylt_20, ylt_24, ylt_57, ylt_60, ylt_99, ylt_120, ylt_122, ylt_999, ylt_9999, yle_0, yle_2, yle_4, yle_5, yle_6, yle_7, yle_8, yle_10, yle_12, yle_13, yle_15, yle_16, yle_20, yle_24, yle_40, yle_60, yle_64, yle_80, yadd_1, yadd_22, ymul_2, ymul_4, ymul_6, ymul_8, ymul_10, ymul_24, ymul_27, ymul_100, ysub_1, ysub_24, zdiv_2, zdiv_4, zdiv_24, g0, q4, q5, q6]
        exact ih _ _ ⟨_, bitsL_t (by rw [c, c2]; rfl), rfl, h1⟩
  · rintro f k _ M ⟨_, rfl, rfl, hM⟩
    have hV := hM.2.1
    have v5 : n ≤ 40 := hV.2.2.2.2.2.1
    have v6 : nh ≤ 8 := hV.2.2.2.2.2.2.1
    have v7 : ns ≤ 6 := hV.2.2.2.2.2.2.2.1
    have v8 : nw ≤ 8 := hV.2.2.2.2.2.2.2.2.1
    have h6 : na ≤ 6 := hM.2.2.2.2.1
    have g0 := (hM.2.2.1 3 0 rfl).trans hV.1
    have g4 := (hM.2.2.1 3 4 rfl).trans hV.2.1
    have g8 := (hM.2.2.1 3 8 rfl).trans hV.2.2.1
    have g13 := (hM.2.2.1 3 13 rfl).trans hV.2.2.2.1
    have g6 := hM.2.2.2.1
    simp (disch := first | omega | rfl | decide) only [e_X6_bang_0, e_X6_bang_5, e_X6_bang_10, e_X6_bang_26, e_X6_bang_27, e_X6_bang_30, e_X6_bang_60, e_X6_bang_61, e_X6_bang_64, e_X6_bang_70, e_X6_bang_92, e_X6_bang_134, e_X6_bang_118, e_X6_bang_122, xr_v, xr_n, hl_of, hl_cl, hl_toInt, hl_le, hl_lt, hl_eq, nI_add, hl_sub, pk_mul, hl_div, if_pos, if_neg, ↓reduceIte, Nat.reduceAdd, Nat.reduceSub, Nat.reduceMul, Nat.add_zero, Nat.zero_add, mp_s, mp_k, mp_i, mp_g, mr_s, mr_i, mr_g, zlt_0, zlt_1, zlt_2, zlt_3, zlt_4, zlt_5, zlt_6, zlt_8, zlt_12, zlt_15, zlt_20, zlt_24, zlt_36, zlt_40, zlt_48, zlt_80, zlt_97, zlt_120, zlt_256, zlt_600, zlt_99999999, zadd_1, zadd_2, zadd_5, zadd_6, zadd_8, zadd_20, zadd_24, zeq_0, zeq_1, zeq_2, zeq_3, zeq_4, zeq_5, zeq_6, zeq_7, zeq_8, zeq_13, zeq_14, zeq_20, zeq_32, zeq_59, zeq_60, zeq_80, zmul_2, zmul_4, zmul_6, zmul_8, zmul_10, zmul_24, zsub_1, zsub_2, zsub_10, zsub_48, zsub_97, zle_0, zle_1, zle_2, zle_6, zle_11, zle_200, zle_600, zle_100000000, ylt_0, ylt_1, ylt_2, ylt_3, ylt_6, ylt_9, ylt_20, ylt_24, ylt_57, ylt_60, ylt_99, ylt_120, ylt_122, ylt_999, ylt_9999, yle_0, yle_2, yle_4, yle_5, yle_6, yle_7, yle_8, yle_10, yle_12, yle_13, yle_15, yle_16, yle_20, yle_24, yle_40, yle_60, yle_64, yle_80, yadd_1, yadd_22, ymul_2, ymul_4, ymul_6, ymul_8, ymul_10, ymul_24, ymul_27, ymul_100, ysub_1, ysub_24, zdiv_2, zdiv_4, zdiv_24, g0]
    exact isL_i hM
end
/-- what couldBe keeps: low, high -/
def tsM (o : Option (Int × Int)) (dd : Nat) (lw hg : Int32) : Prop := match o with
  | none => lw = -1000000 ∧ hg = 1000000
  | some (lo, hi) => lw.toInt = hi - dd ∧ hg.toInt = lo + dd ∧ -1000 ≤ lo ∧ hi ≤ 1000 ∧ lo ≤ 1000 ∧ -1000 ≤ hi
theorem tsM_s {V : Vw} {tm : Nat → Int32} {x v j dd : Nat} {lw hg : Int32} (hd9 : dd ≤ 99) (h : tsM (tsF V tm x v j) dd lw hg) (c : ¬ tm j < 0) (hb : -1000 ≤ (snt V tm x v j).toInt ∧ (snt V tm x v j).toInt ≤ 1000) :
    tsM (tsF V tm x v (j + 1)) dd (if snt V tm x v j - nI dd ≤ lw then lw else snt V tm x v j - nI dd) (if hg ≤ snt V tm x v j + nI dd then hg else snt V tm x v j + nI dd) := by
  have m1 : (-1000000 : Int32).toInt = -1000000 := by decide
  have m2 : (1000000 : Int32).toInt = 1000000 := by decide
  have hd : (nI dd).toInt = (dd : Int) := hl_toInt (by omega)
  have e1 : (snt V tm x v j - nI dd).toInt = (snt V tm x v j).toInt - dd := by rw [t_sub (by omega) (by omega), hd]
  have e2 : (snt V tm x v j + nI dd).toInt = (snt V tm x v j).toInt + dd := by rw [t_add (by omega) (by omega), hd]
  cases hz : tsF V tm x v j with
  | none =>
    rw [hz] at h
    obtain ⟨h1, h2⟩ := h
    rw [ts_0 c hz, h1, h2, if_neg (by rw [i_le]; omega), if_neg (by rw [i_le]; omega)]
    exact ⟨e1, e2, hb.1, hb.2, hb.2, hb.1⟩
  | some p =>
    obtain ⟨lo, hi⟩ := p
    rw [hz] at h
    obtain ⟨h1, h2, h4, h5, h6, h7⟩ := h
    rw [ts_1 c hz]
    refine ⟨?_, ?_, ?_, ?_, ?_, ?_⟩
    · by_cases c1 : snt V tm x v j - nI dd ≤ lw
      · rw [if_pos c1, if_neg (by rw [i_le] at c1; omega)]
        exact h1
      · rw [if_neg c1, if_pos (by rw [i_le] at c1; omega)]
        exact e1
    · by_cases c1 : hg ≤ snt V tm x v j + nI dd
      · rw [if_pos c1, if_neg (by rw [i_le] at c1; omega)]
        exact h2
      · rw [if_neg c1, if_pos (by rw [i_le] at c1; omega)]
        exact e2
    · split <;> omega
    · split <;> omega
    · split <;> omega
    · split <;> omega
section
variable (L : Nat) (xs : Nat → Int32) (O : Int64) {T : Vw} {f : Nat → Nat} {As : Nat → Nat → Int32} {n nh ns nw na nd : Nat}
theorem x7_couldBe {D : Nat} (hD : 4 ≤ D) (x v dd h : Nat) (tm : Nat → Int32) (R : Nat → Int32) (hx : x < n) (hv : v ≤ 9) (hd9 : dd ≤ 99) (hh : h < 24) {M0 : Mem} (M : Mem) (hM : MR T f As n nh ns nw na nd M0 M) (ht : ∀ k, k < 8 → M 69 0 k = tm k) (htk : ∀ k, k < 8 → tOK (tm k)) (hR : ∀ y, y < n → M 79 0 y = R y) : EX L xs (D) q_X7_couldBe [.inr (.inr (40, 0)), .inl (nI x), .inl (nI v), .inl (nI dd), .inl (nI h)] M O = (some (.inl (some (.inl (b2i (trB (tsF (perfL T f nd) tm x v nh) dd && hatB R (perfL T f nd) h tm nh)))), M, O, 0, 0) : Res) := by
  have hV := hM.2.1.1
  have v5 : n ≤ 40 := hV.2.2.2.2.2.1
  have v6 : nh ≤ 8 := hV.2.2.2.2.2.2.1
  have k1 := hM.2.1.2.1.2.1
  have n2 : ¬ (-1 : Int32) = -2 := by decide
  have l0 : (-1 : Int32) < 0 := by decide
  obtain ⟨d, rfl⟩ : ∃ d, D = d + 2 := ⟨D - 2, by omega⟩
  refine (EX_in mi_X7_couldBe rfl rfl rfl (ls := [some (.inr (.inr (40, 0))), some (.inl (nI x)), some (.inl (nI v)), some (.inl (nI dd)), some (.inl (nI h)), none, none, none, none, none]) rfl).trans ?_
  rw [e_X7_couldBe_0]
  generalize hW : (perfL T f nd) = V at *
  refine loopA L xs O (P := fun r => r = (some (.inl (some (.inl (b2i (trB (tsF V tm x v nh) dd && hatB R V h tm nh)))), M, O, 0, 0) : Res)) (fun j ls M' => ∃ lw hg u8 u9, ls = [some (.inr (.inr (40, 0))), some (.inl (nI x)), some (.inl (nI v)), some (.inl (nI dd)), some (.inl (nI h)), some (.inl (lw)), some (.inl (hg)), some (.inl (nI j)), u8, u9] ∧ tsM (tsF V tm x v j) dd lw hg ∧ hatB R V h tm j = true ∧ M' = M) nh 300 (by omega) ?_ ?_ (Nat.le_of_lt (FU (by omega))) ⟨_, _, _, _, rfl, ⟨rfl, rfl⟩, rfl, rfl⟩
  · rintro fu k j _ M' hj ⟨lw, hg, u8, u9, rfl, hC, hb, e⟩ ih
    rw [e]
    have vc := hV.2.2.2.2.2.2.2.2.2.2.2.2.1 j hj
    have vc2 := vc.2
    have g56 := (hM.2.1.2.1.2.2.2.2.2.1 j hj)
    rw [hW] at g56
    have g56 := g56.trans vc.1
    have g79 := hR (vN V 7 j) (by omega)
    have g69 := ht j (by omega)
    have q2 := x7_needs L xs O (D := d + 1) (by omega) j h hj hh v6 M (V := V) (hW ▸ hM.2.1.2.1) (hW ▸ hM.2.1.2.2.1)
    have hs1 : hatB R V h tm (j + 1) = (hatB R V h tm j && (decide (tm j = -2) || (decide (R (vN V 7 j) < needF (V 8) (V 9) j h) == decide (tm j = -1)))) := rfl
    rw [hb, Bool.true_and] at hs1
    have bad : hatB R V h tm (j + 1) = false → (trB (tsF V tm x v nh) dd && hatB R V h tm nh) = false := by
      intro h3
      have h4 := hatB_f h3 (nh - (j + 1))
      rw [show j + 1 + (nh - (j + 1)) = nh by omega] at h4
      rw [h4, Bool.and_false]
    by_cases c2 : tm j = -2
    · have hn : tm j < 0 := by rw [c2]; decide
      simp (disch := first | omega | rfl | decide) only [e_X7_couldBe_0, e_X7_couldBe_13, e_X7_couldBe_215, e_X7_couldBe_197, e_X7_couldBe_61, e_X7_couldBe_69, e_X7_couldBe_84, e_X7_couldBe_127, e_X7_couldBe_175, e_X7_couldBe_195, xr_v, xr_n, hl_of, hl_cl, hl_toInt, hl_le, hl_lt, hl_eq, nI_add, hl_sub, pk_mul, hl_div, if_pos, if_neg, ↓reduceIte, Nat.reduceAdd, Nat.reduceSub, Nat.reduceMul, Nat.add_zero, Nat.zero_add, mp_s, mp_k, mp_i, mp_g, mr_s, mr_i, mr_g, zlt_0, zlt_1, zlt_2, zlt_3, zlt_4, zlt_5, zlt_6, zlt_8, zlt_12, zlt_15, zlt_20, zlt_24, zlt_36, zlt_40, zlt_48, zlt_80, zlt_97, zlt_120, zlt_256, zlt_600, zlt_99999999, zadd_1, zadd_2, zadd_5, zadd_6, zadd_8, zadd_20, zadd_24, zeq_0, zeq_1, zeq_2, zeq_3, zeq_4, zeq_5, zeq_6, zeq_7, zeq_8, zeq_13, zeq_14, zeq_20, zeq_32, zeq_59, zeq_60, zeq_80, zmul_2, zmul_4, zmul_6, zmul_8, zmul_10, zmul_24, zsub_1, zsub_2, zsub_10, zsub_48, zsub_97, zle_0, zle_1, zle_2, zle_6, zle_11, zle_200, zle_600, zle_100000000, ylt_0, ylt_1, ylt_2, ylt_3, ylt_6, ylt_9, ylt_20, ylt_24, ylt_57, ylt_60, ylt_99, ylt_120, ylt_122, ylt_999, ylt_9999, yle_0, yle_2, yle_4, yle_5, yle_6, yle_7, yle_8, yle_10, yle_12, yle_13, yle_15, yle_16, yle_20, yle_24, yle_40, yle_60, yle_64, yle_80, yadd_1, yadd_22, ymul_2, ymul_4, ymul_6, ymul_8, ymul_10, ymul_24, ymul_27, ymul_100, ysub_1, ysub_24, zdiv_2, zdiv_4, zdiv_24, k1, g69, c2]
      exact ih _ _ ⟨_, _, _, _, rfl, by rw [ts_n hn]; exact hC, hs1.trans (by rw [decide_eq_true c2]; rfl), rfl⟩
    · by_cases c3 : tm j = -1
      · have hn : tm j < 0 := by rw [c3]; decide
        by_cases c : R (vN V 7 j) < needF (V 8) (V 9) j h
        · have h5 : hatB R V h tm (j + 1) = true := hs1.trans (by rw [decide_eq_true c, decide_eq_true c3]; exact Bool.or_true _)
          have h6 : tsM (tsF V tm x v (j + 1)) dd lw hg := by rw [ts_n hn]; exact hC
          by_cases c4 : vN V 7 j ≤ x
          · simp (disch := first | omega | rfl | decide) only [e_X7_couldBe_0, e_X7_couldBe_13, e_X7_couldBe_215, e_X7_couldBe_197, e_X7_couldBe_61, e_X7_couldBe_69, e_X7_couldBe_84, e_X7_couldBe_127, e_X7_couldBe_175, e_X7_couldBe_195, xr_v, xr_n, hl_of, hl_cl, hl_toInt, hl_le, hl_lt, hl_eq, nI_add, hl_sub, pk_mul, hl_div, if_pos, if_neg, ↓reduceIte, Nat.reduceAdd, Nat.reduceSub, Nat.reduceMul, Nat.add_zero, Nat.zero_add, mp_s, mp_k, mp_i, mp_g, mr_s, mr_i, mr_g, zlt_0, zlt_1, zlt_2, zlt_3, zlt_4, zlt_5, zlt_6, zlt_8, zlt_12, zlt_15, zlt_20, zlt_24, zlt_36, zlt_40, zlt_48, zlt_80, zlt_97, zlt_120, zlt_256, zlt_600, zlt_99999999, zadd_1, zadd_2, zadd_5, zadd_6, zadd_8, zadd_20, zadd_24, zeq_0, zeq_1, zeq_2, zeq_3, zeq_4, zeq_5, zeq_6, zeq_7, zeq_8, zeq_13, zeq_14, zeq_20, zeq_32, zeq_59, zeq_60, zeq_80, zmul_2, zmul_4, zmul_6, zmul_8, zmul_10, zmul_24, zsub_1, zsub_2, zsub_10, zsub_48, zsub_97, zle_0, zle_1, zle_2, zle_6, zle_11, zle_200, zle_600, zle_100000000, ylt_0, ylt_1, ylt_2, ylt_3, ylt_6, ylt_9, ylt_20, ylt_24, ylt_57, ylt_60, ylt_99, ylt_120, ylt_122, ylt_999, ylt_9999, yle_0, yle_2, yle_4, yle_5, yle_6, yle_7, yle_8, yle_10, yle_12, yle_13, yle_15, yle_16, yle_20, yle_24, yle_40, yle_60, yle_64, yle_80, yadd_1, yadd_22, ymul_2, ymul_4, ymul_6, ymul_8, ymul_10, ymul_24, ymul_27, ymul_100, ysub_1, ysub_24, zdiv_2, zdiv_4, zdiv_24, k1, g69, g56, g79, q2, c, c3, n2, l0]
            exact ih _ _ ⟨_, _, _, _, rfl, h6, h5, rfl⟩
          · simp (disch := first | omega | rfl | decide) only [e_X7_couldBe_0, e_X7_couldBe_13, e_X7_couldBe_215, e_X7_couldBe_197, e_X7_couldBe_61, e_X7_couldBe_69, e_X7_couldBe_84, e_X7_couldBe_127, e_X7_couldBe_175, e_X7_couldBe_195, xr_v, xr_n, hl_of, hl_cl, hl_toInt, hl_le, hl_lt, hl_eq, nI_add, hl_sub, pk_mul, hl_div, if_pos, if_neg, ↓reduceIte, Nat.reduceAdd, Nat.reduceSub, Nat.reduceMul, Nat.add_zero, Nat.zero_add, mp_s, mp_k, mp_i, mp_g, mr_s, mr_i, mr_g, zlt_0, zlt_1, zlt_2, zlt_3, zlt_4, zlt_5, zlt_6, zlt_8, zlt_12, zlt_15, zlt_20, zlt_24, zlt_36, zlt_40, zlt_48, zlt_80, zlt_97, zlt_120, zlt_256, zlt_600, zlt_99999999, zadd_1, zadd_2, zadd_5, zadd_6, zadd_8, zadd_20, zadd_24, zeq_0, zeq_1, zeq_2, zeq_3, zeq_4, zeq_5, zeq_6, zeq_7, zeq_8, zeq_13, zeq_14, zeq_20, zeq_32, zeq_59, zeq_60, zeq_80, zmul_2, zmul_4, zmul_6, zmul_8, zmul_10, zmul_24, zsub_1, zsub_2, zsub_10, zsub_48, zsub_97, zle_0, zle_1, zle_2, zle_6, zle_11, zle_200, zle_600, zle_100000000, ylt_0, ylt_1, ylt_2, ylt_3, ylt_6, ylt_9, ylt_20, ylt_24, ylt_57, ylt_60, ylt_99, ylt_120, ylt_122, ylt_999, ylt_9999, yle_0, yle_2, yle_4, yle_5, yle_6, yle_7, yle_8, yle_10, yle_12, yle_13, yle_15, yle_16, yle_20, yle_24, yle_40, yle_60, yle_64, yle_80, yadd_1, yadd_22, ymul_2, ymul_4, ymul_6, ymul_8, ymul_10, ymul_24, ymul_27, ymul_100, ysub_1, ysub_24, zdiv_2, zdiv_4, zdiv_24, k1, g69, g56, g79, q2, c, c3, n2, l0]
            exact ih _ _ ⟨_, _, _, _, rfl, h6, h5, rfl⟩
        · simp (disch := first | omega | rfl | decide) only [e_X7_couldBe_0, e_X7_couldBe_13, e_X7_couldBe_215, e_X7_couldBe_197, e_X7_couldBe_61, e_X7_couldBe_69, e_X7_couldBe_84, e_X7_couldBe_127, e_X7_couldBe_175, e_X7_couldBe_195, xr_v, xr_n, hl_of, hl_cl, hl_toInt, hl_le, hl_lt, hl_eq, nI_add, hl_sub, pk_mul, hl_div, if_pos, if_neg, ↓reduceIte, Nat.reduceAdd, Nat.reduceSub, Nat.reduceMul, Nat.add_zero, Nat.zero_add, mp_s, mp_k, mp_i, mp_g, mr_s, mr_i, mr_g, zlt_0, zlt_1, zlt_2, zlt_3, zlt_4, zlt_5, zlt_6, zlt_8, zlt_12, zlt_15, zlt_20, zlt_24, zlt_36, zlt_40, zlt_48, zlt_80, zlt_97, zlt_120, zlt_256, zlt_600, zlt_99999999, zadd_1, zadd_2, zadd_5, zadd_6, zadd_8, zadd_20, zadd_24, zeq_0, zeq_1, zeq_2, zeq_3, zeq_4, zeq_5, zeq_6, zeq_7, zeq_8, zeq_13, zeq_14, zeq_20, zeq_32, zeq_59, zeq_60, zeq_80, zmul_2, zmul_4, zmul_6, zmul_8, zmul_10, zmul_24, zsub_1, zsub_2, zsub_10, zsub_48, zsub_97, zle_0, zle_1, zle_2, zle_6, zle_11, zle_200, zle_600, zle_100000000, ylt_0, ylt_1, ylt_2, ylt_3, ylt_6, ylt_9, ylt_20, ylt_24, ylt_57, ylt_60, ylt_99, ylt_120, ylt_122, ylt_999, ylt_9999, yle_0, yle_2, yle_4, yle_5, yle_6, yle_7, yle_8, yle_10, yle_12, yle_13, yle_15, yle_16, yle_20, yle_24, yle_40, yle_60, yle_64, yle_80, yadd_1, yadd_22, ymul_2, ymul_4, ymul_6, ymul_8, ymul_10, ymul_24, ymul_27, ymul_100, ysub_1, ysub_24, zdiv_2, zdiv_4, zdiv_24, k1, g69, g56, g79, q2, c, c3, n2, l0]
          rw [bad (hs1.trans (by rw [decide_eq_false c, decide_eq_false c2, decide_eq_true c3]; rfl))]
          rfl
      · obtain ⟨q, hq, hqe⟩ := tOK_neg (htk j (by omega)) c2 c3
        have cn : ¬ tm j < 0 := by rw [hqe]; exact nn_n q (by omega)
        by_cases c : R (vN V 7 j) < needF (V 8) (V 9) j h
        · simp (disch := first | omega | rfl | decide) only [e_X7_couldBe_0, e_X7_couldBe_13, e_X7_couldBe_215, e_X7_couldBe_197, e_X7_couldBe_61, e_X7_couldBe_69, e_X7_couldBe_84, e_X7_couldBe_127, e_X7_couldBe_175, e_X7_couldBe_195, xr_v, xr_n, hl_of, hl_cl, hl_toInt, hl_le, hl_lt, hl_eq, nI_add, hl_sub, pk_mul, hl_div, if_pos, if_neg, ↓reduceIte, Nat.reduceAdd, Nat.reduceSub, Nat.reduceMul, Nat.add_zero, Nat.zero_add, mp_s, mp_k, mp_i, mp_g, mr_s, mr_i, mr_g, zlt_0, zlt_1, zlt_2, zlt_3, zlt_4, zlt_5, zlt_6, zlt_8, zlt_12, zlt_15, zlt_20, zlt_24, zlt_36, zlt_40, zlt_48, zlt_80, zlt_97, zlt_120, zlt_256, zlt_600, zlt_99999999, zadd_1, zadd_2, zadd_5, zadd_6, zadd_8, zadd_20, zadd_24, zeq_0, zeq_1, zeq_2, zeq_3, zeq_4, zeq_5, zeq_6, zeq_7, zeq_8, zeq_13, zeq_14, zeq_20, zeq_32, zeq_59, zeq_60, zeq_80, zmul_2, zmul_4, zmul_6, zmul_8, zmul_10, zmul_24, zsub_1, zsub_2, zsub_10, zsub_48, zsub_97, zle_0, zle_1, zle_2, zle_6, zle_11, zle_200, zle_600, zle_100000000, ylt_0, ylt_1, ylt_2, ylt_3, ylt_6, ylt_9, ylt_20, ylt_24, ylt_57, ylt_60, ylt_99, ylt_120, ylt_122, ylt_999, ylt_9999, yle_0, yle_2, yle_4, yle_5, yle_6, yle_7, yle_8, yle_10, yle_12, yle_13, yle_15, yle_16, yle_20, yle_24, yle_40, yle_60, yle_64, yle_80, yadd_1, yadd_22, ymul_2, ymul_4, ymul_6, ymul_8, ymul_10, ymul_24, ymul_27, ymul_100, ysub_1, ysub_24, zdiv_2, zdiv_4, zdiv_24, k1, g69, g56, g79, q2, c, c2, c3, cn]
          rw [bad (hs1.trans (by rw [decide_eq_true c, decide_eq_false c2, decide_eq_false c3]; rfl))]
          rfl
        · have h5 : hatB R V h tm (j + 1) = true := hs1.trans (by rw [decide_eq_false c, decide_eq_false c3]; exact Bool.or_true _)
          have hbd := snt_b (V := V) (tm := tm) hx v5 vc2 hv hq hqe
          have h6 := tsM_s hd9 hC cn hbd
          have key : ∀ k' w, w = nI (dist x (vN V 7 j)) → BK L xs (EX L xs (d + 1)) mi_X7_couldBe (RN L xs (d) mi_X7_couldBe fu) (k' + 60) 127 [some (.inr (.inr (40, 0))), some (.inl (nI x)), some (.inl (nI v)), some (.inl (nI dd)), some (.inl (nI h)), some (.inl (lw)), some (.inl (hg)), some (.inl (nI j)), u8, u9] [.inl (w)] M O none 0 0 = (some (.inl (some (.inl (b2i (trB (tsF V tm x v nh) dd && hatB R V h tm nh)))), M, O, 0, 0) : Res) := by
            intro k' w hw
            have hsn : tm j - nI v * w = snt V tm x v j := by rw [hw]; rfl
            rw [e_X7_couldBe_127, if_pos (in_8 (by omega)), if_pos (in_8 (by omega)), hl_cl (by omega), g69, if_neg c3, hsn]
            by_cases d1 : snt V tm x v j - nI dd ≤ lw
            · rw [if_pos d1] at h6 ⊢
              rw [e_X7_couldBe_175]
              by_cases d2 : hg ≤ snt V tm x v j + nI dd
              · rw [if_pos d2] at h6 ⊢
                rw [e_X7_couldBe_195, e_X7_couldBe_197, zadd_1]
                exact ih _ _ ⟨_, _, _, _, rfl, h6, h5, rfl⟩
              · rw [if_neg d2] at h6 ⊢
                rw [e_X7_couldBe_195, e_X7_couldBe_197, zadd_1]
                exact ih _ _ ⟨_, _, _, _, rfl, h6, h5, rfl⟩
            · rw [if_neg d1] at h6 ⊢
              rw [e_X7_couldBe_175]
              by_cases d2 : hg ≤ snt V tm x v j + nI dd
              · rw [if_pos d2] at h6 ⊢
                rw [e_X7_couldBe_195, e_X7_couldBe_197, zadd_1]
                exact ih _ _ ⟨_, _, _, _, rfl, h6, h5, rfl⟩
              · rw [if_neg d2] at h6 ⊢
                rw [e_X7_couldBe_195, e_X7_couldBe_197, zadd_1]
                exact ih _ _ ⟨_, _, _, _, rfl, h6, h5, rfl⟩
          by_cases c4 : vN V 7 j ≤ x
          · simp (disch := first | omega | rfl | decide) only [e_X7_couldBe_0, e_X7_couldBe_13, e_X7_couldBe_215, e_X7_couldBe_197, e_X7_couldBe_61, e_X7_couldBe_69, e_X7_couldBe_84, e_X7_couldBe_175, e_X7_couldBe_195, xr_v, xr_n, hl_of, hl_cl, hl_toInt, hl_le, hl_lt, hl_eq, nI_add, hl_sub, pk_mul, hl_div, if_pos, if_neg, ↓reduceIte, Nat.reduceAdd, Nat.reduceSub, Nat.reduceMul, Nat.add_zero, Nat.zero_add, mp_s, mp_k, mp_i, mp_g, mr_s, mr_i, mr_g, zlt_0, zlt_1, zlt_2, zlt_3, zlt_4, zlt_5, zlt_6, zlt_8, zlt_12, zlt_15, zlt_20, zlt_24, zlt_36, zlt_40, zlt_48, zlt_80, zlt_97, zlt_120, zlt_256, zlt_600, zlt_99999999, zadd_1, zadd_2, zadd_5, zadd_6, zadd_8, zadd_20, zadd_24, zeq_0, zeq_1, zeq_2, zeq_3, zeq_4, zeq_5, zeq_6, zeq_7, zeq_8, zeq_13, zeq_14, zeq_20, zeq_32, zeq_59, zeq_60, zeq_80, zmul_2, zmul_4, zmul_6, zmul_8, zmul_10, zmul_24, zsub_1, zsub_2, zsub_10, zsub_48, zsub_97, zle_0, zle_1, zle_2, zle_6, zle_11, zle_200, zle_600, zle_100000000, ylt_0, ylt_1, ylt_2, ylt_3, ylt_6, ylt_9, ylt_20, ylt_24, ylt_57, ylt_60, ylt_99, ylt_120, ylt_122, ylt_999, ylt_9999, yle_0, yle_2, yle_4, yle_5, yle_6, yle_7, yle_8, yle_10, yle_12, yle_13, yle_15, yle_16, yle_20, yle_24, yle_40, yle_60, yle_64, yle_80, yadd_1, yadd_22, ymul_2, ymul_4, ymul_6, ymul_8, ymul_10, ymul_24, ymul_27, ymul_100, ysub_1, ysub_24, zdiv_2, zdiv_4, zdiv_24, k1, g69, g56, g79, q2, c, c2, cn]
            exact key _ _ (by congr 1; unfold dist; split <;> omega)
          · simp (disch := first | omega | rfl | decide) only [e_X7_couldBe_0, e_X7_couldBe_13, e_X7_couldBe_215, e_X7_couldBe_197, e_X7_couldBe_61, e_X7_couldBe_69, e_X7_couldBe_84, e_X7_couldBe_175, e_X7_couldBe_195, xr_v, xr_n, hl_of, hl_cl, hl_toInt, hl_le, hl_lt, hl_eq, nI_add, hl_sub, pk_mul, hl_div, if_pos, if_neg, ↓reduceIte, Nat.reduceAdd, Nat.reduceSub, Nat.reduceMul, Nat.add_zero, Nat.zero_add, mp_s, mp_k, mp_i, mp_g, mr_s, mr_i, mr_g, zlt_0, zlt_1, zlt_2, zlt_3, zlt_4, zlt_5, zlt_6, zlt_8, zlt_12, zlt_15, zlt_20, zlt_24, zlt_36, zlt_40, zlt_48, zlt_80, zlt_97, zlt_120, zlt_256, zlt_600, zlt_99999999, zadd_1, zadd_2, zadd_5, zadd_6, zadd_8, zadd_20, zadd_24, zeq_0, zeq_1, zeq_2, zeq_3, zeq_4, zeq_5, zeq_6, zeq_7, zeq_8, zeq_13, zeq_14, zeq_20, zeq_32, zeq_59, zeq_60, zeq_80, zmul_2, zmul_4, zmul_6, zmul_8, zmul_10, zmul_24, zsub_1, zsub_2, zsub_10, zsub_48, zsub_97, zle_0, zle_1, zle_2, zle_6, zle_11, zle_200, zle_600, zle_100000000, ylt_0, ylt_1, ylt_2, ylt_3, ylt_6, ylt_9, ylt_20, ylt_24, ylt_57, ylt_60, ylt_99, ylt_120, ylt_122, ylt_999, ylt_9999, yle_0, yle_2, yle_4, yle_5, yle_6, yle_7, yle_8, yle_10, yle_12, yle_13, yle_15, yle_16, yle_20, yle_24, yle_40, yle_60, yle_64, yle_80, yadd_1, yadd_22, ymul_2, ymul_4, ymul_6, ymul_8, ymul_10, ymul_24, ymul_27, ymul_100, ysub_1, ysub_24, zdiv_2, zdiv_4, zdiv_24, k1, g69, g56, g79, q2, c, c2, cn]
            exact key _ _ (by congr 1; unfold dist; split <;> omega)
  · rintro fu k _ M' ⟨lw, hg, u8, u9, rfl, hC, hb, e⟩
    rw [e, e_X7_couldBe_13, k1, if_pos (by rw [hl_le (by omega) (by omega)]; omega), hb, Bool.and_true]
    cases hz : tsF V tm x v nh with
    | none =>
      rw [hz] at hC
      obtain ⟨h1, h2⟩ := hC
      rw [h1, h2, if_neg (by decide), e_X7_couldBe_215, if_pos (Or.inr rfl)]
      rfl
    | some p =>
      obtain ⟨lo, hi⟩ := p
      rw [hz] at hC
      obtain ⟨h1, h2, h4, h5, h6, h7⟩ := hC
      by_cases c : hi - lo ≤ 2 * (dd : Int)
      · rw [if_neg (by rw [i_lt]; omega), e_X7_couldBe_215, if_pos (Or.inr rfl), show trB (some (lo, hi)) dd = true from decide_eq_true c]
        rfl
      · rw [if_pos (by rw [i_lt]; omega), e_X7_couldBe_215, if_pos (Or.inl rfl), show trB (some (lo, hi)) dd = false from decide_eq_false c]
        rfl
theorem m_bang {D : Nat} (hD : 11 ≤ D) (a h l v dd : Nat) (tm : Nat → Int32) (ha : a < na) (hh : h < 24) (hl0 : 1 ≤ l) (hl : l ≤ 120) (hv0 : 1 ≤ v) (hv : v ≤ 9) (hd9 : dd ≤ 99) (htk : ∀ k, k < 8 → tOK (tm k)) (M : Mem) (hB : MB M T f As n nh ns nw na nd) (ht : ∀ k, k < 8 → M 69 0 k = tm k) : isL (EX L xs (D) q_X7_bang [.inr (.inr (40, 0)), .inl (nI a), .inl (nI h), .inl (nI l), .inl (nI v), .inl (nI dd)] M O) O (bangF (perfL T f nd) (As a) n nh h l v dd tm) (MP M) := by
  obtain ⟨d, rfl⟩ : ∃ d, D = d + 2 := ⟨D - 2, by omega⟩
  refine isL_e (EX_in mi_X7_bang rfl rfl rfl (ls := [some (.inr (.inr (40, 0))), some (.inl (nI a)), some (.inl (nI h)), some (.inl (nI l)), some (.inl (nI v)), some (.inl (nI dd)), none, none, none]) rfl) ?_
  obtain ⟨M1, e1, fr1, hB1, t1⟩ := m_start hB
  have v4 : 8 ≤ n := hB1.1.2.2.2.2.1
  have v5 : n ≤ 40 := hB1.1.2.2.2.2.2.1
  have v6 : nh ≤ 8 := hB1.1.2.2.2.2.2.2.1
  have v7 : ns ≤ 6 := hB1.1.2.2.2.2.2.2.2.1
  have v8 : nw ≤ 8 := hB1.1.2.2.2.2.2.2.2.2.1
  have h6 : na ≤ 6 := hB1.2.2.2.2.2.1
  have z0 := hB1.2.1.1
  have z1 := hB1.2.1.2.1
  have z2 := hB1.2.1.2.2.1
  have z3 := hB1.2.1.2.2.2.1
  have z26 := hB1.2.2.2.2.1
  have b0 := fun w q => x7_bad_0 L xs O (D := d + 1) (by omega) w q M1 t1
  obtain ⟨M2, ql, h2⟩ := x7_laidR L xs O (D := d + 1) (by omega) hB fr1 hB1 t1
  have p1 := x7_isAir_i L xs O (D := d + 1) (by omega) (by omega) a M1 z26 ha
  have p2 := x7_isHour_i L xs O (D := d + 1) (by omega) h M1 hh
  have p3 := x7_r_in L xs O (D := d + 1) (by omega) (nI l) 1 120 M1 (by rw [zlt_1 (by omega)]; omega) (by rw [ylt_120 (by omega)]; omega)
  have p4 := x7_r_in L xs O (D := d + 1) (by omega) (nI v) 1 9 M1 (by rw [zlt_1 (by omega)]; omega) (by rw [ylt_9 (by omega)]; omega)
  have p5 := x7_r_in L xs O (D := d + 1) (by omega) (nI dd) 0 99 M1 (nn_n dd (by omega)) (by rw [ylt_99 (by omega)]; omega)
  simp (disch := first | omega | rfl | decide) only [e_X7_bang_0, e_X7_bang_11, e_X7_bang_19, e_X7_bang_24, e_X7_bang_32, e_X7_bang_80, e_X7_bang_67, e_X7_bang_42, e_X7_bang_72, e_X7_bang_53, e_X7_bang_77, e_X7_bang_64, e_X7_bang_86, e_X7_bang_113, e_X7_bang_126, e_X7_bang_137, xr_v, xr_n, hl_of, hl_cl, hl_toInt, hl_le, hl_lt, hl_eq, nI_add, hl_sub, pk_mul, hl_div, if_pos, if_neg, ↓reduceIte, Nat.reduceAdd, Nat.reduceSub, Nat.reduceMul, Nat.add_zero, Nat.zero_add, mp_s, mp_k, mp_i, mp_g, mr_s, mr_i, mr_g, zlt_0, zlt_1, zlt_2, zlt_3, zlt_4, zlt_5, zlt_6, zlt_8, zlt_12, zlt_15, zlt_20, zlt_24, zlt_36, zlt_40, zlt_48, zlt_80, zlt_97, zlt_120, zlt_256, zlt_600, zlt_99999999, zadd_1, zadd_2, zadd_5, zadd_6, zadd_8, zadd_20, zadd_24, zeq_0, zeq_1, zeq_2, zeq_3, zeq_4, zeq_5, zeq_6, zeq_7, zeq_8, zeq_13, zeq_14, zeq_20, zeq_32, zeq_59, zeq_60, zeq_80, zmul_2, zmul_4, zmul_6, zmul_8, zmul_10, zmul_24, zsub_1, zsub_2, zsub_10, zsub_48, zsub_97, zle_0, zle_1, zle_2, zle_6, zle_11, zle_200, zle_600, zle_100000000, ylt_0, ylt_1, ylt_2, ylt_3, ylt_6, ylt_9, ylt_20, ylt_24, ylt_57, ylt_60, ylt_99, ylt_120, ylt_122, ylt_999, ylt_9999, yle_0, yle_2, yle_4, yle_5, yle_6, yle_7, yle_8, yle_10, yle_12, yle_13, yle_15, yle_16, yle_20, yle_24, yle_40, yle_60, yle_64, yle_80, yadd_1, yadd_22, ymul_2, ymul_4, ymul_6, ymul_8, ymul_10, ymul_24, ymul_27, ymul_100, ysub_1, ysub_24, zdiv_2, zdiv_4, zdiv_24, e1, p1, p2, p3, p4, p5, b0, ql]
  refine loopA L xs O (P := fun r => isL r O _ (MP M)) (fun j ls M' => ∃ w, w = bitsL (fun x => trB (tsF (perfL T f nd) tm x v nh) dd && hatB (loudF (perfL T f nd) (As a) n x 1 (nI l) 1) (perfL T f nd) h tm nh) j ∧ ls = [some (.inr (.inr (40, 0))), some (.inl (nI a)), some (.inl (nI h)), some (.inl (nI l)), some (.inl (nI v)), some (.inl (nI dd)), some (.inr (.inl (w))), none, some (.inl (nI j))] ∧ MR T f As n nh ns nw na nd M M') n 100 (by omega) ?_ ?_ (Nat.le_of_lt (FU (by omega))) ⟨_, rfl, rfl, h2⟩
  · rintro fu k j _ M' hj ⟨_, rfl, rfl, h3⟩ ih
    have k0 := h3.2.1.2.1.1
    obtain ⟨M3, q3, h4, l4⟩ := x7_soundsR L xs O (D := d + 1) (by omega) a j 1 (nI l) 1 ha hj M' h3
    have q4 := x7_couldBe L xs O (D := d + 1) (by omega) j v dd h tm _ hj hv hd9 hh M3 h4 (fun k hk => (h4.1 69 0 k rfl).trans (ht k hk)) htk l4
    cases c : (trB (tsF (perfL T f nd) tm j v nh) dd && hatB (loudF (perfL T f nd) (As a) n j 1 (nI l) 1) (perfL T f nd) h tm nh) with
    | false =>
      rw [c, b2i_f] at q4
      simp (disch := first | omega | rfl | decide) only [e_X7_bang_0, e_X7_bang_11, e_X7_bang_19, e_X7_bang_24, e_X7_bang_32, e_X7_bang_80, e_X7_bang_67, e_X7_bang_42, e_X7_bang_72, e_X7_bang_53, e_X7_bang_77, e_X7_bang_64, e_X7_bang_86, e_X7_bang_92, e_X7_bang_113, e_X7_bang_126, e_X7_bang_137, xr_v, xr_n, hl_of, hl_cl, hl_toInt, hl_le, hl_lt, hl_eq, nI_add, hl_sub, pk_mul, hl_div, if_pos, if_neg, ↓reduceIte, Nat.reduceAdd, Nat.reduceSub, Nat.reduceMul, Nat.add_zero, Nat.zero_add, mp_s, mp_k, mp_i, mp_g, mr_s, mr_i, mr_g, zlt_0, zlt_1, zlt_2, zlt_3, zlt_4, zlt_5, zlt_6, zlt_8, zlt_12, zlt_15, zlt_20, zlt_24, zlt_36, zlt_40, zlt_48, zlt_80, zlt_97, zlt_120, zlt_256, zlt_600, zlt_99999999, zadd_1, zadd_2, zadd_5, zadd_6, zadd_8, zadd_20, zadd_24, zeq_0, zeq_1, zeq_2, zeq_3, zeq_4, zeq_5, zeq_6, zeq_7, zeq_8, zeq_13, zeq_14, zeq_20, zeq_32, zeq_59, zeq_60, zeq_80, zmul_2, zmul_4, zmul_6, zmul_8, zmul_10, zmul_24, zsub_1, zsub_2, zsub_10, zsub_48, zsub_97, zle_0, zle_1, zle_2, zle_6, zle_11, zle_200, zle_600, zle_100000000, ylt_0, ylt_1, ylt_2, ylt_3, ylt_6, ylt_9, ylt_20, ylt_24, ylt_57, ylt_60, ylt_99, ylt_120, ylt_122, ylt_999, ylt_9999, yle_0, yle_2, yle_4, yle_5, yle_6, yle_7, yle_8, yle_10, yle_12, yle_13, yle_15, yle_16, yle_20, yle_24, yle_40, yle_60, yle_64, yle_80, yadd_1, yadd_22, ymul_2, ymul_4, ymul_6, ymul_8, ymul_10, ymul_24, ymul_27, ymul_100, ysub_1, ysub_24, zdiv_2, zdiv_4, zdiv_24, k0, q3, q4]
      refine ih _ _ ⟨_, ?_, rfl, h4⟩
      rw [show Int64.ofNat 0 = (0 : Int64) from rfl, Int64.or_zero]
      exact bitsL_f c
    | true =>
      rw [c, b2i_t] at q4
      simp (disch := first | omega | rfl | decide) only [e_X7_bang_0, e_X7_bang_11, e_X7_bang_19, e_X7_bang_24, e_X7_bang_32, e_X7_bang_80, e_X7_bang_67, e_X7_bang_42, e_X7_bang_72, e_X7_bang_53, e_X7_bang_77, e_X7_bang_64, e_X7_bang_86, e_X7_bang_92, e_X7_bang_113, e_X7_bang_126, e_X7_bang_137, xr_v, xr_n, hl_of, hl_cl, hl_toInt, hl_le, hl_lt, hl_eq, nI_add, hl_sub, pk_mul, hl_div, if_pos, if_neg, ↓reduceIte, Nat.reduceAdd, Nat.reduceSub, Nat.reduceMul, Nat.add_zero, Nat.zero_add, mp_s, mp_k, mp_i, mp_g, mr_s, mr_i, mr_g, zlt_0, zlt_1, zlt_2, zlt_3, zlt_4, zlt_5, zlt_6, zlt_8, zlt_12, zlt_15, zlt_20, zlt_24, zlt_36, zlt_40, zlt_48, zlt_80, zlt_97, zlt_120, zlt_256, zlt_600, zlt_99999999, zadd_1, zadd_2, zadd_5, zadd_6, zadd_8, zadd_20, zadd_24, zeq_0, zeq_1, zeq_2, zeq_3, zeq_4, zeq_5, zeq_6, zeq_7, zeq_8, zeq_13, zeq_14, zeq_20, zeq_32, zeq_59, zeq_60, zeq_80, zmul_2, zmul_4, zmul_6, zmul_8, zmul_10, zmul_24, zsub_1, zsub_2, zsub_10, zsub_48, zsub_97, zle_0, zle_1, zle_2, zle_6, zle_11, zle_200, zle_600, zle_100000000, ylt_0, ylt_1, ylt_2, ylt_3, ylt_6, ylt_9, ylt_20, ylt_24, ylt_57, ylt_60, ylt_99, ylt_120, ylt_122, ylt_999, ylt_9999, yle_0, yle_2, yle_4, yle_5, yle_6, yle_7, yle_8, yle_10, yle_12, yle_13, yle_15, yle_16, yle_20, yle_24, yle_40, yle_60, yle_64, yle_80, yadd_1, yadd_22, ymul_2, ymul_4, ymul_6, ymul_8, ymul_10, ymul_24, ymul_27, ymul_100, ysub_1, ysub_24, zdiv_2, zdiv_4, zdiv_24, k0, q3, q4]
      exact ih _ _ ⟨_, bitsL_t c, rfl, h4⟩
  · rintro fu k _ M' ⟨_, rfl, rfl, h3⟩
    have k0 := h3.2.1.2.1.1
    simp (disch := first | omega | rfl | decide) only [e_X7_bang_0, e_X7_bang_11, e_X7_bang_19, e_X7_bang_24, e_X7_bang_32, e_X7_bang_80, e_X7_bang_67, e_X7_bang_42, e_X7_bang_72, e_X7_bang_53, e_X7_bang_77, e_X7_bang_64, e_X7_bang_86, e_X7_bang_92, e_X7_bang_113, e_X7_bang_126, e_X7_bang_137, xr_v, xr_n, hl_of, hl_cl, hl_toInt, hl_le, hl_lt, hl_eq, nI_add, hl_sub, pk_mul, hl_div, if_pos, if_neg, ↓reduceIte, Nat.reduceAdd, Nat.reduceSub, Nat.reduceMul, Nat.add_zero, Nat.zero_add, mp_s, mp_k, mp_i, mp_g, mr_s, mr_i, mr_g, zlt_0, zlt_1, zlt_2, zlt_3, zlt_4, zlt_5, zlt_6, zlt_8, zlt_12, zlt_15, zlt_20, zlt_24, zlt_36, zlt_40, zlt_48, zlt_80, zlt_97, zlt_120, zlt_256, zlt_600, zlt_99999999, zadd_1, zadd_2, zadd_5, zadd_6, zadd_8, zadd_20, zadd_24, zeq_0, zeq_1, zeq_2, zeq_3, zeq_4, zeq_5, zeq_6, zeq_7, zeq_8, zeq_13, zeq_14, zeq_20, zeq_32, zeq_59, zeq_60, zeq_80, zmul_2, zmul_4, zmul_6, zmul_8, zmul_10, zmul_24, zsub_1, zsub_2, zsub_10, zsub_48, zsub_97, zle_0, zle_1, zle_2, zle_6, zle_11, zle_200, zle_600, zle_100000000, ylt_0, ylt_1, ylt_2, ylt_3, ylt_6, ylt_9, ylt_20, ylt_24, ylt_57, ylt_60, ylt_99, ylt_120, ylt_122, ylt_999, ylt_9999, yle_0, yle_2, yle_4, yle_5, yle_6, yle_7, yle_8, yle_10, yle_12, yle_13, yle_15, yle_16, yle_20, yle_24, yle_40, yle_60, yle_64, yle_80, yadd_1, yadd_22, ymul_2, ymul_4, ymul_6, ymul_8, ymul_10, ymul_24, ymul_27, ymul_100, ysub_1, ysub_24, zdiv_2, zdiv_4, zdiv_24, k0]
    exact isL_i (MR_P h3)
end
