/-! Small questions. -/
section
variable (L : Nat) (xs : Nat → Int32) (O : Int64)
theorem c_cell {M0 : Mem} {V : Vw} {As : Nat → Nat → Int32} {n nh ns nw na : Nat} {D : Nat} (hD : 9 ≤ D) (x w : Nat) (hx : x < n) (hw : w < 3) (M : Mem) (hM : CQ M0 V As n nh ns nw na M) : isI (EX L xs (D) q_X6_cell [.inr (.inr (0, 0)), .inl (nI x), .inl (nI w)] M O) O (if w = 0 then V 4 x else if w = 1 then V 5 x else V 6 x) (CQ M0 V As n nh ns nw na) := by
  have hV := hM.2.1
  have v5 : n ≤ 40 := hV.2.2.2.2.2.1
  have v6 : nh ≤ 8 := hV.2.2.2.2.2.2.1
  have v7 : ns ≤ 6 := hV.2.2.2.2.2.2.2.1
  have v8 : nw ≤ 8 := hV.2.2.2.2.2.2.2.2.1
  have h6 : na ≤ 6 := hM.2.2.2.2.1
  have g0 := (hM.2.2.1 3 0 rfl).trans hV.1
  have g4 := (hM.2.2.1 3 4 rfl).trans hV.2.1
  have g8 := (hM.2.2.1 3 8 rfl).trans hV.2.2.1
  have g13 := (hM.2.2.1 3 13 rfl).trans hV.2.2.2.1
  have g6 := hM.2.2.2.1
  obtain ⟨d, rfl⟩ : ∃ d, D = d + 2 := ⟨D - 2, by omega⟩
  refine isI_e (EX_in mi_X6_cell rfl rfl rfl (ls := [some (.inr (.inr (0, 0))), some (.inl (nI x)), some (.inl (nI w))]) rfl) ?_
  have q1 := x6_needCell_in L xs O (D := d + 1) (by omega) v5 x M g0 hx
  have q2 := x6_w3_in L xs O (D := d + 1) (by omega) w M hw
  have hx40 : x < 40 := by omega
  rw [e_X6_cell_0, q1]
  simp only [xr_n, Nat.reduceAdd, Nat.add_zero]
  rw [e_X6_cell_5, q2]
  simp only [xr_n, Nat.reduceAdd, Nat.add_zero]
  rw [e_X6_cell_11]
  obtain rfl | rfl | rfl : w = 0 ∨ w = 1 ∨ w = 2 := by omega
  · rw [show nI 0 = (0 : Int32) from rfl, e_X6_cell_12_c0, e_X6_cell_40, if_pos (in_40 hx40), hl_cl (by omega), hM.2.2.1 4 x (decide_eq_true hx40)]
    exact isI_i hM
  · rw [show nI 1 = (1 : Int32) from rfl, e_X6_cell_12_c1, e_X6_cell_50, if_pos (in_40 hx40), hl_cl (by omega), hM.2.2.1 5 x (decide_eq_true hx40)]
    exact isI_i hM
  · rw [show nI 2 = (2 : Int32) from rfl, e_X6_cell_12_d _ _ _ _ _ _ _ _ _ _ _ _ 2 (by decide), e_X6_cell_60, if_pos (in_40 hx40), hl_cl (by omega), hM.2.2.1 6 x (decide_eq_true hx40)]
    exact isI_i hM
def tldF (n nh ns nw na w : Nat) : Nat := if w = 0 then n else if w = 1 then nh else if w = 2 then ns else if w = 3 then nw else na
theorem c_told {M0 : Mem} {V : Vw} {As : Nat → Nat → Int32} {n nh ns nw na : Nat} {D : Nat} (hD : 9 ≤ D) (w : Nat) (hw : w < 5) (M : Mem) (hM : CQ M0 V As n nh ns nw na M) : isI (EX L xs (D) q_X6_told [.inr (.inr (0, 0)), .inl (nI w)] M O) O (nI (tldF n nh ns nw na w)) (CQ M0 V As n nh ns nw na) := by
  have hV := hM.2.1
  have v5 : n ≤ 40 := hV.2.2.2.2.2.1
  have v6 : nh ≤ 8 := hV.2.2.2.2.2.2.1
  have v7 : ns ≤ 6 := hV.2.2.2.2.2.2.2.1
  have v8 : nw ≤ 8 := hV.2.2.2.2.2.2.2.2.1
  have h6 : na ≤ 6 := hM.2.2.2.2.1
  have g0 := (hM.2.2.1 3 0 rfl).trans hV.1
  have g4 := (hM.2.2.1 3 4 rfl).trans hV.2.1
  have g8 := (hM.2.2.1 3 8 rfl).trans hV.2.2.1
  have g13 := (hM.2.2.1 3 13 rfl).trans hV.2.2.2.1
  have g6 := hM.2.2.2.1
  obtain ⟨d, rfl⟩ : ∃ d, D = d + 2 := ⟨D - 2, by omega⟩
  refine isI_e (EX_in mi_X6_told rfl rfl rfl (ls := [some (.inr (.inr (0, 0))), some (.inl (nI w))]) rfl) ?_
  have q2 := x6_w5_in L xs O (D := d + 1) (by omega) w M hw
  rw [e_X6_told_0, q2]
  simp only [xr_n, Nat.reduceAdd, Nat.add_zero]
  rw [e_X6_told_6]
  obtain rfl | rfl | rfl | rfl | rfl : w = 0 ∨ w = 1 ∨ w = 2 ∨ w = 3 ∨ w = 4 := by omega
  · rw [show nI 0 = (0 : Int32) from rfl, e_X6_told_7_c0, e_X6_told_36, g0]
    exact isI_i hM
  · rw [show nI 1 = (1 : Int32) from rfl, e_X6_told_7_c1, e_X6_told_44, g4]
    exact isI_i hM
  · rw [show nI 2 = (2 : Int32) from rfl, e_X6_told_7_c2, e_X6_told_52, g8]
    exact isI_i hM
  · rw [show nI 3 = (3 : Int32) from rfl, e_X6_told_7_c3, e_X6_told_60, g13]
    exact isI_i hM
  · rw [show nI 4 = (4 : Int32) from rfl, e_X6_told_7_d _ _ _ _ _ _ _ _ _ _ _ 4 (by decide), e_X6_told_68, g6]
    exact isI_i hM
theorem c_hum {M0 : Mem} {V : Vw} {As : Nat → Nat → Int32} {n nh ns nw na : Nat} {D : Nat} (hD : 9 ≤ D) (h : Nat) (hh : h < 24) (M : Mem) (hM : CQ M0 V As n nh ns nw na M) : isI (EX L xs (D) q_X6_hum [.inr (.inr (0, 0)), .inl (nI h)] M O) O (humF (V 9) h 24) (CQ M0 V As n nh ns nw na) := by
  obtain ⟨d, rfl⟩ : ∃ d, D = d + 2 := ⟨D - 2, by omega⟩
  refine isI_e (EX_in mi_X6_hum rfl rfl rfl (ls := [some (.inr (.inr (0, 0))), some (.inl (nI h))]) rfl) ?_
  have q1 := x6_needHour_in L xs O (D := d + 1) (by omega) h M hh
  have q2 := x1_humOf L xs O (D := d + 1) (by omega) 2 h hh M
  rw [humF_congr (fun i hi => hM.2.2.1 9 i (decide_eq_true hi))] at q2
  simp (disch := first | omega | rfl | decide) only [e_X6_hum_0, e_X6_hum_5, e_X6_hum_13, xr_v, xr_n, hl_of, hl_cl, hl_toInt, hl_le, hl_lt, hl_eq, nI_add, hl_sub, pk_mul, hl_div, if_pos, if_neg, ↓reduceIte, Nat.reduceAdd, Nat.reduceSub, Nat.reduceMul, Nat.add_zero, Nat.zero_add, mp_s, mp_k, mp_i, mp_g, mr_s, mr_i, mr_g, zlt_0, zlt_1, zlt_2, zlt_3, zlt_4, zlt_5, zlt_6, zlt_8, zlt_12, zlt_15, zlt_20, zlt_24, zlt_36, zlt_40, zlt_48, zlt_80, zlt_97, zlt_120, zlt_256, zlt_600, zlt_99999999, zadd_1, zadd_2, zadd_5, zadd_6, zadd_8, zadd_20, zadd_24, zeq_0, zeq_1, zeq_2, zeq_3, zeq_4, zeq_5, zeq_6, zeq_7, zeq_8, zeq_13, zeq_14, zeq_20, zeq_32, zeq_59, zeq_60, zeq_80, zmul_2, zmul_4, zmul_6, zmul_8, zmul_10, zmul_24, zsub_1, zsub_2, zsub_10, zsub_48, zsub_97, zle_0, zle_1, zle_2, zle_6, zle_11, zle_200, zle_600, zle_100000000, ylt_0, ylt_1, ylt_2, ylt_3, ylt_6, ylt_9, ylt_20, ylt_24, ylt_57, ylt_60, ylt_99, ylt_120, ylt_122, ylt_999, ylt_9999, yle_0, yle_2, yle_4, yle_5, yle_6, yle_7, yle_8, yle_10, yle_12, yle_13, yle_15, yle_16, yle_20, yle_24, yle_40, yle_60, yle_64, yle_80, yadd_1, yadd_22, ymul_2, ymul_4, ymul_6, ymul_8, ymul_10, ymul_24, ymul_27, ymul_100, ysub_1, ysub_24, zdiv_2, zdiv_4, zdiv_24, q1, q2]
  exact isI_i hM
theorem c_ear {M0 : Mem} {V : Vw} {As : Nat → Nat → Int32} {n nh ns nw na : Nat} {D : Nat} (hD : 9 ≤ D) (k0 : Nat) (hk : k0 < nh) (M : Mem) (hM : CQ M0 V As n nh ns nw na M) : isI (EX L xs (D) q_X6_ear [.inr (.inr (0, 0)), .inl (nI k0)] M O) O (V 8 k0) (CQ M0 V As n nh ns nw na) := by
  have hV := hM.2.1
  have v5 : n ≤ 40 := hV.2.2.2.2.2.1
  have v6 : nh ≤ 8 := hV.2.2.2.2.2.2.1
  have v7 : ns ≤ 6 := hV.2.2.2.2.2.2.2.1
  have v8 : nw ≤ 8 := hV.2.2.2.2.2.2.2.2.1
  have h6 : na ≤ 6 := hM.2.2.2.2.1
  have g0 := (hM.2.2.1 3 0 rfl).trans hV.1
  have g4 := (hM.2.2.1 3 4 rfl).trans hV.2.1
  have g8 := (hM.2.2.1 3 8 rfl).trans hV.2.2.1
  have g13 := (hM.2.2.1 3 13 rfl).trans hV.2.2.2.1
  have g6 := hM.2.2.2.1
  obtain ⟨d, rfl⟩ : ∃ d, D = d + 2 := ⟨D - 2, by omega⟩
  refine isI_e (EX_in mi_X6_ear rfl rfl rfl (ls := [some (.inr (.inr (0, 0))), some (.inl (nI k0))]) rfl) ?_
  have q1 := x6_needHouse_in L xs O (D := d + 1) (by omega) (by omega) k0 M g4 hk
  have g8' := hM.2.2.1 8 k0 (decide_eq_true (show k0 < 8 by omega))
  simp (disch := first | omega | rfl | decide) only [e_X6_ear_0, e_X6_ear_5, xr_v, xr_n, hl_of, hl_cl, hl_toInt, hl_le, hl_lt, hl_eq, nI_add, hl_sub, pk_mul, hl_div, if_pos, if_neg, ↓reduceIte, Nat.reduceAdd, Nat.reduceSub, Nat.reduceMul, Nat.add_zero, Nat.zero_add, mp_s, mp_k, mp_i, mp_g, mr_s, mr_i, mr_g, zlt_0, zlt_1, zlt_2, zlt_3, zlt_4, zlt_5, zlt_6, zlt_8, zlt_12, zlt_15, zlt_20, zlt_24, zlt_36, zlt_40, zlt_48, zlt_80, zlt_97, zlt_120, zlt_256, zlt_600, zlt_99999999, zadd_1, zadd_2, zadd_5, zadd_6, zadd_8, zadd_20, zadd_24, zeq_0, zeq_1, zeq_2, zeq_3, zeq_4, zeq_5, zeq_6, zeq_7, zeq_8, zeq_13, zeq_14, zeq_20, zeq_32, zeq_59, zeq_60, zeq_80, zmul_2, zmul_4, zmul_6, zmul_8, zmul_10, zmul_24, zsub_1, zsub_2, zsub_10, zsub_48, zsub_97, zle_0, zle_1, zle_2, zle_6, zle_11, zle_200, zle_600, zle_100000000, ylt_0, ylt_1, ylt_2, ylt_3, ylt_6, ylt_9, ylt_20, ylt_24, ylt_57, ylt_60, ylt_99, ylt_120, ylt_122, ylt_999, ylt_9999, yle_0, yle_2, yle_4, yle_5, yle_6, yle_7, yle_8, yle_10, yle_12, yle_13, yle_15, yle_16, yle_20, yle_24, yle_40, yle_60, yle_64, yle_80, yadd_1, yadd_22, ymul_2, ymul_4, ymul_6, ymul_8, ymul_10, ymul_24, ymul_27, ymul_100, ysub_1, ysub_24, zdiv_2, zdiv_4, zdiv_24, q1, g8']
  exact isI_i hM
end
section
variable (L : Nat) (xs : Nat → Int32) (O : Int64) {T : Vw} {f : Nat → Nat} {As : Nat → Nat → Int32} {n nh ns nw na nd : Nat}
theorem m_cell {D : Nat} (hD : 11 ≤ D) (x w : Nat) (hx : x < n) (hw : w < 3) (M : Mem) (hB : MB M T f As n nh ns nw na nd) : isI (EX L xs (D) q_X7_cell [.inr (.inr (40, 0)), .inl (nI x), .inl (nI w)] M O) O (if w = 0 then (perfL T f nd) 4 x else if w = 1 then (perfL T f nd) 5 x else (perfL T f nd) 6 x) (MP M) := by
  obtain ⟨d, rfl⟩ : ∃ d, D = d + 2 := ⟨D - 2, by omega⟩
  refine isI_e (EX_in mi_X7_cell rfl rfl rfl (ls := [some (.inr (.inr (40, 0))), some (.inl (nI x)), some (.inl (nI w))]) rfl) ?_
  obtain ⟨M1, e1, fr1, hB1, t1⟩ := m_start hB
  have v4 : 8 ≤ n := hB1.1.2.2.2.2.1
  have v5 : n ≤ 40 := hB1.1.2.2.2.2.2.1
  have v6 : nh ≤ 8 := hB1.1.2.2.2.2.2.2.1
  have v7 : ns ≤ 6 := hB1.1.2.2.2.2.2.2.2.1
  have v8 : nw ≤ 8 := hB1.1.2.2.2.2.2.2.2.2.1
  have h6 : na ≤ 6 := hB1.2.2.2.2.2.1
  have z0 := hB1.2.1.1
  have z1 := hB1.2.1.2.1
  have z2 := hB1.2.1.2.2.1
  have z3 := hB1.2.1.2.2.2.1
  have z26 := hB1.2.2.2.2.1
  have b0 := fun w q => x7_bad_0 L xs O (D := d + 1) (by omega) w q M1 t1
  obtain ⟨M2, ql, h2⟩ := x7_laidR L xs O (D := d + 1) (by omega) hB fr1 hB1 t1
  have p1 := x7_isCell_i L xs O (D := d + 1) (by omega) (by omega) x M1 z0 hx
  have p2 := x7_i3_in L xs O (D := d + 1) (by omega) w M1 hw
  have g73 := (h2.2.1.2.2.1.1 x hx).1
  have g74 := (h2.2.1.2.2.1.1 x hx).2
  have g50 := h2.2.1.2.1.2.2.2.2.1 x hx
  by_cases c0 : w = 0
  · rw [if_pos c0]
    simp (disch := first | omega | rfl | decide) only [e_X7_cell_0, e_X7_cell_11, e_X7_cell_19, e_X7_cell_24, e_X7_cell_34, e_X7_cell_50, e_X7_cell_42, e_X7_cell_47, e_X7_cell_56, e_X7_cell_89, xr_v, xr_n, hl_of, hl_cl, hl_toInt, hl_le, hl_lt, hl_eq, nI_add, hl_sub, pk_mul, hl_div, if_pos, if_neg, ↓reduceIte, Nat.reduceAdd, Nat.reduceSub, Nat.reduceMul, Nat.add_zero, Nat.zero_add, mp_s, mp_k, mp_i, mp_g, mr_s, mr_i, mr_g, zlt_0, zlt_1, zlt_2, zlt_3, zlt_4, zlt_5, zlt_6, zlt_8, zlt_12, zlt_15, zlt_20, zlt_24, zlt_36, zlt_40, zlt_48, zlt_80, zlt_97, zlt_120, zlt_256, zlt_600, zlt_99999999, zadd_1, zadd_2, zadd_5, zadd_6, zadd_8, zadd_20, zadd_24, zeq_0, zeq_1, zeq_2, zeq_3, zeq_4, zeq_5, zeq_6, zeq_7, zeq_8, zeq_13, zeq_14, zeq_20, zeq_32, zeq_59, zeq_60, zeq_80, zmul_2, zmul_4, zmul_6, zmul_8, zmul_10, zmul_24, zsub_1, zsub_2, zsub_10, zsub_48, zsub_97, zle_0, zle_1, zle_2, zle_6, zle_11, zle_200, zle_600, zle_100000000, ylt_0, ylt_1, ylt_2, ylt_3, ylt_6, ylt_9, ylt_20, ylt_24, ylt_57, ylt_60, ylt_99, ylt_120, ylt_122, ylt_999, ylt_9999, yle_0, yle_2, yle_4, yle_5, yle_6, yle_7, yle_8, yle_10, yle_12, yle_13, yle_15, yle_16, yle_20, yle_24, yle_40, yle_60, yle_64, yle_80, yadd_1, yadd_22, ymul_2, ymul_4, ymul_6, ymul_8, ymul_10, ymul_24, ymul_27, ymul_100, ysub_1, ysub_24, zdiv_2, zdiv_4, zdiv_24, e1, p1, p2, b0, ql, g73]
    exact isI_i (MR_P h2)
  · rw [if_neg c0]
    by_cases c1 : w = 1
    · rw [if_pos c1]
      simp (disch := first | omega | rfl | decide) only [e_X7_cell_0, e_X7_cell_11, e_X7_cell_19, e_X7_cell_24, e_X7_cell_34, e_X7_cell_50, e_X7_cell_42, e_X7_cell_47, e_X7_cell_56, e_X7_cell_89, xr_v, xr_n, hl_of, hl_cl, hl_toInt, hl_le, hl_lt, hl_eq, nI_add, hl_sub, pk_mul, hl_div, if_pos, if_neg, ↓reduceIte, Nat.reduceAdd, Nat.reduceSub, Nat.reduceMul, Nat.add_zero, Nat.zero_add, mp_s, mp_k, mp_i, mp_g, mr_s, mr_i, mr_g, zlt_0, zlt_1, zlt_2, zlt_3, zlt_4, zlt_5, zlt_6, zlt_8, zlt_12, zlt_15, zlt_20, zlt_24, zlt_36, zlt_40, zlt_48, zlt_80, zlt_97, zlt_120, zlt_256, zlt_600, zlt_99999999, zadd_1, zadd_2, zadd_5, zadd_6, zadd_8, zadd_20, zadd_24, zeq_0, zeq_1, zeq_2, zeq_3, zeq_4, zeq_5, zeq_6, zeq_7, zeq_8, zeq_13, zeq_14, zeq_20, zeq_32, zeq_59, zeq_60, zeq_80, zmul_2, zmul_4, zmul_6, zmul_8, zmul_10, zmul_24, zsub_1, zsub_2, zsub_10, zsub_48, zsub_97, zle_0, zle_1, zle_2, zle_6, zle_11, zle_200, zle_600, zle_100000000, ylt_0, ylt_1, ylt_2, ylt_3, ylt_6, ylt_9, ylt_20, ylt_24, ylt_57, ylt_60, ylt_99, ylt_120, ylt_122, ylt_999, ylt_9999, yle_0, yle_2, yle_4, yle_5, yle_6, yle_7, yle_8, yle_10, yle_12, yle_13, yle_15, yle_16, yle_20, yle_24, yle_40, yle_60, yle_64, yle_80, yadd_1, yadd_22, ymul_2, ymul_4, ymul_6, ymul_8, ymul_10, ymul_24, ymul_27, ymul_100, ysub_1, ysub_24, zdiv_2, zdiv_4, zdiv_24, e1, p1, p2, b0, ql, g50]
      exact isI_i (MR_P h2)
    · rw [if_neg c1]
      simp (disch := first | omega | rfl | decide) only [e_X7_cell_0, e_X7_cell_11, e_X7_cell_19, e_X7_cell_24, e_X7_cell_34, e_X7_cell_50, e_X7_cell_42, e_X7_cell_47, e_X7_cell_56, e_X7_cell_89, xr_v, xr_n, hl_of, hl_cl, hl_toInt, hl_le, hl_lt, hl_eq, nI_add, hl_sub, pk_mul, hl_div, if_pos, if_neg, ↓reduceIte, Nat.reduceAdd, Nat.reduceSub, Nat.reduceMul, Nat.add_zero, Nat.zero_add, mp_s, mp_k, mp_i, mp_g, mr_s, mr_i, mr_g, zlt_0, zlt_1, zlt_2, zlt_3, zlt_4, zlt_5, zlt_6, zlt_8, zlt_12, zlt_15, zlt_20, zlt_24, zlt_36, zlt_40, zlt_48, zlt_80, zlt_97, zlt_120, zlt_256, zlt_600, zlt_99999999, zadd_1, zadd_2, zadd_5, zadd_6, zadd_8, zadd_20, zadd_24, zeq_0, zeq_1, zeq_2, zeq_3, zeq_4, zeq_5, zeq_6, zeq_7, zeq_8, zeq_13, zeq_14, zeq_20, zeq_32, zeq_59, zeq_60, zeq_80, zmul_2, zmul_4, zmul_6, zmul_8, zmul_10, zmul_24, zsub_1, zsub_2, zsub_10, zsub_48, zsub_97, zle_0, zle_1, zle_2, zle_6, zle_11, zle_200, zle_600, zle_100000000, ylt_0, ylt_1, ylt_2, ylt_3, ylt_6, ylt_9, ylt_20, ylt_24, ylt_57, ylt_60, ylt_99, ylt_120, ylt_122, ylt_999, ylt_9999, yle_0, yle_2, yle_4, yle_5, yle_6, yle_7, yle_8, yle_10, yle_12, yle_13, yle_15, yle_16, yle_20, yle_24, yle_40, yle_60, yle_64, yle_80, yadd_1, yadd_22, ymul_2, ymul_4, ymul_6, ymul_8, ymul_10, ymul_24, ymul_27, ymul_100, ysub_1, ysub_24, zdiv_2, zdiv_4, zdiv_24, e1, p1, p2, b0, ql, g74]
      exact isI_i (MR_P h2)
theorem m_told {D : Nat} (hD : 11 ≤ D) (w : Nat) (hw : w < 5) (M : Mem) (hB : MB M T f As n nh ns nw na nd) : isI (EX L xs (D) q_X7_told [.inr (.inr (40, 0)), .inl (nI w)] M O) O (nI (tldF n nh ns nw na w)) (MP M) := by
  obtain ⟨d, rfl⟩ : ∃ d, D = d + 2 := ⟨D - 2, by omega⟩
  refine isI_e (EX_in mi_X7_told rfl rfl rfl (ls := [some (.inr (.inr (40, 0))), some (.inl (nI w))]) rfl) ?_
  obtain ⟨M1, e1, fr1, hB1, t1⟩ := m_start hB
  have v4 : 8 ≤ n := hB1.1.2.2.2.2.1
  have v5 : n ≤ 40 := hB1.1.2.2.2.2.2.1
  have v6 : nh ≤ 8 := hB1.1.2.2.2.2.2.2.1
  have v7 : ns ≤ 6 := hB1.1.2.2.2.2.2.2.2.1
  have v8 : nw ≤ 8 := hB1.1.2.2.2.2.2.2.2.2.1
  have h6 : na ≤ 6 := hB1.2.2.2.2.2.1
  have z0 := hB1.2.1.1
  have z1 := hB1.2.1.2.1
  have z2 := hB1.2.1.2.2.1
  have z3 := hB1.2.1.2.2.2.1
  have z26 := hB1.2.2.2.2.1
  have b0 := fun w q => x7_bad_0 L xs O (D := d + 1) (by omega) w q M1 t1
  have p2 := x7_i5_in L xs O (D := d + 1) (by omega) w M1 hw
  have h4 : ¬ (0 : Int32) = 4 := by decide
  rw [e_X7_told_0, e1, p2]
  simp only [xr_v, Nat.reduceAdd, Nat.add_zero]
  rw [e_X7_told_12, if_neg (by decide), e_X7_told_20, b0]
  simp only [xr_v, Nat.reduceAdd, Nat.add_zero]
  rw [e_X7_told_25, if_pos rfl]
  obtain rfl | rfl | rfl | rfl | rfl : w = 0 ∨ w = 1 ∨ w = 2 ∨ w = 3 ∨ w = 4 := by omega
  · rw [if_neg (by decide), if_pos (by decide), e_X7_told_48, show (nI 0).toNatClampNeg = 0 from hl_cl (by omega), z0]
    exact isI_i ⟨fr1, t1⟩
  · rw [if_neg (by decide), if_pos (by decide), e_X7_told_48, show (nI 1).toNatClampNeg = 1 from hl_cl (by omega), z1]
    exact isI_i ⟨fr1, t1⟩
  · rw [if_neg (by decide), if_pos (by decide), e_X7_told_48, show (nI 2).toNatClampNeg = 2 from hl_cl (by omega), z2]
    exact isI_i ⟨fr1, t1⟩
  · rw [if_neg (by decide), if_pos (by decide), e_X7_told_48, show (nI 3).toNatClampNeg = 3 from hl_cl (by omega), z3]
    exact isI_i ⟨fr1, t1⟩
  · rw [if_pos (by decide), e_X7_told_48, z26]
    exact isI_i ⟨fr1, t1⟩
theorem perfL_g {T : Vw} {f : Nat → Nat} {g k : Nat} (h4 : g ≠ 4) (h6 : g ≠ 6) (h8 : g ≠ 8) (h11 : g ≠ 11) : ∀ nd, perfL T f nd g k = T g k := by
  intro nd
  induction nd with
  | zero => rfl
  | succ nd ih =>
    show perfV (perfL T f nd) (f nd) g k = T g k
    rw [perf_g h4 h6 h8 h11, ih]
theorem m_hum {D : Nat} (hD : 11 ≤ D) (h : Nat) (hh : h < 24) (M : Mem) (hB : MB M T f As n nh ns nw na nd) : isI (EX L xs (D) q_X7_hum [.inr (.inr (40, 0)), .inl (nI h)] M O) O (humF ((perfL T f nd) 9) h 24) (MP M) := by
  obtain ⟨d, rfl⟩ : ∃ d, D = d + 2 := ⟨D - 2, by omega⟩
  refine isI_e (EX_in mi_X7_hum rfl rfl rfl (ls := [some (.inr (.inr (40, 0))), some (.inl (nI h))]) rfl) ?_
  obtain ⟨M1, e1, fr1, hB1, t1⟩ := m_start hB
  have v4 : 8 ≤ n := hB1.1.2.2.2.2.1
  have v5 : n ≤ 40 := hB1.1.2.2.2.2.2.1
  have v6 : nh ≤ 8 := hB1.1.2.2.2.2.2.2.1
  have v7 : ns ≤ 6 := hB1.1.2.2.2.2.2.2.2.1
  have v8 : nw ≤ 8 := hB1.1.2.2.2.2.2.2.2.2.1
  have h6 : na ≤ 6 := hB1.2.2.2.2.2.1
  have z0 := hB1.2.1.1
  have z1 := hB1.2.1.2.1
  have z2 := hB1.2.1.2.2.1
  have z3 := hB1.2.1.2.2.2.1
  have z26 := hB1.2.2.2.2.1
  have b0 := fun w q => x7_bad_0 L xs O (D := d + 1) (by omega) w q M1 t1
  have p2 := x7_isHour_i L xs O (D := d + 1) (by omega) h M1 hh
  have q2 := x7_humOf L xs O (D := d + 1) (by omega) h hh M1
  rw [humF_congr (fun i hi => (hB1.2.1.2.2.2.2.2.2.1 i hi).trans (perfL_g (by omega) (by omega) (by omega) (by omega) nd).symm)] at q2
  simp (disch := first | omega | rfl | decide) only [e_X7_hum_0, e_X7_hum_10, e_X7_hum_18, e_X7_hum_23, e_X7_hum_33, xr_v, xr_n, hl_of, hl_cl, hl_toInt, hl_le, hl_lt, hl_eq, nI_add, hl_sub, pk_mul, hl_div, if_pos, if_neg, ↓reduceIte, Nat.reduceAdd, Nat.reduceSub, Nat.reduceMul, Nat.add_zero, Nat.zero_add, mp_s, mp_k, mp_i, mp_g, mr_s, mr_i, mr_g, zlt_0, zlt_1, zlt_2, zlt_3, zlt_4, zlt_5, zlt_6, zlt_8, zlt_12, zlt_15, zlt_20, zlt_24, zlt_36, zlt_40, zlt_48, zlt_80, zlt_97, zlt_120, zlt_256, zlt_600, zlt_99999999, zadd_1, zadd_2, zadd_5, zadd_6, zadd_8, zadd_20, zadd_24, zeq_0, zeq_1, zeq_2, zeq_3, zeq_4, zeq_5, zeq_6, zeq_7, zeq_8, zeq_13, zeq_14, zeq_20, zeq_32, zeq_59, zeq_60, zeq_80, zmul_2, zmul_4, zmul_6, zmul_8, zmul_10, zmul_24, zsub_1, zsub_2, zsub_10, zsub_48, zsub_97, zle_0, zle_1, zle_2, zle_6, zle_11, zle_200, zle_600, zle_100000000, ylt_0, ylt_1, ylt_2, ylt_3, ylt_6, ylt_9, ylt_20, ylt_24, ylt_57, ylt_60, ylt_99, ylt_120, ylt_122, ylt_999, ylt_9999, yle_0, yle_2, yle_4, yle_5, yle_6, yle_7, yle_8, yle_10, yle_12, yle_13, yle_15, yle_16, yle_20, yle_24, yle_40, yle_60, yle_64, yle_80, yadd_1, yadd_22, ymul_2, ymul_4, ymul_6, ymul_8, ymul_10, ymul_24, ymul_27, ymul_100, ysub_1, ysub_24, zdiv_2, zdiv_4, zdiv_24, e1, p2, b0, q2]
  exact isI_i ⟨fr1, t1⟩
theorem m_ear {D : Nat} (hD : 11 ≤ D) (k0 : Nat) (hk : k0 < nh) (M : Mem) (hB : MB M T f As n nh ns nw na nd) : isI (EX L xs (D) q_X7_ear [.inr (.inr (40, 0)), .inl (nI k0)] M O) O ((perfL T f nd) 8 k0) (MP M) := by
  obtain ⟨d, rfl⟩ : ∃ d, D = d + 2 := ⟨D - 2, by omega⟩
  refine isI_e (EX_in mi_X7_ear rfl rfl rfl (ls := [some (.inr (.inr (40, 0))), some (.inl (nI k0))]) rfl) ?_
  obtain ⟨M1, e1, fr1, hB1, t1⟩ := m_start hB
  have v4 : 8 ≤ n := hB1.1.2.2.2.2.1
  have v5 : n ≤ 40 := hB1.1.2.2.2.2.2.1
  have v6 : nh ≤ 8 := hB1.1.2.2.2.2.2.2.1
  have v7 : ns ≤ 6 := hB1.1.2.2.2.2.2.2.2.1
  have v8 : nw ≤ 8 := hB1.1.2.2.2.2.2.2.2.2.1
  have h6 : na ≤ 6 := hB1.2.2.2.2.2.1
  have z0 := hB1.2.1.1
  have z1 := hB1.2.1.2.1
  have z2 := hB1.2.1.2.2.1
  have z3 := hB1.2.1.2.2.2.1
  have z26 := hB1.2.2.2.2.1
  have b0 := fun w q => x7_bad_0 L xs O (D := d + 1) (by omega) w q M1 t1
  obtain ⟨M2, ql, h2⟩ := x7_laidR L xs O (D := d + 1) (by omega) hB fr1 hB1 t1
  have p1 := x7_isHouse_i L xs O (D := d + 1) (by omega) (by omega) k0 M1 z1 hk
  have g75 := h2.2.1.2.2.1.2.1 k0 hk
  simp (disch := first | omega | rfl | decide) only [e_X7_ear_0, e_X7_ear_11, e_X7_ear_19, e_X7_ear_24, e_X7_ear_33, xr_v, xr_n, hl_of, hl_cl, hl_toInt, hl_le, hl_lt, hl_eq, nI_add, hl_sub, pk_mul, hl_div, if_pos, if_neg, ↓reduceIte, Nat.reduceAdd, Nat.reduceSub, Nat.reduceMul, Nat.add_zero, Nat.zero_add, mp_s, mp_k, mp_i, mp_g, mr_s, mr_i, mr_g, zlt_0, zlt_1, zlt_2, zlt_3, zlt_4, zlt_5, zlt_6, zlt_8, zlt_12, zlt_15, zlt_20, zlt_24, zlt_36, zlt_40, zlt_48, zlt_80, zlt_97, zlt_120, zlt_256, zlt_600, zlt_99999999, zadd_1, zadd_2, zadd_5, zadd_6, zadd_8, zadd_20, zadd_24, zeq_0, zeq_1, zeq_2, zeq_3, zeq_4, zeq_5, zeq_6, zeq_7, zeq_8, zeq_13, zeq_14, zeq_20, zeq_32, zeq_59, zeq_60, zeq_80, zmul_2, zmul_4, zmul_6, zmul_8, zmul_10, zmul_24, zsub_1, zsub_2, zsub_10, zsub_48, zsub_97, zle_0, zle_1, zle_2, zle_6, zle_11, zle_200, zle_600, zle_100000000, ylt_0, ylt_1, ylt_2, ylt_3, ylt_6, ylt_9, ylt_20, ylt_24, ylt_57, ylt_60, ylt_99, ylt_120, ylt_122, ylt_999, ylt_9999, yle_0, yle_2, yle_4, yle_5, yle_6, yle_7, yle_8, yle_10, yle_12, yle_13, yle_15, yle_16, yle_20, yle_24, yle_40, yle_60, yle_64, yle_80, yadd_1, yadd_22, ymul_2, ymul_4, ymul_6, ymul_8, ymul_10, ymul_24, ymul_27, ymul_100, ysub_1, ysub_24, zdiv_2, zdiv_4, zdiv_24, e1, p1, b0, ql, g75]
  exact isI_i (MR_P h2)
end
