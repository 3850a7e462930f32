/-! Questions: one call on both sides (printed by wip/gen/gen10.py). -/
section
variable (L : Nat) (xs : Nat → Int32) (O : Int64)
theorem s_zones {d : Nat} (hD : 11 ≤ d) (a1 a2 a3 : Int32) (M : Mem) (hI : INV M) : Stq L xs O (d + 1 + 1 + 1) q_L_zones q_X7_zones [.inl a1, .inl a2, .inl a3] M := by
  obtain ⟨T, As, n, nh, ns, nw, na, md, ia, ni, nt, mds, hC⟩ := hI
  have hM : CQ M (perfL T md.1 md.2.1) As n nh ns nw na M := ⟨Fr_refl, hC.2.1⟩
  have hV := hM.2.1
  have v5 : n ≤ 40 := hV.2.2.2.2.2.1
  have v6 : nh ≤ 8 := hV.2.2.2.2.2.2.1
  have v7 : ns ≤ 6 := hV.2.2.2.2.2.2.2.1
  have v8 : nw ≤ 8 := hV.2.2.2.2.2.2.2.2.1
  have h6 : na ≤ 6 := hM.2.2.2.2.1
  have g0 := (hM.2.2.1 3 0 rfl).trans hV.1
  have g4 := (hM.2.2.1 3 4 rfl).trans hV.2.1
  have g8 := (hM.2.2.1 3 8 rfl).trans hV.2.2.1
  have g13 := (hM.2.2.1 3 13 rfl).trans hV.2.2.2.1
  have g6 := hM.2.2.2.1
  have hp2 := pow_le8 (show ns ≤ 8 by omega)
  have s1 := shl1 ns (by omega)
  by_cases c1 : inN a1 na
  · obtain ⟨j1, hj1, rfl⟩ := c1
    by_cases c2 : inN a2 ns
    · obtain ⟨j2, hj2, rfl⟩ := c2
      by_cases c3 : inN a3 2
      · obtain ⟨j3, hj3, rfl⟩ := c3
        exact stp_q L xs O hC (c_zones L xs O (D := d + 1 + 1) (by omega) j1 j2 j3 hj1 hj2 hj3 M hM) (fun M1 h => w_zones_v L xs O (nI j1) (nI j2) (nI j3) _ M M1 h) (fun M1 O1 hB => m_zones L xs O1 (D := d + 1 + 1 + 1) (by omega) j1 j2 j3 hj1 hj2 hj3 M1 hB)
      · refine stp_r L xs O hC 2 2 (by omega) (by omega) (w_zones_2 L xs O (nI j1) (nI j2) (a3) M _ ?_) (b := .inl 0) ?_
        · refine (EX_in mi_X6_zones rfl rfl rfl (ls := [some (.inr (.inr (0, 0))), some (.inl (nI j1)), some (.inl (nI j2)), some (.inl (a3)), none, none, none, none, none]) rfl).trans ?_
          have q0 := x6_needAir_in L xs O (D := d + 1) (by omega) (by omega) j1 M g6 hj1
          have q1 := x6_needSource_in L xs O (D := d + 1) (by omega) (by omega) j2 M g8 hj2
          have q2 := x6_w2_out L xs O (D := d + 1) (by omega) a3 M c3
          simp (disch := first | omega | rfl | decide) only [e_X6_zones_0, e_X6_zones_5, e_X6_zones_10, e_X6_zones_16, e_X6_zones_22, e_X6_zones_30, e_X6_zones_44, e_X6_zones_46, e_X6_zones_96, e_X6_zones_77, e_X6_zones_79, xr_v, xr_n, hl_of, hl_cl, hl_toInt, hl_le, hl_lt, hl_eq, nI_add, hl_sub, pk_mul, hl_div, if_pos, if_neg, ↓reduceIte, Nat.reduceAdd, Nat.reduceSub, Nat.reduceMul, Nat.add_zero, Nat.zero_add, mp_s, mp_k, mp_i, mp_g, mr_s, mr_i, mr_g, zlt_0, zlt_1, zlt_2, zlt_3, zlt_4, zlt_5, zlt_6, zlt_8, zlt_12, zlt_15, zlt_20, zlt_24, zlt_36, zlt_40, zlt_48, zlt_80, zlt_97, zlt_120, zlt_256, zlt_600, zlt_99999999, zadd_1, zadd_2, zadd_5, zadd_6, zadd_8, zadd_20, zadd_24, zeq_0, zeq_1, zeq_2, zeq_3, zeq_4, zeq_5, zeq_6, zeq_7, zeq_8, zeq_13, zeq_14, zeq_20, zeq_32, zeq_59, zeq_60, zeq_80, zmul_2, zmul_4, zmul_6, zmul_8, zmul_10, zmul_24, zsub_1, zsub_2, zsub_10, zsub_48, zsub_97, zle_0, zle_1, zle_2, zle_6, zle_11, zle_200, zle_600, zle_100000000, ylt_0, ylt_1, ylt_2, ylt_3, ylt_6, ylt_9, ylt_20, ylt_24, ylt_57, ylt_60, ylt_99, ylt_120, ylt_122, ylt_999, ylt_9999, yle_0, yle_2, yle_4, yle_5, yle_6, yle_7, yle_8, yle_10, yle_12, yle_13, yle_15, yle_16, yle_20, yle_24, yle_40, yle_60, yle_64, yle_80, yadd_1, yadd_22, ymul_2, ymul_4, ymul_6, ymul_8, ymul_10, ymul_24, ymul_27, ymul_100, ysub_1, ysub_24, zdiv_2, zdiv_4, zdiv_24, q0, q1, q2, g4, g8, g13, xr_t]
        · obtain ⟨M1, e1, fr1, hB1, t1⟩ := m_start (MB_ref hC.1 2)
          have z0 := hB1.2.1.1
          have z1 := hB1.2.1.2.1
          have z2 := hB1.2.1.2.2.1
          have z3 := hB1.2.1.2.2.2.1
          have z26 := hB1.2.2.2.2.1
          refine (EX_in mi_X7_zones rfl rfl rfl (ls := [some (.inr (.inr (40, 0))), some (.inl (nI j1)), some (.inl (nI j2)), some (.inl (a3)), none, none, none, none, none, none]) rfl).trans ?_
          have b0 := fun w q => x7_bad_0 L xs O (D := d + 1 + 1) (by omega) w q M1 t1
          have b1 : EX L xs (d + 1 + 1) q_X7_bad [.inr (.inr (40, 0)), .inl (1), .inl (2), .inl (2)] M1 O = (some (.inl (some (.inl (1))), refM M1 (nI 2) 2, O, 0, 0) : Res) := x7_bad_1 L xs O (by omega) 2 2 (by omega) (by decide) M1 t1
          have p0 := x7_isAir_i L xs O (D := d + 1 + 1) (by omega) (by omega) j1 M1 z26 hj1
          have p1 := x7_isSource_i L xs O (D := d + 1 + 1) (by omega) (by omega) j2 M1 z2 hj2
          have p2 := x7_i2_out L xs O (D := d + 1 + 1) (by omega) a3 M1 c3
          simp (disch := first | omega | rfl | decide) only [e_X7_zones_0, e_X7_zones_11, e_X7_zones_22, e_X7_zones_19, e_X7_zones_27, e_X7_zones_32, e_X7_zones_42, e_X7_zones_58, e_X7_zones_50, e_X7_zones_55, e_X7_zones_64, e_X7_zones_70, e_X7_zones_97, e_X7_zones_163, e_X7_zones_153, e_X7_zones_135, e_X7_zones_225, e_X7_zones_208, e_X7_zones_203, e_X7_zones_151, xr_v, xr_n, hl_of, hl_cl, hl_toInt, hl_le, hl_lt, hl_eq, nI_add, hl_sub, pk_mul, hl_div, if_pos, if_neg, ↓reduceIte, Nat.reduceAdd, Nat.reduceSub, Nat.reduceMul, Nat.add_zero, Nat.zero_add, mp_s, mp_k, mp_i, mp_g, mr_s, mr_i, mr_g, zlt_0, zlt_1, zlt_2, zlt_3, zlt_4, zlt_5, zlt_6, zlt_8, zlt_12, zlt_15, zlt_20, zlt_24, zlt_36, zlt_40, zlt_48, zlt_80, zlt_97, zlt_120, zlt_256, zlt_600, zlt_99999999, zadd_1, zadd_2, zadd_5, zadd_6, zadd_8, zadd_20, zadd_24, zeq_0, zeq_1, zeq_2, zeq_3, zeq_4, zeq_5, zeq_6, zeq_7, zeq_8, zeq_13, zeq_14, zeq_20, zeq_32, zeq_59, zeq_60, zeq_80, zmul_2, zmul_4, zmul_6, zmul_8, zmul_10, zmul_24, zsub_1, zsub_2, zsub_10, zsub_48, zsub_97, zle_0, zle_1, zle_2, zle_6, zle_11, zle_200, zle_600, zle_100000000, ylt_0, ylt_1, ylt_2, ylt_3, ylt_6, ylt_9, ylt_20, ylt_24, ylt_57, ylt_60, ylt_99, ylt_120, ylt_122, ylt_999, ylt_9999, yle_0, yle_2, yle_4, yle_5, yle_6, yle_7, yle_8, yle_10, yle_12, yle_13, yle_15, yle_16, yle_20, yle_24, yle_40, yle_60, yle_64, yle_80, yadd_1, yadd_22, ymul_2, ymul_4, ymul_6, ymul_8, ymul_10, ymul_24, ymul_27, ymul_100, ysub_1, ysub_24, zdiv_2, zdiv_4, zdiv_24, e1, b0, b1, p0, p1, p2, z2, z3, s1]
    · refine stp_r L xs O hC 1 1 (by omega) (by omega) (w_zones_1 L xs O (nI j1) (a2) (a3) M _ ?_) (b := .inl 0) ?_
      · refine (EX_in mi_X6_zones rfl rfl rfl (ls := [some (.inr (.inr (0, 0))), some (.inl (nI j1)), some (.inl (a2)), some (.inl (a3)), none, none, none, none, none]) rfl).trans ?_
        have q0 := x6_needAir_in L xs O (D := d + 1) (by omega) (by omega) j1 M g6 hj1
        have q1 := x6_needSource_out L xs O (D := d + 1) (by omega) (by omega) a2 M g8 c2
        simp (disch := first | omega | rfl | decide) only [e_X6_zones_0, e_X6_zones_5, e_X6_zones_10, e_X6_zones_16, e_X6_zones_22, e_X6_zones_30, e_X6_zones_44, e_X6_zones_46, e_X6_zones_96, e_X6_zones_77, e_X6_zones_79, xr_v, xr_n, hl_of, hl_cl, hl_toInt, hl_le, hl_lt, hl_eq, nI_add, hl_sub, pk_mul, hl_div, if_pos, if_neg, ↓reduceIte, Nat.reduceAdd, Nat.reduceSub, Nat.reduceMul, Nat.add_zero, Nat.zero_add, mp_s, mp_k, mp_i, mp_g, mr_s, mr_i, mr_g, zlt_0, zlt_1, zlt_2, zlt_3, zlt_4, zlt_5, zlt_6, zlt_8, zlt_12, zlt_15, zlt_20, zlt_24, zlt_36, zlt_40, zlt_48, zlt_80, zlt_97, zlt_120, zlt_256, zlt_600, zlt_99999999, zadd_1, zadd_2, zadd_5, zadd_6, zadd_8, zadd_20, zadd_24, zeq_0, zeq_1, zeq_2, zeq_3, zeq_4, zeq_5, zeq_6, zeq_7, zeq_8, zeq_13, zeq_14, zeq_20, zeq_32, zeq_59, zeq_60, zeq_80, zmul_2, zmul_4, zmul_6, zmul_8, zmul_10, zmul_24, zsub_1, zsub_2, zsub_10, zsub_48, zsub_97, zle_0, zle_1, zle_2, zle_6, zle_11, zle_200, zle_600, zle_100000000, ylt_0, ylt_1, ylt_2, ylt_3, ylt_6, ylt_9, ylt_20, ylt_24, ylt_57, ylt_60, ylt_99, ylt_120, ylt_122, ylt_999, ylt_9999, yle_0, yle_2, yle_4, yle_5, yle_6, yle_7, yle_8, yle_10, yle_12, yle_13, yle_15, yle_16, yle_20, yle_24, yle_40, yle_60, yle_64, yle_80, yadd_1, yadd_22, ymul_2, ymul_4, ymul_6, ymul_8, ymul_10, ymul_24, ymul_27, ymul_100, ysub_1, ysub_24, zdiv_2, zdiv_4, zdiv_24, q0, q1, g4, g8, g13, xr_t]
      · obtain ⟨M1, e1, fr1, hB1, t1⟩ := m_start (MB_ref hC.1 1)
        have z0 := hB1.2.1.1
        have z1 := hB1.2.1.2.1
        have z2 := hB1.2.1.2.2.1
        have z3 := hB1.2.1.2.2.2.1
        have z26 := hB1.2.2.2.2.1
        refine (EX_in mi_X7_zones rfl rfl rfl (ls := [some (.inr (.inr (40, 0))), some (.inl (nI j1)), some (.inl (a2)), some (.inl (a3)), none, none, none, none, none, none]) rfl).trans ?_
        have b0 := fun w q => x7_bad_0 L xs O (D := d + 1 + 1) (by omega) w q M1 t1
        have b1 : EX L xs (d + 1 + 1) q_X7_bad [.inr (.inr (40, 0)), .inl (1), .inl (1), .inl (1)] M1 O = (some (.inl (some (.inl (1))), refM M1 (nI 1) 1, O, 0, 0) : Res) := x7_bad_1 L xs O (by omega) 1 1 (by omega) (by decide) M1 t1
        have p0 := x7_isAir_i L xs O (D := d + 1 + 1) (by omega) (by omega) j1 M1 z26 hj1
        have p1 := x7_isSource_o L xs O (D := d + 1 + 1) (by omega) (by omega) a2 M1 z2 c2
        simp (disch := first | omega | rfl | decide) only [e_X7_zones_0, e_X7_zones_11, e_X7_zones_22, e_X7_zones_19, e_X7_zones_27, e_X7_zones_32, e_X7_zones_42, e_X7_zones_58, e_X7_zones_50, e_X7_zones_55, e_X7_zones_64, e_X7_zones_70, e_X7_zones_97, e_X7_zones_163, e_X7_zones_153, e_X7_zones_135, e_X7_zones_225, e_X7_zones_208, e_X7_zones_203, e_X7_zones_151, xr_v, xr_n, hl_of, hl_cl, hl_toInt, hl_le, hl_lt, hl_eq, nI_add, hl_sub, pk_mul, hl_div, if_pos, if_neg, ↓reduceIte, Nat.reduceAdd, Nat.reduceSub, Nat.reduceMul, Nat.add_zero, Nat.zero_add, mp_s, mp_k, mp_i, mp_g, mr_s, mr_i, mr_g, zlt_0, zlt_1, zlt_2, zlt_3, zlt_4, zlt_5, zlt_6, zlt_8, zlt_12, zlt_15, zlt_20, zlt_24, zlt_36, zlt_40, zlt_48, zlt_80, zlt_97, zlt_120, zlt_256, zlt_600, zlt_99999999, zadd_1, zadd_2, zadd_5, zadd_6, zadd_8, zadd_20, zadd_24, zeq_0, zeq_1, zeq_2, zeq_3, zeq_4, zeq_5, zeq_6, zeq_7, zeq_8, zeq_13, zeq_14, zeq_20, zeq_32, zeq_59, zeq_60, zeq_80, zmul_2, zmul_4, zmul_6, zmul_8, zmul_10, zmul_24, zsub_1, zsub_2, zsub_10, zsub_48, zsub_97, zle_0, zle_1, zle_2, zle_6, zle_11, zle_200, zle_600, zle_100000000, ylt_0, ylt_1, ylt_2, ylt_3, ylt_6, ylt_9, ylt_20, ylt_24, ylt_57, ylt_60, ylt_99, ylt_120, ylt_122, ylt_999, ylt_9999, yle_0, yle_2, yle_4, yle_5, yle_6, yle_7, yle_8, yle_10, yle_12, yle_13, yle_15, yle_16, yle_20, yle_24, yle_40, yle_60, yle_64, yle_80, yadd_1, yadd_22, ymul_2, ymul_4, ymul_6, ymul_8, ymul_10, ymul_24, ymul_27, ymul_100, ysub_1, ysub_24, zdiv_2, zdiv_4, zdiv_24, e1, b0, b1, p0, p1, z2, z3, s1]
  · refine stp_r L xs O hC 1 1 (by omega) (by omega) (w_zones_1 L xs O (a1) (a2) (a3) M _ ?_) (b := .inl 0) ?_
    · refine (EX_in mi_X6_zones rfl rfl rfl (ls := [some (.inr (.inr (0, 0))), some (.inl (a1)), some (.inl (a2)), some (.inl (a3)), none, none, none, none, none]) rfl).trans ?_
      have q0 := x6_needAir_out L xs O (D := d + 1) (by omega) (by omega) a1 M g6 c1
      simp (disch := first | omega | rfl | decide) only [e_X6_zones_0, e_X6_zones_5, e_X6_zones_10, e_X6_zones_16, e_X6_zones_22, e_X6_zones_30, e_X6_zones_44, e_X6_zones_46, e_X6_zones_96, e_X6_zones_77, e_X6_zones_79, xr_v, xr_n, hl_of, hl_cl, hl_toInt, hl_le, hl_lt, hl_eq, nI_add, hl_sub, pk_mul, hl_div, if_pos, if_neg, ↓reduceIte, Nat.reduceAdd, Nat.reduceSub, Nat.reduceMul, Nat.add_zero, Nat.zero_add, mp_s, mp_k, mp_i, mp_g, mr_s, mr_i, mr_g, zlt_0, zlt_1, zlt_2, zlt_3, zlt_4, zlt_5, zlt_6, zlt_8, zlt_12, zlt_15, zlt_20, zlt_24, zlt_36, zlt_40, zlt_48, zlt_80, zlt_97, zlt_120, zlt_256, zlt_600, zlt_99999999, zadd_1, zadd_2, zadd_5, zadd_6, zadd_8, zadd_20, zadd_24, zeq_0, zeq_1, zeq_2, zeq_3, zeq_4, zeq_5, zeq_6, zeq_7, zeq_8, zeq_13, zeq_14, zeq_20, zeq_32, zeq_59, zeq_60, zeq_80, zmul_2, zmul_4, zmul_6, zmul_8, zmul_10, zmul_24, zsub_1, zsub_2, zsub_10, zsub_48, zsub_97, zle_0, zle_1, zle_2, zle_6, zle_11, zle_200, zle_600, zle_100000000, ylt_0, ylt_1, ylt_2, ylt_3, ylt_6, ylt_9, ylt_20, ylt_24, ylt_57, ylt_60, ylt_99, ylt_120, ylt_122, ylt_999, ylt_9999, yle_0, yle_2, yle_4, yle_5, yle_6, yle_7, yle_8, yle_10, yle_12, yle_13, yle_15, yle_16, yle_20, yle_24, yle_40, yle_60, yle_64, yle_80, yadd_1, yadd_22, ymul_2, ymul_4, ymul_6, ymul_8, ymul_10, ymul_24, ymul_27, ymul_100, ysub_1, ysub_24, zdiv_2, zdiv_4, zdiv_24, q0, g4, g8, g13, xr_t]
    · obtain ⟨M1, e1, fr1, hB1, t1⟩ := m_start (MB_ref hC.1 1)
      have z0 := hB1.2.1.1
      have z1 := hB1.2.1.2.1
      have z2 := hB1.2.1.2.2.1
      have z3 := hB1.2.1.2.2.2.1
      have z26 := hB1.2.2.2.2.1
      refine (EX_in mi_X7_zones rfl rfl rfl (ls := [some (.inr (.inr (40, 0))), some (.inl (a1)), some (.inl (a2)), some (.inl (a3)), none, none, none, none, none, none]) rfl).trans ?_
      have b0 := fun w q => x7_bad_0 L xs O (D := d + 1 + 1) (by omega) w q M1 t1
      have b1 : EX L xs (d + 1 + 1) q_X7_bad [.inr (.inr (40, 0)), .inl (1), .inl (1), .inl (1)] M1 O = (some (.inl (some (.inl (1))), refM M1 (nI 1) 1, O, 0, 0) : Res) := x7_bad_1 L xs O (by omega) 1 1 (by omega) (by decide) M1 t1
      have p0 := x7_isAir_o L xs O (D := d + 1 + 1) (by omega) (by omega) a1 M1 z26 c1
      simp (disch := first | omega | rfl | decide) only [e_X7_zones_0, e_X7_zones_11, e_X7_zones_22, e_X7_zones_19, e_X7_zones_27, e_X7_zones_32, e_X7_zones_42, e_X7_zones_58, e_X7_zones_50, e_X7_zones_55, e_X7_zones_64, e_X7_zones_70, e_X7_zones_97, e_X7_zones_163, e_X7_zones_153, e_X7_zones_135, e_X7_zones_225, e_X7_zones_208, e_X7_zones_203, e_X7_zones_151, xr_v, xr_n, hl_of, hl_cl, hl_toInt, hl_le, hl_lt, hl_eq, nI_add, hl_sub, pk_mul, hl_div, if_pos, if_neg, ↓reduceIte, Nat.reduceAdd, Nat.reduceSub, Nat.reduceMul, Nat.add_zero, Nat.zero_add, mp_s, mp_k, mp_i, mp_g, mr_s, mr_i, mr_g, zlt_0, zlt_1, zlt_2, zlt_3, zlt_4, zlt_5, zlt_6, zlt_8, zlt_12, zlt_15, zlt_20, zlt_24, zlt_36, zlt_40, zlt_48, zlt_80, zlt_97, zlt_120, zlt_256, zlt_600, zlt_99999999, zadd_1, zadd_2, zadd_5, zadd_6, zadd_8, zadd_20, zadd_24, zeq_0, zeq_1, zeq_2, zeq_3, zeq_4, zeq_5, zeq_6, zeq_7, zeq_8, zeq_13, zeq_14, zeq_20, zeq_32, zeq_59, zeq_60, zeq_80, zmul_2, zmul_4, zmul_6, zmul_8, zmul_10, zmul_24, zsub_1, zsub_2, zsub_10, zsub_48, zsub_97, zle_0, zle_1, zle_2, zle_6, zle_11, zle_200, zle_600, zle_100000000, ylt_0, ylt_1, ylt_2, ylt_3, ylt_6, ylt_9, ylt_20, ylt_24, ylt_57, ylt_60, ylt_99, ylt_120, ylt_122, ylt_999, ylt_9999, yle_0, yle_2, yle_4, yle_5, yle_6, yle_7, yle_8, yle_10, yle_12, yle_13, yle_15, yle_16, yle_20, yle_24, yle_40, yle_60, yle_64, yle_80, yadd_1, yadd_22, ymul_2, ymul_4, ymul_6, ymul_8, ymul_10, ymul_24, ymul_27, ymul_100, ysub_1, ysub_24, zdiv_2, zdiv_4, zdiv_24, e1, b0, b1, p0, z2, z3, s1]
theorem s_why {d : Nat} (hD : 11 ≤ d) (a1 a2 a3 : Int32) (M : Mem) (hI : INV M) : Stq L xs O (d + 1 + 1 + 1) q_L_why q_X7_why [.inl a1, .inl a2, .inl a3] M := by
  obtain ⟨T, As, n, nh, ns, nw, na, md, ia, ni, nt, mds, hC⟩ := hI
  have hM : CQ M (perfL T md.1 md.2.1) As n nh ns nw na M := ⟨Fr_refl, hC.2.1⟩
  have hV := hM.2.1
  have v5 : n ≤ 40 := hV.2.2.2.2.2.1
  have v6 : nh ≤ 8 := hV.2.2.2.2.2.2.1
  have v7 : ns ≤ 6 := hV.2.2.2.2.2.2.2.1
  have v8 : nw ≤ 8 := hV.2.2.2.2.2.2.2.2.1
  have h6 : na ≤ 6 := hM.2.2.2.2.1
  have g0 := (hM.2.2.1 3 0 rfl).trans hV.1
  have g4 := (hM.2.2.1 3 4 rfl).trans hV.2.1
  have g8 := (hM.2.2.1 3 8 rfl).trans hV.2.2.1
  have g13 := (hM.2.2.1 3 13 rfl).trans hV.2.2.2.1
  have g6 := hM.2.2.2.1
  have hp2 := pow_le8 (show ns ≤ 8 by omega)
  have s1 := shl1 ns (by omega)
  by_cases c1 : inN a1 na
  · obtain ⟨j1, hj1, rfl⟩ := c1
    by_cases c2 : inN a2 na
    · obtain ⟨j2, hj2, rfl⟩ := c2
      by_cases c3 : inN a3 ns
      · obtain ⟨j3, hj3, rfl⟩ := c3
        exact stp_q L xs O hC (c_why L xs O (D := d + 1 + 1) (by omega) j1 j2 j3 hj1 hj2 hj3 M hM) (fun M1 h => w_why_v L xs O (nI j1) (nI j2) (nI j3) _ M M1 h) (fun M1 O1 hB => m_why L xs O1 (D := d + 1 + 1 + 1) (by omega) j1 j2 j3 hj1 hj2 hj3 M1 hB)
      · refine stp_r L xs O hC 1 1 (by omega) (by omega) (w_why_1 L xs O (nI j1) (nI j2) (a3) M _ ?_) (b := .inl 0) ?_
        · refine (EX_in mi_X6_why rfl rfl rfl (ls := [some (.inr (.inr (0, 0))), some (.inl (nI j1)), some (.inl (nI j2)), some (.inl (a3)), none, none, none, none]) rfl).trans ?_
          have q0 := x6_needAir_in L xs O (D := d + 1) (by omega) (by omega) j1 M g6 hj1
          have q1 := x6_needAir_in L xs O (D := d + 1) (by omega) (by omega) j2 M g6 hj2
          have q2 := x6_needSource_out L xs O (D := d + 1) (by omega) (by omega) a3 M g8 c3
          simp (disch := first | omega | rfl | decide) only [e_X6_why_0, e_X6_why_5, e_X6_why_10, e_X6_why_15, e_X6_why_21, e_X6_why_29, e_X6_why_37, e_X6_why_68, xr_v, xr_n, hl_of, hl_cl, hl_toInt, hl_le, hl_lt, hl_eq, nI_add, hl_sub, pk_mul, hl_div, if_pos, if_neg, ↓reduceIte, Nat.reduceAdd, Nat.reduceSub, Nat.reduceMul, Nat.add_zero, Nat.zero_add, mp_s, mp_k, mp_i, mp_g, mr_s, mr_i, mr_g, zlt_0, zlt_1, zlt_2, zlt_3, zlt_4, zlt_5, zlt_6, zlt_8, zlt_12, zlt_15, zlt_20, zlt_24, zlt_36, zlt_40, zlt_48, zlt_80, zlt_97, zlt_120, zlt_256, zlt_600, zlt_99999999, zadd_1, zadd_2, zadd_5, zadd_6, zadd_8, zadd_20, zadd_24, zeq_0, zeq_1, zeq_2, zeq_3, zeq_4, zeq_5, zeq_6, zeq_7, zeq_8, zeq_13, zeq_14, zeq_20, zeq_32, zeq_59, zeq_60, zeq_80, zmul_2, zmul_4, zmul_6, zmul_8, zmul_10, zmul_24, zsub_1, zsub_2, zsub_10, zsub_48, zsub_97, zle_0, zle_1, zle_2, zle_6, zle_11, zle_200, zle_600, zle_100000000, ylt_0, ylt_1, ylt_2, ylt_3, ylt_6, ylt_9, ylt_20, ylt_24, ylt_57, ylt_60, ylt_99, ylt_120, ylt_122, ylt_999, ylt_9999, yle_0, yle_2, yle_4, yle_5, yle_6, yle_7, yle_8, yle_10, yle_12, yle_13, yle_15, yle_16, yle_20, yle_24, yle_40, yle_60, yle_64, yle_80, yadd_1, yadd_22, ymul_2, ymul_4, ymul_6, ymul_8, ymul_10, ymul_24, ymul_27, ymul_100, ysub_1, ysub_24, zdiv_2, zdiv_4, zdiv_24, q0, q1, q2, g4, g8, g13, xr_t]
        · obtain ⟨M1, e1, fr1, hB1, t1⟩ := m_start (MB_ref hC.1 1)
          have z0 := hB1.2.1.1
          have z1 := hB1.2.1.2.1
          have z2 := hB1.2.1.2.2.1
          have z3 := hB1.2.1.2.2.2.1
          have z26 := hB1.2.2.2.2.1
          refine (EX_in mi_X7_why rfl rfl rfl (ls := [some (.inr (.inr (40, 0))), some (.inl (nI j1)), some (.inl (nI j2)), some (.inl (a3)), none, none]) rfl).trans ?_
          have b0 := fun w q => x7_bad_0 L xs O (D := d + 1 + 1) (by omega) w q M1 t1
          have b1 : EX L xs (d + 1 + 1) q_X7_bad [.inr (.inr (40, 0)), .inl (1), .inl (1), .inl (1)] M1 O = (some (.inl (some (.inl (1))), refM M1 (nI 1) 1, O, 0, 0) : Res) := x7_bad_1 L xs O (by omega) 1 1 (by omega) (by decide) M1 t1
          have p0 := x7_isAir_i L xs O (D := d + 1 + 1) (by omega) (by omega) j1 M1 z26 hj1
          have p1 := x7_isAir_i L xs O (D := d + 1 + 1) (by omega) (by omega) j2 M1 z26 hj2
          have p2 := x7_isSource_o L xs O (D := d + 1 + 1) (by omega) (by omega) a3 M1 z2 c3
          simp (disch := first | omega | rfl | decide) only [e_X7_why_0, e_X7_why_11, e_X7_why_30, e_X7_why_19, e_X7_why_35, e_X7_why_27, e_X7_why_40, e_X7_why_49, e_X7_why_55, e_X7_why_58, e_X7_why_97, e_X7_why_103, e_X7_why_142, e_X7_why_143, xr_v, xr_n, hl_of, hl_cl, hl_toInt, hl_le, hl_lt, hl_eq, nI_add, hl_sub, pk_mul, hl_div, if_pos, if_neg, ↓reduceIte, Nat.reduceAdd, Nat.reduceSub, Nat.reduceMul, Nat.add_zero, Nat.zero_add, mp_s, mp_k, mp_i, mp_g, mr_s, mr_i, mr_g, zlt_0, zlt_1, zlt_2, zlt_3, zlt_4, zlt_5, zlt_6, zlt_8, zlt_12, zlt_15, zlt_20, zlt_24, zlt_36, zlt_40, zlt_48, zlt_80, zlt_97, zlt_120, zlt_256, zlt_600, zlt_99999999, zadd_1, zadd_2, zadd_5, zadd_6, zadd_8, zadd_20, zadd_24, zeq_0, zeq_1, zeq_2, zeq_3, zeq_4, zeq_5, zeq_6, zeq_7, zeq_8, zeq_13, zeq_14, zeq_20, zeq_32, zeq_59, zeq_60, zeq_80, zmul_2, zmul_4, zmul_6, zmul_8, zmul_10, zmul_24, zsub_1, zsub_2, zsub_10, zsub_48, zsub_97, zle_0, zle_1, zle_2, zle_6, zle_11, zle_200, zle_600, zle_100000000, ylt_0, ylt_1, ylt_2, ylt_3, ylt_6, ylt_9, ylt_20, ylt_24, ylt_57, ylt_60, ylt_99, ylt_120, ylt_122, ylt_999, ylt_9999, yle_0, yle_2, yle_4, yle_5, yle_6, yle_7, yle_8, yle_10, yle_12, yle_13, yle_15, yle_16, yle_20, yle_24, yle_40, yle_60, yle_64, yle_80, yadd_1, yadd_22, ymul_2, ymul_4, ymul_6, ymul_8, ymul_10, ymul_24, ymul_27, ymul_100, ysub_1, ysub_24, zdiv_2, zdiv_4, zdiv_24, e1, b0, b1, p0, p1, p2, z2, z3, s1]
    · refine stp_r L xs O hC 1 1 (by omega) (by omega) (w_why_1 L xs O (nI j1) (a2) (a3) M _ ?_) (b := .inl 0) ?_
      · refine (EX_in mi_X6_why rfl rfl rfl (ls := [some (.inr (.inr (0, 0))), some (.inl (nI j1)), some (.inl (a2)), some (.inl (a3)), none, none, none, none]) rfl).trans ?_
        have q0 := x6_needAir_in L xs O (D := d + 1) (by omega) (by omega) j1 M g6 hj1
        have q1 := x6_needAir_out L xs O (D := d + 1) (by omega) (by omega) a2 M g6 c2
        simp (disch := first | omega | rfl | decide) only [e_X6_why_0, e_X6_why_5, e_X6_why_10, e_X6_why_15, e_X6_why_21, e_X6_why_29, e_X6_why_37, e_X6_why_68, xr_v, xr_n, hl_of, hl_cl, hl_toInt, hl_le, hl_lt, hl_eq, nI_add, hl_sub, pk_mul, hl_div, if_pos, if_neg, ↓reduceIte, Nat.reduceAdd, Nat.reduceSub, Nat.reduceMul, Nat.add_zero, Nat.zero_add, mp_s, mp_k, mp_i, mp_g, mr_s, mr_i, mr_g, zlt_0, zlt_1, zlt_2, zlt_3, zlt_4, zlt_5, zlt_6, zlt_8, zlt_12, zlt_15, zlt_20, zlt_24, zlt_36, zlt_40, zlt_48, zlt_80, zlt_97, zlt_120, zlt_256, zlt_600, zlt_99999999, zadd_1, zadd_2, zadd_5, zadd_6, zadd_8, zadd_20, zadd_24, zeq_0, zeq_1, zeq_2, zeq_3, zeq_4, zeq_5, zeq_6, zeq_7, zeq_8, zeq_13, zeq_14, zeq_20, zeq_32, zeq_59, zeq_60, zeq_80, zmul_2, zmul_4, zmul_6, zmul_8, zmul_10, zmul_24, zsub_1, zsub_2, zsub_10, zsub_48, zsub_97, zle_0, zle_1, zle_2, zle_6, zle_11, zle_200, zle_600, zle_100000000, ylt_0, ylt_1, ylt_2, ylt_3, ylt_6, ylt_9, ylt_20, ylt_24, ylt_57, ylt_60, ylt_99, ylt_120, ylt_122, ylt_999, ylt_9999, yle_0, yle_2, yle_4, yle_5, yle_6, yle_7, yle_8, yle_10, yle_12, yle_13, yle_15, yle_16, yle_20, yle_24, yle_40, yle_60, yle_64, yle_80, yadd_1, yadd_22, ymul_2, ymul_4, ymul_6, ymul_8, ymul_10, ymul_24, ymul_27, ymul_100, ysub_1, ysub_24, zdiv_2, zdiv_4, zdiv_24, q0, q1, g4, g8, g13, xr_t]
      · obtain ⟨M1, e1, fr1, hB1, t1⟩ := m_start (MB_ref hC.1 1)
        have z0 := hB1.2.1.1
        have z1 := hB1.2.1.2.1
        have z2 := hB1.2.1.2.2.1
        have z3 := hB1.2.1.2.2.2.1
        have z26 := hB1.2.2.2.2.1
        refine (EX_in mi_X7_why rfl rfl rfl (ls := [some (.inr (.inr (40, 0))), some (.inl (nI j1)), some (.inl (a2)), some (.inl (a3)), none, none]) rfl).trans ?_
        have b0 := fun w q => x7_bad_0 L xs O (D := d + 1 + 1) (by omega) w q M1 t1
        have b1 : EX L xs (d + 1 + 1) q_X7_bad [.inr (.inr (40, 0)), .inl (1), .inl (1), .inl (1)] M1 O = (some (.inl (some (.inl (1))), refM M1 (nI 1) 1, O, 0, 0) : Res) := x7_bad_1 L xs O (by omega) 1 1 (by omega) (by decide) M1 t1
        have p0 := x7_isAir_i L xs O (D := d + 1 + 1) (by omega) (by omega) j1 M1 z26 hj1
        have p1 := x7_isAir_o L xs O (D := d + 1 + 1) (by omega) (by omega) a2 M1 z26 c2
        simp (disch := first | omega | rfl | decide) only [e_X7_why_0, e_X7_why_11, e_X7_why_30, e_X7_why_19, e_X7_why_35, e_X7_why_27, e_X7_why_40, e_X7_why_49, e_X7_why_55, e_X7_why_58, e_X7_why_97, e_X7_why_103, e_X7_why_142, e_X7_why_143, xr_v, xr_n, hl_of, hl_cl, hl_toInt, hl_le, hl_lt, hl_eq, nI_add, hl_sub, pk_mul, hl_div, if_pos, if_neg, ↓reduceIte, Nat.reduceAdd, Nat.reduceSub, Nat.reduceMul, Nat.add_zero, Nat.zero_add, mp_s, mp_k, mp_i, mp_g, mr_s, mr_i, mr_g, zlt_0, zlt_1, zlt_2, zlt_3, zlt_4, zlt_5, zlt_6, zlt_8, zlt_12, zlt_15, zlt_20, zlt_24, zlt_36, zlt_40, zlt_48, zlt_80, zlt_97, zlt_120, zlt_256, zlt_600, zlt_99999999, zadd_1, zadd_2, zadd_5, zadd_6, zadd_8, zadd_20, zadd_24, zeq_0, zeq_1, zeq_2, zeq_3, zeq_4, zeq_5, zeq_6, zeq_7, zeq_8, zeq_13, zeq_14, zeq_20, zeq_32, zeq_59, zeq_60, zeq_80, zmul_2, zmul_4, zmul_6, zmul_8, zmul_10, zmul_24, zsub_1, zsub_2, zsub_10, zsub_48, zsub_97, zle_0, zle_1, zle_2, zle_6, zle_11, zle_200, zle_600, zle_100000000, ylt_0, ylt_1, ylt_2, ylt_3, ylt_6, ylt_9, ylt_20, ylt_24, ylt_57, ylt_60, ylt_99, ylt_120, ylt_122, ylt_999, ylt_9999, yle_0, yle_2, yle_4, yle_5, yle_6, yle_7, yle_8, yle_10, yle_12, yle_13, yle_15, yle_16, yle_20, yle_24, yle_40, yle_60, yle_64, yle_80, yadd_1, yadd_22, ymul_2, ymul_4, ymul_6, ymul_8, ymul_10, ymul_24, ymul_27, ymul_100, ysub_1, ysub_24, zdiv_2, zdiv_4, zdiv_24, e1, b0, b1, p0, p1, z2, z3, s1]
  · refine stp_r L xs O hC 1 1 (by omega) (by omega) (w_why_1 L xs O (a1) (a2) (a3) M _ ?_) (b := .inl 0) ?_
    · refine (EX_in mi_X6_why rfl rfl rfl (ls := [some (.inr (.inr (0, 0))), some (.inl (a1)), some (.inl (a2)), some (.inl (a3)), none, none, none, none]) rfl).trans ?_
      have q0 := x6_needAir_out L xs O (D := d + 1) (by omega) (by omega) a1 M g6 c1
      simp (disch := first | omega | rfl | decide) only [e_X6_why_0, e_X6_why_5, e_X6_why_10, e_X6_why_15, e_X6_why_21, e_X6_why_29, e_X6_why_37, e_X6_why_68, xr_v, xr_n, hl_of, hl_cl, hl_toInt, hl_le, hl_lt, hl_eq, nI_add, hl_sub, pk_mul, hl_div, if_pos, if_neg, ↓reduceIte, Nat.reduceAdd, Nat.reduceSub, Nat.reduceMul, Nat.add_zero, Nat.zero_add, mp_s, mp_k, mp_i, mp_g, mr_s, mr_i, mr_g, zlt_0, zlt_1, zlt_2, zlt_3, zlt_4, zlt_5, zlt_6, zlt_8, zlt_12, zlt_15, zlt_20, zlt_24, zlt_36, zlt_40, zlt_48, zlt_80, zlt_97, zlt_120, zlt_256, zlt_600, zlt_99999999, zadd_1, zadd_2, zadd_5, zadd_6, zadd_8, zadd_20, zadd_24, zeq_0, zeq_1, zeq_2, zeq_3, zeq_4, zeq_5, zeq_6, zeq_7, zeq_8, zeq_13, zeq_14, zeq_20, zeq_32, zeq_59, zeq_60, zeq_80, zmul_2, zmul_4, zmul_6, zmul_8, zmul_10, zmul_24, zsub_1, zsub_2, zsub_10, zsub_48, zsub_97, zle_0, zle_1, zle_2, zle_6, zle_11, zle_200, zle_600, zle_100000000, ylt_0, ylt_1, ylt_2, ylt_3, ylt_6, ylt_9, ylt_20, ylt_24, ylt_57, ylt_60, ylt_99, ylt_120, ylt_122, ylt_999, ylt_9999, yle_0, yle_2, yle_4, yle_5, yle_6, yle_7, yle_8, yle_10, yle_12, yle_13, yle_15, yle_16, yle_20, yle_24, yle_40, yle_60, yle_64, yle_80, yadd_1, yadd_22, ymul_2, ymul_4, ymul_6, ymul_8, ymul_10, ymul_24, ymul_27, ymul_100, ysub_1, ysub_24, zdiv_2, zdiv_4, zdiv_24, q0, g4, g8, g13, xr_t]
    · obtain ⟨M1, e1, fr1, hB1, t1⟩ := m_start (MB_ref hC.1 1)
      have z0 := hB1.2.1.1
      have z1 := hB1.2.1.2.1
      have z2 := hB1.2.1.2.2.1
      have z3 := hB1.2.1.2.2.2.1
      have z26 := hB1.2.2.2.2.1
      refine (EX_in mi_X7_why rfl rfl rfl (ls := [some (.inr (.inr (40, 0))), some (.inl (a1)), some (.inl (a2)), some (.inl (a3)), none, none]) rfl).trans ?_
      have b0 := fun w q => x7_bad_0 L xs O (D := d + 1 + 1) (by omega) w q M1 t1
      have b1 : EX L xs (d + 1 + 1) q_X7_bad [.inr (.inr (40, 0)), .inl (1), .inl (1), .inl (1)] M1 O = (some (.inl (some (.inl (1))), refM M1 (nI 1) 1, O, 0, 0) : Res) := x7_bad_1 L xs O (by omega) 1 1 (by omega) (by decide) M1 t1
      have p0 := x7_isAir_o L xs O (D := d + 1 + 1) (by omega) (by omega) a1 M1 z26 c1
      simp (disch := first | omega | rfl | decide) only [e_X7_why_0, e_X7_why_11, e_X7_why_30, e_X7_why_19, e_X7_why_35, e_X7_why_27, e_X7_why_40, e_X7_why_49, e_X7_why_55, e_X7_why_58, e_X7_why_97, e_X7_why_103, e_X7_why_142, e_X7_why_143, xr_v, xr_n, hl_of, hl_cl, hl_toInt, hl_le, hl_lt, hl_eq, nI_add, hl_sub, pk_mul, hl_div, if_pos, if_neg, ↓reduceIte, Nat.reduceAdd, Nat.reduceSub, Nat.reduceMul, Nat.add_zero, Nat.zero_add, mp_s, mp_k, mp_i, mp_g, mr_s, mr_i, mr_g, zlt_0, zlt_1, zlt_2, zlt_3, zlt_4, zlt_5, zlt_6, zlt_8, zlt_12, zlt_15, zlt_20, zlt_24, zlt_36, zlt_40, zlt_48, zlt_80, zlt_97, zlt_120, zlt_256, zlt_600, zlt_99999999, zadd_1, zadd_2, zadd_5, zadd_6, zadd_8, zadd_20, zadd_24, zeq_0, zeq_1, zeq_2, zeq_3, zeq_4, zeq_5, zeq_6, zeq_7, zeq_8, zeq_13, zeq_14, zeq_20, zeq_32, zeq_59, zeq_60, zeq_80, zmul_2, zmul_4, zmul_6, zmul_8, zmul_10, zmul_24, zsub_1, zsub_2, zsub_10, zsub_48, zsub_97, zle_0, zle_1, zle_2, zle_6, zle_11, zle_200, zle_600, zle_100000000, ylt_0, ylt_1, ylt_2, ylt_3, ylt_6, ylt_9, ylt_20, ylt_24, ylt_57, ylt_60, ylt_99, ylt_120, ylt_122, ylt_999, ylt_9999, yle_0, yle_2, yle_4, yle_5, yle_6, yle_7, yle_8, yle_10, yle_12, yle_13, yle_15, yle_16, yle_20, yle_24, yle_40, yle_60, yle_64, yle_80, yadd_1, yadd_22, ymul_2, ymul_4, ymul_6, ymul_8, ymul_10, ymul_24, ymul_27, ymul_100, ysub_1, ysub_24, zdiv_2, zdiv_4, zdiv_24, e1, b0, b1, p0, z2, z3, s1]
theorem s_nights {d : Nat} (hD : 11 ≤ d) (a1 a2 a3 : Int32) (M : Mem) (hI : INV M) : Stq L xs O (d + 1 + 1 + 1) q_L_nights q_X7_nights [.inl a1, .inl a2, .inl a3] M := by
  obtain ⟨T, As, n, nh, ns, nw, na, md, ia, ni, nt, mds, hC⟩ := hI
  have hM : CQ M (perfL T md.1 md.2.1) As n nh ns nw na M := ⟨Fr_refl, hC.2.1⟩
  have hV := hM.2.1
  have v5 : n ≤ 40 := hV.2.2.2.2.2.1
  have v6 : nh ≤ 8 := hV.2.2.2.2.2.2.1
  have v7 : ns ≤ 6 := hV.2.2.2.2.2.2.2.1
  have v8 : nw ≤ 8 := hV.2.2.2.2.2.2.2.2.1
  have h6 : na ≤ 6 := hM.2.2.2.2.1
  have g0 := (hM.2.2.1 3 0 rfl).trans hV.1
  have g4 := (hM.2.2.1 3 4 rfl).trans hV.2.1
  have g8 := (hM.2.2.1 3 8 rfl).trans hV.2.2.1
  have g13 := (hM.2.2.1 3 13 rfl).trans hV.2.2.2.1
  have g6 := hM.2.2.2.1
  have hp2 := pow_le8 (show ns ≤ 8 by omega)
  have s1 := shl1 ns (by omega)
  by_cases c1 : inN a1 nh
  · obtain ⟨j1, hj1, rfl⟩ := c1
    by_cases c2 : inN a2 24
    · obtain ⟨j2, hj2, rfl⟩ := c2
      by_cases c3 : inN a3 2
      · obtain ⟨j3, hj3, rfl⟩ := c3
        exact stp_q L xs O hC (c_nights L xs O (D := d + 1 + 1) (by omega) j1 j2 j3 hj1 hj2 hj3 M hM) (fun M1 h => w_nights_v L xs O (nI j1) (nI j2) (nI j3) _ M M1 h) (fun M1 O1 hB => m_nights L xs O1 (D := d + 1 + 1 + 1) (by omega) j1 j2 j3 hj1 hj2 hj3 M1 hB)
      · refine stp_r L xs O hC 2 2 (by omega) (by omega) (w_nights_2 L xs O (nI j1) (nI j2) (a3) M _ ?_) (b := .inl 0) ?_
        · refine (EX_in mi_X6_nights rfl rfl rfl (ls := [some (.inr (.inr (0, 0))), some (.inl (nI j1)), some (.inl (nI j2)), some (.inl (a3)), none, none]) rfl).trans ?_
          have q0 := x6_needHouse_in L xs O (D := d + 1) (by omega) (by omega) j1 M g4 hj1
          have q1 := x6_needHour_in L xs O (D := d + 1) (by omega) j2 M hj2
          have q2 := x6_w2_out L xs O (D := d + 1) (by omega) a3 M c3
          simp (disch := first | omega | rfl | decide) only [e_X6_nights_0, e_X6_nights_5, e_X6_nights_10, e_X6_nights_16, e_X6_nights_22, e_X6_nights_47, e_X6_nights_44, e_X6_nights_62, xr_v, xr_n, hl_of, hl_cl, hl_toInt, hl_le, hl_lt, hl_eq, nI_add, hl_sub, pk_mul, hl_div, if_pos, if_neg, ↓reduceIte, Nat.reduceAdd, Nat.reduceSub, Nat.reduceMul, Nat.add_zero, Nat.zero_add, mp_s, mp_k, mp_i, mp_g, mr_s, mr_i, mr_g, zlt_0, zlt_1, zlt_2, zlt_3, zlt_4, zlt_5, zlt_6, zlt_8, zlt_12, zlt_15, zlt_20, zlt_24, zlt_36, zlt_40, zlt_48, zlt_80, zlt_97, zlt_120, zlt_256, zlt_600, zlt_99999999, zadd_1, zadd_2, zadd_5, zadd_6, zadd_8, zadd_20, zadd_24, zeq_0, zeq_1, zeq_2, zeq_3, zeq_4, zeq_5, zeq_6, zeq_7, zeq_8, zeq_13, zeq_14, zeq_20, zeq_32, zeq_59, zeq_60, zeq_80, zmul_2, zmul_4, zmul_6, zmul_8, zmul_10, zmul_24, zsub_1, zsub_2, zsub_10, zsub_48, zsub_97, zle_0, zle_1, zle_2, zle_6, zle_11, zle_200, zle_600, zle_100000000, ylt_0, ylt_1, ylt_2, ylt_3, ylt_6, ylt_9, ylt_20, ylt_24, ylt_57, ylt_60, ylt_99, ylt_120, ylt_122, ylt_999, ylt_9999, yle_0, yle_2, yle_4, yle_5, yle_6, yle_7, yle_8, yle_10, yle_12, yle_13, yle_15, yle_16, yle_20, yle_24, yle_40, yle_60, yle_64, yle_80, yadd_1, yadd_22, ymul_2, ymul_4, ymul_6, ymul_8, ymul_10, ymul_24, ymul_27, ymul_100, ysub_1, ysub_24, zdiv_2, zdiv_4, zdiv_24, q0, q1, q2, g4, g8, g13, xr_t]
        · obtain ⟨M1, e1, fr1, hB1, t1⟩ := m_start (MB_ref hC.1 2)
          have z0 := hB1.2.1.1
          have z1 := hB1.2.1.2.1
          have z2 := hB1.2.1.2.2.1
          have z3 := hB1.2.1.2.2.2.1
          have z26 := hB1.2.2.2.2.1
          refine (EX_in mi_X7_nights rfl rfl rfl (ls := [some (.inr (.inr (40, 0))), some (.inl (nI j1)), some (.inl (nI j2)), some (.inl (a3)), none, none]) rfl).trans ?_
          have b0 := fun w q => x7_bad_0 L xs O (D := d + 1 + 1) (by omega) w q M1 t1
          have b1 : EX L xs (d + 1 + 1) q_X7_bad [.inr (.inr (40, 0)), .inl (1), .inl (2), .inl (2)] M1 O = (some (.inl (some (.inl (1))), refM M1 (nI 2) 2, O, 0, 0) : Res) := x7_bad_1 L xs O (by omega) 2 2 (by omega) (by decide) M1 t1
          have p0 := x7_isHouse_i L xs O (D := d + 1 + 1) (by omega) (by omega) j1 M1 z1 hj1
          have p1 := x7_isHour_i L xs O (D := d + 1 + 1) (by omega) j2 M1 hj2
          have p2 := x7_i2_out L xs O (D := d + 1 + 1) (by omega) a3 M1 c3
          simp (disch := first | omega | rfl | decide) only [e_X7_nights_0, e_X7_nights_11, e_X7_nights_19, e_X7_nights_24, e_X7_nights_32, e_X7_nights_57, e_X7_nights_44, e_X7_nights_41, e_X7_nights_49, e_X7_nights_54, e_X7_nights_63, e_X7_nights_69, e_X7_nights_84, e_X7_nights_100, e_X7_nights_97, e_X7_nights_114, xr_v, xr_n, hl_of, hl_cl, hl_toInt, hl_le, hl_lt, hl_eq, nI_add, hl_sub, pk_mul, hl_div, if_pos, if_neg, ↓reduceIte, Nat.reduceAdd, Nat.reduceSub, Nat.reduceMul, Nat.add_zero, Nat.zero_add, mp_s, mp_k, mp_i, mp_g, mr_s, mr_i, mr_g, zlt_0, zlt_1, zlt_2, zlt_3, zlt_4, zlt_5, zlt_6, zlt_8, zlt_12, zlt_15, zlt_20, zlt_24, zlt_36, zlt_40, zlt_48, zlt_80, zlt_97, zlt_120, zlt_256, zlt_600, zlt_99999999, zadd_1, zadd_2, zadd_5, zadd_6, zadd_8, zadd_20, zadd_24, zeq_0, zeq_1, zeq_2, zeq_3, zeq_4, zeq_5, zeq_6, zeq_7, zeq_8, zeq_13, zeq_14, zeq_20, zeq_32, zeq_59, zeq_60, zeq_80, zmul_2, zmul_4, zmul_6, zmul_8, zmul_10, zmul_24, zsub_1, zsub_2, zsub_10, zsub_48, zsub_97, zle_0, zle_1, zle_2, zle_6, zle_11, zle_200, zle_600, zle_100000000, ylt_0, ylt_1, ylt_2, ylt_3, ylt_6, ylt_9, ylt_20, ylt_24, ylt_57, ylt_60, ylt_99, ylt_120, ylt_122, ylt_999, ylt_9999, yle_0, yle_2, yle_4, yle_5, yle_6, yle_7, yle_8, yle_10, yle_12, yle_13, yle_15, yle_16, yle_20, yle_24, yle_40, yle_60, yle_64, yle_80, yadd_1, yadd_22, ymul_2, ymul_4, ymul_6, ymul_8, ymul_10, ymul_24, ymul_27, ymul_100, ysub_1, ysub_24, zdiv_2, zdiv_4, zdiv_24, e1, b0, b1, p0, p1, p2, z2, z3, s1]
    · refine stp_r L xs O hC 2 2 (by omega) (by omega) (w_nights_2 L xs O (nI j1) (a2) (a3) M _ ?_) (b := .inl 0) ?_
      · refine (EX_in mi_X6_nights rfl rfl rfl (ls := [some (.inr (.inr (0, 0))), some (.inl (nI j1)), some (.inl (a2)), some (.inl (a3)), none, none]) rfl).trans ?_
        have q0 := x6_needHouse_in L xs O (D := d + 1) (by omega) (by omega) j1 M g4 hj1
        have q1 := x6_needHour_out L xs O (D := d + 1) (by omega) a2 M c2
        simp (disch := first | omega | rfl | decide) only [e_X6_nights_0, e_X6_nights_5, e_X6_nights_10, e_X6_nights_16, e_X6_nights_22, e_X6_nights_47, e_X6_nights_44, e_X6_nights_62, xr_v, xr_n, hl_of, hl_cl, hl_toInt, hl_le, hl_lt, hl_eq, nI_add, hl_sub, pk_mul, hl_div, if_pos, if_neg, ↓reduceIte, Nat.reduceAdd, Nat.reduceSub, Nat.reduceMul, Nat.add_zero, Nat.zero_add, mp_s, mp_k, mp_i, mp_g, mr_s, mr_i, mr_g, zlt_0, zlt_1, zlt_2, zlt_3, zlt_4, zlt_5, zlt_6, zlt_8, zlt_12, zlt_15, zlt_20, zlt_24, zlt_36, zlt_40, zlt_48, zlt_80, zlt_97, zlt_120, zlt_256, zlt_600, zlt_99999999, zadd_1, zadd_2, zadd_5, zadd_6, zadd_8, zadd_20, zadd_24, zeq_0, zeq_1, zeq_2, zeq_3, zeq_4, zeq_5, zeq_6, zeq_7, zeq_8, zeq_13, zeq_14, zeq_20, zeq_32, zeq_59, zeq_60, zeq_80, zmul_2, zmul_4, zmul_6, zmul_8, zmul_10, zmul_24, zsub_1, zsub_2, zsub_10, zsub_48, zsub_97, zle_0, zle_1, zle_2, zle_6, zle_11, zle_200, zle_600, zle_100000000, ylt_0, ylt_1, ylt_2, ylt_3, ylt_6, ylt_9, ylt_20, ylt_24, ylt_57, ylt_60, ylt_99, ylt_120, ylt_122, ylt_999, ylt_9999, yle_0, yle_2, yle_4, yle_5, yle_6, yle_7, yle_8, yle_10, yle_12, yle_13, yle_15, yle_16, yle_20, yle_24, yle_40, yle_60, yle_64, yle_80, yadd_1, yadd_22, ymul_2, ymul_4, ymul_6, ymul_8, ymul_10, ymul_24, ymul_27, ymul_100, ysub_1, ysub_24, zdiv_2, zdiv_4, zdiv_24, q0, q1, g4, g8, g13, xr_t]
      · obtain ⟨M1, e1, fr1, hB1, t1⟩ := m_start (MB_ref hC.1 2)
        have z0 := hB1.2.1.1
        have z1 := hB1.2.1.2.1
        have z2 := hB1.2.1.2.2.1
        have z3 := hB1.2.1.2.2.2.1
        have z26 := hB1.2.2.2.2.1
        refine (EX_in mi_X7_nights rfl rfl rfl (ls := [some (.inr (.inr (40, 0))), some (.inl (nI j1)), some (.inl (a2)), some (.inl (a3)), none, none]) rfl).trans ?_
        have b0 := fun w q => x7_bad_0 L xs O (D := d + 1 + 1) (by omega) w q M1 t1
        have b1 : EX L xs (d + 1 + 1) q_X7_bad [.inr (.inr (40, 0)), .inl (1), .inl (2), .inl (2)] M1 O = (some (.inl (some (.inl (1))), refM M1 (nI 2) 2, O, 0, 0) : Res) := x7_bad_1 L xs O (by omega) 2 2 (by omega) (by decide) M1 t1
        have p0 := x7_isHouse_i L xs O (D := d + 1 + 1) (by omega) (by omega) j1 M1 z1 hj1
        have p1 := x7_isHour_o L xs O (D := d + 1 + 1) (by omega) a2 M1 c2
        simp (disch := first | omega | rfl | decide) only [e_X7_nights_0, e_X7_nights_11, e_X7_nights_19, e_X7_nights_24, e_X7_nights_32, e_X7_nights_57, e_X7_nights_44, e_X7_nights_41, e_X7_nights_49, e_X7_nights_54, e_X7_nights_63, e_X7_nights_69, e_X7_nights_84, e_X7_nights_100, e_X7_nights_97, e_X7_nights_114, xr_v, xr_n, hl_of, hl_cl, hl_toInt, hl_le, hl_lt, hl_eq, nI_add, hl_sub, pk_mul, hl_div, if_pos, if_neg, ↓reduceIte, Nat.reduceAdd, Nat.reduceSub, Nat.reduceMul, Nat.add_zero, Nat.zero_add, mp_s, mp_k, mp_i, mp_g, mr_s, mr_i, mr_g, zlt_0, zlt_1, zlt_2, zlt_3, zlt_4, zlt_5, zlt_6, zlt_8, zlt_12, zlt_15, zlt_20, zlt_24, zlt_36, zlt_40, zlt_48, zlt_80, zlt_97, zlt_120, zlt_256, zlt_600, zlt_99999999, zadd_1, zadd_2, zadd_5, zadd_6, zadd_8, zadd_20, zadd_24, zeq_0, zeq_1, zeq_2, zeq_3, zeq_4, zeq_5, zeq_6, zeq_7, zeq_8, zeq_13, zeq_14, zeq_20, zeq_32, zeq_59, zeq_60, zeq_80, zmul_2, zmul_4, zmul_6, zmul_8, zmul_10, zmul_24, zsub_1, zsub_2, zsub_10, zsub_48, zsub_97, zle_0, zle_1, zle_2, zle_6, zle_11, zle_200, zle_600, zle_100000000, ylt_0, ylt_1, ylt_2, ylt_3, ylt_6, ylt_9, ylt_20, ylt_24, ylt_57, ylt_60, ylt_99, ylt_120, ylt_122, ylt_999, ylt_9999, yle_0, yle_2, yle_4, yle_5, yle_6, yle_7, yle_8, yle_10, yle_12, yle_13, yle_15, yle_16, yle_20, yle_24, yle_40, yle_60, yle_64, yle_80, yadd_1, yadd_22, ymul_2, ymul_4, ymul_6, ymul_8, ymul_10, ymul_24, ymul_27, ymul_100, ysub_1, ysub_24, zdiv_2, zdiv_4, zdiv_24, e1, b0, b1, p0, p1, z2, z3, s1]
  · refine stp_r L xs O hC 1 1 (by omega) (by omega) (w_nights_1 L xs O (a1) (a2) (a3) M _ ?_) (b := .inl 0) ?_
    · refine (EX_in mi_X6_nights rfl rfl rfl (ls := [some (.inr (.inr (0, 0))), some (.inl (a1)), some (.inl (a2)), some (.inl (a3)), none, none]) rfl).trans ?_
      have q0 := x6_needHouse_out L xs O (D := d + 1) (by omega) (by omega) a1 M g4 c1
      simp (disch := first | omega | rfl | decide) only [e_X6_nights_0, e_X6_nights_5, e_X6_nights_10, e_X6_nights_16, e_X6_nights_22, e_X6_nights_47, e_X6_nights_44, e_X6_nights_62, xr_v, xr_n, hl_of, hl_cl, hl_toInt, hl_le, hl_lt, hl_eq, nI_add, hl_sub, pk_mul, hl_div, if_pos, if_neg, ↓reduceIte, Nat.reduceAdd, Nat.reduceSub, Nat.reduceMul, Nat.add_zero, Nat.zero_add, mp_s, mp_k, mp_i, mp_g, mr_s, mr_i, mr_g, zlt_0, zlt_1, zlt_2, zlt_3, zlt_4, zlt_5, zlt_6, zlt_8, zlt_12, zlt_15, zlt_20, zlt_24, zlt_36, zlt_40, zlt_48, zlt_80, zlt_97, zlt_120, zlt_256, zlt_600, zlt_99999999, zadd_1, zadd_2, zadd_5, zadd_6, zadd_8, zadd_20, zadd_24, zeq_0, zeq_1, zeq_2, zeq_3, zeq_4, zeq_5, zeq_6, zeq_7, zeq_8, zeq_13, zeq_14, zeq_20, zeq_32, zeq_59, zeq_60, zeq_80, zmul_2, zmul_4, zmul_6, zmul_8, zmul_10, zmul_24, zsub_1, zsub_2, zsub_10, zsub_48, zsub_97, zle_0, zle_1, zle_2, zle_6, zle_11, zle_200, zle_600, zle_100000000, ylt_0, ylt_1, ylt_2, ylt_3, ylt_6, ylt_9, ylt_20, ylt_24, ylt_57, ylt_60, ylt_99, ylt_120, ylt_122, ylt_999, ylt_9999, yle_0, yle_2, yle_4, yle_5, yle_6, yle_7, yle_8, yle_10, yle_12, yle_13, yle_15, yle_16, yle_20, yle_24, yle_40, yle_60, yle_64, yle_80, yadd_1, yadd_22, ymul_2, ymul_4, ymul_6, ymul_8, ymul_10, ymul_24, ymul_27, ymul_100, ysub_1, ysub_24, zdiv_2, zdiv_4, zdiv_24, q0, g4, g8, g13, xr_t]
    · obtain ⟨M1, e1, fr1, hB1, t1⟩ := m_start (MB_ref hC.1 1)
      have z0 := hB1.2.1.1
      have z1 := hB1.2.1.2.1
      have z2 := hB1.2.1.2.2.1
      have z3 := hB1.2.1.2.2.2.1
      have z26 := hB1.2.2.2.2.1
      refine (EX_in mi_X7_nights rfl rfl rfl (ls := [some (.inr (.inr (40, 0))), some (.inl (a1)), some (.inl (a2)), some (.inl (a3)), none, none]) rfl).trans ?_
      have b0 := fun w q => x7_bad_0 L xs O (D := d + 1 + 1) (by omega) w q M1 t1
      have b1 : EX L xs (d + 1 + 1) q_X7_bad [.inr (.inr (40, 0)), .inl (1), .inl (1), .inl (1)] M1 O = (some (.inl (some (.inl (1))), refM M1 (nI 1) 1, O, 0, 0) : Res) := x7_bad_1 L xs O (by omega) 1 1 (by omega) (by decide) M1 t1
      have p0 := x7_isHouse_o L xs O (D := d + 1 + 1) (by omega) (by omega) a1 M1 z1 c1
      simp (disch := first | omega | rfl | decide) only [e_X7_nights_0, e_X7_nights_11, e_X7_nights_19, e_X7_nights_24, e_X7_nights_32, e_X7_nights_57, e_X7_nights_44, e_X7_nights_41, e_X7_nights_49, e_X7_nights_54, e_X7_nights_63, e_X7_nights_69, e_X7_nights_84, e_X7_nights_100, e_X7_nights_97, e_X7_nights_114, xr_v, xr_n, hl_of, hl_cl, hl_toInt, hl_le, hl_lt, hl_eq, nI_add, hl_sub, pk_mul, hl_div, if_pos, if_neg, ↓reduceIte, Nat.reduceAdd, Nat.reduceSub, Nat.reduceMul, Nat.add_zero, Nat.zero_add, mp_s, mp_k, mp_i, mp_g, mr_s, mr_i, mr_g, zlt_0, zlt_1, zlt_2, zlt_3, zlt_4, zlt_5, zlt_6, zlt_8, zlt_12, zlt_15, zlt_20, zlt_24, zlt_36, zlt_40, zlt_48, zlt_80, zlt_97, zlt_120, zlt_256, zlt_600, zlt_99999999, zadd_1, zadd_2, zadd_5, zadd_6, zadd_8, zadd_20, zadd_24, zeq_0, zeq_1, zeq_2, zeq_3, zeq_4, zeq_5, zeq_6, zeq_7, zeq_8, zeq_13, zeq_14, zeq_20, zeq_32, zeq_59, zeq_60, zeq_80, zmul_2, zmul_4, zmul_6, zmul_8, zmul_10, zmul_24, zsub_1, zsub_2, zsub_10, zsub_48, zsub_97, zle_0, zle_1, zle_2, zle_6, zle_11, zle_200, zle_600, zle_100000000, ylt_0, ylt_1, ylt_2, ylt_3, ylt_6, ylt_9, ylt_20, ylt_24, ylt_57, ylt_60, ylt_99, ylt_120, ylt_122, ylt_999, ylt_9999, yle_0, yle_2, yle_4, yle_5, yle_6, yle_7, yle_8, yle_10, yle_12, yle_13, yle_15, yle_16, yle_20, yle_24, yle_40, yle_60, yle_64, yle_80, yadd_1, yadd_22, ymul_2, ymul_4, ymul_6, ymul_8, ymul_10, ymul_24, ymul_27, ymul_100, ysub_1, ysub_24, zdiv_2, zdiv_4, zdiv_24, e1, b0, b1, p0, z2, z3, s1]
theorem s_wakes {d : Nat} (hD : 11 ≤ d) (a1 a2 : Int32) (M : Mem) (hI : INV M) : Stq L xs O (d + 1 + 1 + 1) q_L_wakes q_X7_wakes [.inl a1, .inl a2] M := by
  obtain ⟨T, As, n, nh, ns, nw, na, md, ia, ni, nt, mds, hC⟩ := hI
  have hM : CQ M (perfL T md.1 md.2.1) As n nh ns nw na M := ⟨Fr_refl, hC.2.1⟩
  have hV := hM.2.1
  have v5 : n ≤ 40 := hV.2.2.2.2.2.1
  have v6 : nh ≤ 8 := hV.2.2.2.2.2.2.1
  have v7 : ns ≤ 6 := hV.2.2.2.2.2.2.2.1
  have v8 : nw ≤ 8 := hV.2.2.2.2.2.2.2.2.1
  have h6 : na ≤ 6 := hM.2.2.2.2.1
  have g0 := (hM.2.2.1 3 0 rfl).trans hV.1
  have g4 := (hM.2.2.1 3 4 rfl).trans hV.2.1
  have g8 := (hM.2.2.1 3 8 rfl).trans hV.2.2.1
  have g13 := (hM.2.2.1 3 13 rfl).trans hV.2.2.2.1
  have g6 := hM.2.2.2.1
  have hp2 := pow_le8 (show ns ≤ 8 by omega)
  have s1 := shl1 ns (by omega)
  by_cases c1 : inN a1 nh
  · obtain ⟨j1, hj1, rfl⟩ := c1
    by_cases c2 : inN a2 na
    · obtain ⟨j2, hj2, rfl⟩ := c2
      exact stp_q L xs O hC (c_wakes L xs O (D := d + 1 + 1) (by omega) j1 j2 hj1 hj2 M hM) (fun M1 h => w_wakes_v L xs O (nI j1) (nI j2) _ M M1 h) (fun M1 O1 hB => m_wakes L xs O1 (D := d + 1 + 1 + 1) (by omega) j1 j2 hj1 hj2 M1 hB)
    · refine stp_r L xs O hC 1 1 (by omega) (by omega) (w_wakes_1 L xs O (nI j1) (a2) M _ ?_) (b := .inl 0) ?_
      · refine (EX_in mi_X6_wakes rfl rfl rfl (ls := [some (.inr (.inr (0, 0))), some (.inl (nI j1)), some (.inl (a2))]) rfl).trans ?_
        have q0 := x6_needHouse_in L xs O (D := d + 1) (by omega) (by omega) j1 M g4 hj1
        have q1 := x6_needAir_out L xs O (D := d + 1) (by omega) (by omega) a2 M g6 c2
        simp (disch := first | omega | rfl | decide) only [e_X6_wakes_0, e_X6_wakes_5, e_X6_wakes_10, e_X6_wakes_16, xr_v, xr_n, hl_of, hl_cl, hl_toInt, hl_le, hl_lt, hl_eq, nI_add, hl_sub, pk_mul, hl_div, if_pos, if_neg, ↓reduceIte, Nat.reduceAdd, Nat.reduceSub, Nat.reduceMul, Nat.add_zero, Nat.zero_add, mp_s, mp_k, mp_i, mp_g, mr_s, mr_i, mr_g, zlt_0, zlt_1, zlt_2, zlt_3, zlt_4, zlt_5, zlt_6, zlt_8, zlt_12, zlt_15, zlt_20, zlt_24, zlt_36, zlt_40, zlt_48, zlt_80, zlt_97, zlt_120, zlt_256, zlt_600, zlt_99999999, zadd_1, zadd_2, zadd_5, zadd_6, zadd_8, zadd_20, zadd_24, zeq_0, zeq_1, zeq_2, zeq_3, zeq_4, zeq_5, zeq_6, zeq_7, zeq_8, zeq_13, zeq_14, zeq_20, zeq_32, zeq_59, zeq_60, zeq_80, zmul_2, zmul_4, zmul_6, zmul_8, zmul_10, zmul_24, zsub_1, zsub_2, zsub_10, zsub_48, zsub_97, zle_0, zle_1, zle_2, zle_6, zle_11, zle_200, zle_600, zle_100000000, ylt_0, ylt_1, ylt_2, ylt_3, ylt_6, ylt_9, ylt_20, ylt_24, ylt_57, ylt_60, ylt_99, ylt_120, ylt_122, ylt_999, ylt_9999, yle_0, yle_2, yle_4, yle_5, yle_6, yle_7, yle_8, yle_10, yle_12, yle_13, yle_15, yle_16, yle_20, yle_24, yle_40, yle_60, yle_64, yle_80, yadd_1, yadd_22, ymul_2, ymul_4, ymul_6, ymul_8, ymul_10, ymul_24, ymul_27, ymul_100, ysub_1, ysub_24, zdiv_2, zdiv_4, zdiv_24, q0, q1, g4, g8, g13, xr_t]
      · obtain ⟨M1, e1, fr1, hB1, t1⟩ := m_start (MB_ref hC.1 1)
        have z0 := hB1.2.1.1
        have z1 := hB1.2.1.2.1
        have z2 := hB1.2.1.2.2.1
        have z3 := hB1.2.1.2.2.2.1
        have z26 := hB1.2.2.2.2.1
        refine (EX_in mi_X7_wakes rfl rfl rfl (ls := [some (.inr (.inr (40, 0))), some (.inl (nI j1)), some (.inl (a2))]) rfl).trans ?_
        have b0 := fun w q => x7_bad_0 L xs O (D := d + 1 + 1) (by omega) w q M1 t1
        have b1 : EX L xs (d + 1 + 1) q_X7_bad [.inr (.inr (40, 0)), .inl (1), .inl (1), .inl (1)] M1 O = (some (.inl (some (.inl (1))), refM M1 (nI 1) 1, O, 0, 0) : Res) := x7_bad_1 L xs O (by omega) 1 1 (by omega) (by decide) M1 t1
        have p0 := x7_isHouse_i L xs O (D := d + 1 + 1) (by omega) (by omega) j1 M1 z1 hj1
        have p1 := x7_isAir_o L xs O (D := d + 1 + 1) (by omega) (by omega) a2 M1 z26 c2
        simp (disch := first | omega | rfl | decide) only [e_X7_wakes_0, e_X7_wakes_11, e_X7_wakes_22, e_X7_wakes_19, e_X7_wakes_27, e_X7_wakes_32, e_X7_wakes_41, e_X7_wakes_47, xr_v, xr_n, hl_of, hl_cl, hl_toInt, hl_le, hl_lt, hl_eq, nI_add, hl_sub, pk_mul, hl_div, if_pos, if_neg, ↓reduceIte, Nat.reduceAdd, Nat.reduceSub, Nat.reduceMul, Nat.add_zero, Nat.zero_add, mp_s, mp_k, mp_i, mp_g, mr_s, mr_i, mr_g, zlt_0, zlt_1, zlt_2, zlt_3, zlt_4, zlt_5, zlt_6, zlt_8, zlt_12, zlt_15, zlt_20, zlt_24, zlt_36, zlt_40, zlt_48, zlt_80, zlt_97, zlt_120, zlt_256, zlt_600, zlt_99999999, zadd_1, zadd_2, zadd_5, zadd_6, zadd_8, zadd_20, zadd_24, zeq_0, zeq_1, zeq_2, zeq_3, zeq_4, zeq_5, zeq_6, zeq_7, zeq_8, zeq_13, zeq_14, zeq_20, zeq_32, zeq_59, zeq_60, zeq_80, zmul_2, zmul_4, zmul_6, zmul_8, zmul_10, zmul_24, zsub_1, zsub_2, zsub_10, zsub_48, zsub_97, zle_0, zle_1, zle_2, zle_6, zle_11, zle_200, zle_600, zle_100000000, ylt_0, ylt_1, ylt_2, ylt_3, ylt_6, ylt_9, ylt_20, ylt_24, ylt_57, ylt_60, ylt_99, ylt_120, ylt_122, ylt_999, ylt_9999, yle_0, yle_2, yle_4, yle_5, yle_6, yle_7, yle_8, yle_10, yle_12, yle_13, yle_15, yle_16, yle_20, yle_24, yle_40, yle_60, yle_64, yle_80, yadd_1, yadd_22, ymul_2, ymul_4, ymul_6, ymul_8, ymul_10, ymul_24, ymul_27, ymul_100, ysub_1, ysub_24, zdiv_2, zdiv_4, zdiv_24, e1, b0, b1, p0, p1, z2, z3, s1]
  · refine stp_r L xs O hC 1 1 (by omega) (by omega) (w_wakes_1 L xs O (a1) (a2) M _ ?_) (b := .inl 0) ?_
    · refine (EX_in mi_X6_wakes rfl rfl rfl (ls := [some (.inr (.inr (0, 0))), some (.inl (a1)), some (.inl (a2))]) rfl).trans ?_
      have q0 := x6_needHouse_out L xs O (D := d + 1) (by omega) (by omega) a1 M g4 c1
      simp (disch := first | omega | rfl | decide) only [e_X6_wakes_0, e_X6_wakes_5, e_X6_wakes_10, e_X6_wakes_16, xr_v, xr_n, hl_of, hl_cl, hl_toInt, hl_le, hl_lt, hl_eq, nI_add, hl_sub, pk_mul, hl_div, if_pos, if_neg, ↓reduceIte, Nat.reduceAdd, Nat.reduceSub, Nat.reduceMul, Nat.add_zero, Nat.zero_add, mp_s, mp_k, mp_i, mp_g, mr_s, mr_i, mr_g, zlt_0, zlt_1, zlt_2, zlt_3, zlt_4, zlt_5, zlt_6, zlt_8, zlt_12, zlt_15, zlt_20, zlt_24, zlt_36, zlt_40, zlt_48, zlt_80, zlt_97, zlt_120, zlt_256, zlt_600, zlt_99999999, zadd_1, zadd_2, zadd_5, zadd_6, zadd_8, zadd_20, zadd_24, zeq_0, zeq_1, zeq_2, zeq_3, zeq_4, zeq_5, zeq_6, zeq_7, zeq_8, zeq_13, zeq_14, zeq_20, zeq_32, zeq_59, zeq_60, zeq_80, zmul_2, zmul_4, zmul_6, zmul_8, zmul_10, zmul_24, zsub_1, zsub_2, zsub_10, zsub_48, zsub_97, zle_0, zle_1, zle_2, zle_6, zle_11, zle_200, zle_600, zle_100000000, ylt_0, ylt_1, ylt_2, ylt_3, ylt_6, ylt_9, ylt_20, ylt_24, ylt_57, ylt_60, ylt_99, ylt_120, ylt_122, ylt_999, ylt_9999, yle_0, yle_2, yle_4, yle_5, yle_6, yle_7, yle_8, yle_10, yle_12, yle_13, yle_15, yle_16, yle_20, yle_24, yle_40, yle_60, yle_64, yle_80, yadd_1, yadd_22, ymul_2, ymul_4, ymul_6, ymul_8, ymul_10, ymul_24, ymul_27, ymul_100, ysub_1, ysub_24, zdiv_2, zdiv_4, zdiv_24, q0, g4, g8, g13, xr_t]
    · obtain ⟨M1, e1, fr1, hB1, t1⟩ := m_start (MB_ref hC.1 1)
      have z0 := hB1.2.1.1
      have z1 := hB1.2.1.2.1
      have z2 := hB1.2.1.2.2.1
      have z3 := hB1.2.1.2.2.2.1
      have z26 := hB1.2.2.2.2.1
      refine (EX_in mi_X7_wakes rfl rfl rfl (ls := [some (.inr (.inr (40, 0))), some (.inl (a1)), some (.inl (a2))]) rfl).trans ?_
      have b0 := fun w q => x7_bad_0 L xs O (D := d + 1 + 1) (by omega) w q M1 t1
      have b1 : EX L xs (d + 1 + 1) q_X7_bad [.inr (.inr (40, 0)), .inl (1), .inl (1), .inl (1)] M1 O = (some (.inl (some (.inl (1))), refM M1 (nI 1) 1, O, 0, 0) : Res) := x7_bad_1 L xs O (by omega) 1 1 (by omega) (by decide) M1 t1
      have p0 := x7_isHouse_o L xs O (D := d + 1 + 1) (by omega) (by omega) a1 M1 z1 c1
      simp (disch := first | omega | rfl | decide) only [e_X7_wakes_0, e_X7_wakes_11, e_X7_wakes_22, e_X7_wakes_19, e_X7_wakes_27, e_X7_wakes_32, e_X7_wakes_41, e_X7_wakes_47, xr_v, xr_n, hl_of, hl_cl, hl_toInt, hl_le, hl_lt, hl_eq, nI_add, hl_sub, pk_mul, hl_div, if_pos, if_neg, ↓reduceIte, Nat.reduceAdd, Nat.reduceSub, Nat.reduceMul, Nat.add_zero, Nat.zero_add, mp_s, mp_k, mp_i, mp_g, mr_s, mr_i, mr_g, zlt_0, zlt_1, zlt_2, zlt_3, zlt_4, zlt_5, zlt_6, zlt_8, zlt_12, zlt_15, zlt_20, zlt_24, zlt_36, zlt_40, zlt_48, zlt_80, zlt_97, zlt_120, zlt_256, zlt_600, zlt_99999999, zadd_1, zadd_2, zadd_5, zadd_6, zadd_8, zadd_20, zadd_24, zeq_0, zeq_1, zeq_2, zeq_3, zeq_4, zeq_5, zeq_6, zeq_7, zeq_8, zeq_13, zeq_14, zeq_20, zeq_32, zeq_59, zeq_60, zeq_80, zmul_2, zmul_4, zmul_6, zmul_8, zmul_10, zmul_24, zsub_1, zsub_2, zsub_10, zsub_48, zsub_97, zle_0, zle_1, zle_2, zle_6, zle_11, zle_200, zle_600, zle_100000000, ylt_0, ylt_1, ylt_2, ylt_3, ylt_6, ylt_9, ylt_20, ylt_24, ylt_57, ylt_60, ylt_99, ylt_120, ylt_122, ylt_999, ylt_9999, yle_0, yle_2, yle_4, yle_5, yle_6, yle_7, yle_8, yle_10, yle_12, yle_13, yle_15, yle_16, yle_20, yle_24, yle_40, yle_60, yle_64, yle_80, yadd_1, yadd_22, ymul_2, ymul_4, ymul_6, ymul_8, ymul_10, ymul_24, ymul_27, ymul_100, ysub_1, ysub_24, zdiv_2, zdiv_4, zdiv_24, e1, b0, b1, p0, z2, z3, s1]
theorem s_badly {d : Nat} (hD : 11 ≤ d) (a1 : Int32) (M : Mem) (hI : INV M) : Stq L xs O (d + 1 + 1 + 1) q_L_badly q_X7_badly [.inl a1] M := by
  obtain ⟨T, As, n, nh, ns, nw, na, md, ia, ni, nt, mds, hC⟩ := hI
  have hM : CQ M (perfL T md.1 md.2.1) As n nh ns nw na M := ⟨Fr_refl, hC.2.1⟩
  have hV := hM.2.1
  have v5 : n ≤ 40 := hV.2.2.2.2.2.1
  have v6 : nh ≤ 8 := hV.2.2.2.2.2.2.1
  have v7 : ns ≤ 6 := hV.2.2.2.2.2.2.2.1
  have v8 : nw ≤ 8 := hV.2.2.2.2.2.2.2.2.1
  have h6 : na ≤ 6 := hM.2.2.2.2.1
  have g0 := (hM.2.2.1 3 0 rfl).trans hV.1
  have g4 := (hM.2.2.1 3 4 rfl).trans hV.2.1
  have g8 := (hM.2.2.1 3 8 rfl).trans hV.2.2.1
  have g13 := (hM.2.2.1 3 13 rfl).trans hV.2.2.2.1
  have g6 := hM.2.2.2.1
  have hp2 := pow_le8 (show ns ≤ 8 by omega)
  have s1 := shl1 ns (by omega)
  by_cases c1 : inN a1 nh
  · obtain ⟨j1, hj1, rfl⟩ := c1
    exact stp_q L xs O hC (c_badly L xs O (D := d + 1 + 1) (by omega) j1 hj1 M hM) (fun M1 h => w_badly_v L xs O (nI j1) _ M M1 h) (fun M1 O1 hB => m_badly L xs O1 (D := d + 1 + 1 + 1) (by omega) j1 hj1 M1 hB)
  · refine stp_r L xs O hC 1 1 (by omega) (by omega) (w_badly_1 L xs O (a1) M _ ?_) (b := .inl 0) ?_
    · refine (EX_in mi_X6_badly rfl rfl rfl (ls := [some (.inr (.inr (0, 0))), some (.inl (a1)), none, none]) rfl).trans ?_
      have q0 := x6_needHouse_out L xs O (D := d + 1) (by omega) (by omega) a1 M g4 c1
      simp (disch := first | omega | rfl | decide) only [e_X6_badly_0, e_X6_badly_5, e_X6_badly_9, e_X6_badly_23, e_X6_badly_39, xr_v, xr_n, hl_of, hl_cl, hl_toInt, hl_le, hl_lt, hl_eq, nI_add, hl_sub, pk_mul, hl_div, if_pos, if_neg, ↓reduceIte, Nat.reduceAdd, Nat.reduceSub, Nat.reduceMul, Nat.add_zero, Nat.zero_add, mp_s, mp_k, mp_i, mp_g, mr_s, mr_i, mr_g, zlt_0, zlt_1, zlt_2, zlt_3, zlt_4, zlt_5, zlt_6, zlt_8, zlt_12, zlt_15, zlt_20, zlt_24, zlt_36, zlt_40, zlt_48, zlt_80, zlt_97, zlt_120, zlt_256, zlt_600, zlt_99999999, zadd_1, zadd_2, zadd_5, zadd_6, zadd_8, zadd_20, zadd_24, zeq_0, zeq_1, zeq_2, zeq_3, zeq_4, zeq_5, zeq_6, zeq_7, zeq_8, zeq_13, zeq_14, zeq_20, zeq_32, zeq_59, zeq_60, zeq_80, zmul_2, zmul_4, zmul_6, zmul_8, zmul_10, zmul_24, zsub_1, zsub_2, zsub_10, zsub_48, zsub_97, zle_0, zle_1, zle_2, zle_6, zle_11, zle_200, zle_600, zle_100000000, ylt_0, ylt_1, ylt_2, ylt_3, ylt_6, ylt_9, ylt_20, ylt_24, ylt_57, ylt_60, ylt_99, ylt_120, ylt_122, ylt_999, ylt_9999, yle_0, yle_2, yle_4, yle_5, yle_6, yle_7, yle_8, yle_10, yle_12, yle_13, yle_15, yle_16, yle_20, yle_24, yle_40, yle_60, yle_64, yle_80, yadd_1, yadd_22, ymul_2, ymul_4, ymul_6, ymul_8, ymul_10, ymul_24, ymul_27, ymul_100, ysub_1, ysub_24, zdiv_2, zdiv_4, zdiv_24, q0, g4, g8, g13, xr_t]
    · obtain ⟨M1, e1, fr1, hB1, t1⟩ := m_start (MB_ref hC.1 1)
      have z0 := hB1.2.1.1
      have z1 := hB1.2.1.2.1
      have z2 := hB1.2.1.2.2.1
      have z3 := hB1.2.1.2.2.2.1
      have z26 := hB1.2.2.2.2.1
      refine (EX_in mi_X7_badly rfl rfl rfl (ls := [some (.inr (.inr (40, 0))), some (.inl (a1)), none, none]) rfl).trans ?_
      have b0 := fun w q => x7_bad_0 L xs O (D := d + 1 + 1) (by omega) w q M1 t1
      have b1 : EX L xs (d + 1 + 1) q_X7_bad [.inr (.inr (40, 0)), .inl (1), .inl (1), .inl (1)] M1 O = (some (.inl (some (.inl (1))), refM M1 (nI 1) 1, O, 0, 0) : Res) := x7_bad_1 L xs O (by omega) 1 1 (by omega) (by decide) M1 t1
      have p0 := x7_isHouse_o L xs O (D := d + 1 + 1) (by omega) (by omega) a1 M1 z1 c1
      simp (disch := first | omega | rfl | decide) only [e_X7_badly_0, e_X7_badly_11, e_X7_badly_19, e_X7_badly_24, e_X7_badly_33, e_X7_badly_37, e_X7_badly_52, e_X7_badly_69, xr_v, xr_n, hl_of, hl_cl, hl_toInt, hl_le, hl_lt, hl_eq, nI_add, hl_sub, pk_mul, hl_div, if_pos, if_neg, ↓reduceIte, Nat.reduceAdd, Nat.reduceSub, Nat.reduceMul, Nat.add_zero, Nat.zero_add, mp_s, mp_k, mp_i, mp_g, mr_s, mr_i, mr_g, zlt_0, zlt_1, zlt_2, zlt_3, zlt_4, zlt_5, zlt_6, zlt_8, zlt_12, zlt_15, zlt_20, zlt_24, zlt_36, zlt_40, zlt_48, zlt_80, zlt_97, zlt_120, zlt_256, zlt_600, zlt_99999999, zadd_1, zadd_2, zadd_5, zadd_6, zadd_8, zadd_20, zadd_24, zeq_0, zeq_1, zeq_2, zeq_3, zeq_4, zeq_5, zeq_6, zeq_7, zeq_8, zeq_13, zeq_14, zeq_20, zeq_32, zeq_59, zeq_60, zeq_80, zmul_2, zmul_4, zmul_6, zmul_8, zmul_10, zmul_24, zsub_1, zsub_2, zsub_10, zsub_48, zsub_97, zle_0, zle_1, zle_2, zle_6, zle_11, zle_200, zle_600, zle_100000000, ylt_0, ylt_1, ylt_2, ylt_3, ylt_6, ylt_9, ylt_20, ylt_24, ylt_57, ylt_60, ylt_99, ylt_120, ylt_122, ylt_999, ylt_9999, yle_0, yle_2, yle_4, yle_5, yle_6, yle_7, yle_8, yle_10, yle_12, yle_13, yle_15, yle_16, yle_20, yle_24, yle_40, yle_60, yle_64, yle_80, yadd_1, yadd_22, ymul_2, ymul_4, ymul_6, ymul_8, ymul_10, ymul_24, ymul_27, ymul_100, ysub_1, ysub_24, zdiv_2, zdiv_4, zdiv_24, e1, b0, b1, p0, z2, z3, s1]
theorem s_mean {d : Nat} (hD : 11 ≤ d) (a1 a2 : Int32) (M : Mem) (hI : INV M) : Stq L xs O (d + 1 + 1 + 1) q_L_mean q_X7_mean [.inl a1, .inl a2] M := by
  obtain ⟨T, As, n, nh, ns, nw, na, md, ia, ni, nt, mds, hC⟩ := hI
  have hM : CQ M (perfL T md.1 md.2.1) As n nh ns nw na M := ⟨Fr_refl, hC.2.1⟩
  have hV := hM.2.1
  have v5 : n ≤ 40 := hV.2.2.2.2.2.1
  have v6 : nh ≤ 8 := hV.2.2.2.2.2.2.1
  have v7 : ns ≤ 6 := hV.2.2.2.2.2.2.2.1
  have v8 : nw ≤ 8 := hV.2.2.2.2.2.2.2.2.1
  have h6 : na ≤ 6 := hM.2.2.2.2.1
  have g0 := (hM.2.2.1 3 0 rfl).trans hV.1
  have g4 := (hM.2.2.1 3 4 rfl).trans hV.2.1
  have g8 := (hM.2.2.1 3 8 rfl).trans hV.2.2.1
  have g13 := (hM.2.2.1 3 13 rfl).trans hV.2.2.2.1
  have g6 := hM.2.2.2.1
  have hp2 := pow_le8 (show ns ≤ 8 by omega)
  have s1 := shl1 ns (by omega)
  by_cases c1 : inN a1 nh
  · obtain ⟨j1, hj1, rfl⟩ := c1
    by_cases c2 : inN a2 24
    · obtain ⟨j2, hj2, rfl⟩ := c2
      exact stp_q L xs O hC (c_mean L xs O (D := d + 1 + 1) (by omega) j1 j2 hj1 hj2 M hM) (fun M1 h => w_mean_v L xs O (nI j1) (nI j2) _ M M1 h) (fun M1 O1 hB => m_mean L xs O1 (D := d + 1 + 1 + 1) (by omega) j1 j2 hj1 hj2 M1 hB)
    · refine stp_r L xs O hC 2 2 (by omega) (by omega) (w_mean_2 L xs O (nI j1) (a2) M _ ?_) (b := .inl 0) ?_
      · refine (EX_in mi_X6_mean rfl rfl rfl (ls := [some (.inr (.inr (0, 0))), some (.inl (nI j1)), some (.inl (a2))]) rfl).trans ?_
        have q0 := x6_needHouse_in L xs O (D := d + 1) (by omega) (by omega) j1 M g4 hj1
        have q1 := x6_needHour_out L xs O (D := d + 1) (by omega) a2 M c2
        simp (disch := first | omega | rfl | decide) only [e_X6_mean_0, e_X6_mean_5, e_X6_mean_10, e_X6_mean_16, xr_v, xr_n, hl_of, hl_cl, hl_toInt, hl_le, hl_lt, hl_eq, nI_add, hl_sub, pk_mul, hl_div, if_pos, if_neg, ↓reduceIte, Nat.reduceAdd, Nat.reduceSub, Nat.reduceMul, Nat.add_zero, Nat.zero_add, mp_s, mp_k, mp_i, mp_g, mr_s, mr_i, mr_g, zlt_0, zlt_1, zlt_2, zlt_3, zlt_4, zlt_5, zlt_6, zlt_8, zlt_12, zlt_15, zlt_20, zlt_24, zlt_36, zlt_40, zlt_48, zlt_80, zlt_97, zlt_120, zlt_256, zlt_600, zlt_99999999, zadd_1, zadd_2, zadd_5, zadd_6, zadd_8, zadd_20, zadd_24, zeq_0, zeq_1, zeq_2, zeq_3, zeq_4, zeq_5, zeq_6, zeq_7, zeq_8, zeq_13, zeq_14, zeq_20, zeq_32, zeq_59, zeq_60, zeq_80, zmul_2, zmul_4, zmul_6, zmul_8, zmul_10, zmul_24, zsub_1, zsub_2, zsub_10, zsub_48, zsub_97, zle_0, zle_1, zle_2, zle_6, zle_11, zle_200, zle_600, zle_100000000, ylt_0, ylt_1, ylt_2, ylt_3, ylt_6, ylt_9, ylt_20, ylt_24, ylt_57, ylt_60, ylt_99, ylt_120, ylt_122, ylt_999, ylt_9999, yle_0, yle_2, yle_4, yle_5, yle_6, yle_7, yle_8, yle_10, yle_12, yle_13, yle_15, yle_16, yle_20, yle_24, yle_40, yle_60, yle_64, yle_80, yadd_1, yadd_22, ymul_2, ymul_4, ymul_6, ymul_8, ymul_10, ymul_24, ymul_27, ymul_100, ysub_1, ysub_24, zdiv_2, zdiv_4, zdiv_24, q0, q1, g4, g8, g13, xr_t]
      · obtain ⟨M1, e1, fr1, hB1, t1⟩ := m_start (MB_ref hC.1 2)
        have z0 := hB1.2.1.1
        have z1 := hB1.2.1.2.1
        have z2 := hB1.2.1.2.2.1
        have z3 := hB1.2.1.2.2.2.1
        have z26 := hB1.2.2.2.2.1
        refine (EX_in mi_X7_mean rfl rfl rfl (ls := [some (.inr (.inr (40, 0))), some (.inl (nI j1)), some (.inl (a2))]) rfl).trans ?_
        have b0 := fun w q => x7_bad_0 L xs O (D := d + 1 + 1) (by omega) w q M1 t1
        have b1 : EX L xs (d + 1 + 1) q_X7_bad [.inr (.inr (40, 0)), .inl (1), .inl (2), .inl (2)] M1 O = (some (.inl (some (.inl (1))), refM M1 (nI 2) 2, O, 0, 0) : Res) := x7_bad_1 L xs O (by omega) 2 2 (by omega) (by decide) M1 t1
        have p0 := x7_isHouse_i L xs O (D := d + 1 + 1) (by omega) (by omega) j1 M1 z1 hj1
        have p1 := x7_isHour_o L xs O (D := d + 1 + 1) (by omega) a2 M1 c2
        simp (disch := first | omega | rfl | decide) only [e_X7_mean_0, e_X7_mean_11, e_X7_mean_19, e_X7_mean_24, e_X7_mean_32, e_X7_mean_48, e_X7_mean_40, e_X7_mean_45, e_X7_mean_54, e_X7_mean_60, xr_v, xr_n, hl_of, hl_cl, hl_toInt, hl_le, hl_lt, hl_eq, nI_add, hl_sub, pk_mul, hl_div, if_pos, if_neg, ↓reduceIte, Nat.reduceAdd, Nat.reduceSub, Nat.reduceMul, Nat.add_zero, Nat.zero_add, mp_s, mp_k, mp_i, mp_g, mr_s, mr_i, mr_g, zlt_0, zlt_1, zlt_2, zlt_3, zlt_4, zlt_5, zlt_6, zlt_8, zlt_12, zlt_15, zlt_20, zlt_24, zlt_36, zlt_40, zlt_48, zlt_80, zlt_97, zlt_120, zlt_256, zlt_600, zlt_99999999, zadd_1, zadd_2, zadd_5, zadd_6, zadd_8, zadd_20, zadd_24, zeq_0, zeq_1, zeq_2, zeq_3, zeq_4, zeq_5, zeq_6, zeq_7, zeq_8, zeq_13, zeq_14, zeq_20, zeq_32, zeq_59, zeq_60, zeq_80, zmul_2, zmul_4, zmul_6, zmul_8, zmul_10, zmul_24, zsub_1, zsub_2, zsub_10, zsub_48, zsub_97, zle_0, zle_1, zle_2, zle_6, zle_11, zle_200, zle_600, zle_100000000, ylt_0, ylt_1, ylt_2, ylt_3, ylt_6, ylt_9, ylt_20, ylt_24, ylt_57, ylt_60, ylt_99, ylt_120, ylt_122, ylt_999, ylt_9999, yle_0, yle_2, yle_4, yle_5, yle_6, yle_7, yle_8, yle_10, yle_12, yle_13, yle_15, yle_16, yle_20, yle_24, yle_40, yle_60, yle_64, yle_80, yadd_1, yadd_22, ymul_2, ymul_4, ymul_6, ymul_8, ymul_10, ymul_24, ymul_27, ymul_100, ysub_1, ysub_24, zdiv_2, zdiv_4, zdiv_24, e1, b0, b1, p0, p1, z2, z3, s1]
  · refine stp_r L xs O hC 1 1 (by omega) (by omega) (w_mean_1 L xs O (a1) (a2) M _ ?_) (b := .inl 0) ?_
    · refine (EX_in mi_X6_mean rfl rfl rfl (ls := [some (.inr (.inr (0, 0))), some (.inl (a1)), some (.inl (a2))]) rfl).trans ?_
      have q0 := x6_needHouse_out L xs O (D := d + 1) (by omega) (by omega) a1 M g4 c1
      simp (disch := first | omega | rfl | decide) only [e_X6_mean_0, e_X6_mean_5, e_X6_mean_10, e_X6_mean_16, xr_v, xr_n, hl_of, hl_cl, hl_toInt, hl_le, hl_lt, hl_eq, nI_add, hl_sub, pk_mul, hl_div, if_pos, if_neg, ↓reduceIte, Nat.reduceAdd, Nat.reduceSub, Nat.reduceMul, Nat.add_zero, Nat.zero_add, mp_s, mp_k, mp_i, mp_g, mr_s, mr_i, mr_g, zlt_0, zlt_1, zlt_2, zlt_3, zlt_4, zlt_5, zlt_6, zlt_8, zlt_12, zlt_15, zlt_20, zlt_24, zlt_36, zlt_40, zlt_48, zlt_80, zlt_97, zlt_120, zlt_256, zlt_600, zlt_99999999, zadd_1, zadd_2, zadd_5, zadd_6, zadd_8, zadd_20, zadd_24, zeq_0, zeq_1, zeq_2, zeq_3, zeq_4, zeq_5, zeq_6, zeq_7, zeq_8, zeq_13, zeq_14, zeq_20, zeq_32, zeq_59, zeq_60, zeq_80, zmul_2, zmul_4, zmul_6, zmul_8, zmul_10, zmul_24, zsub_1, zsub_2, zsub_10, zsub_48, zsub_97, zle_0, zle_1, zle_2, zle_6, zle_11, zle_200, zle_600, zle_100000000, ylt_0, ylt_1, ylt_2, ylt_3, ylt_6, ylt_9, ylt_20, ylt_24, ylt_57, ylt_60, ylt_99, ylt_120, ylt_122, ylt_999, ylt_9999, yle_0, yle_2, yle_4, yle_5, yle_6, yle_7, yle_8, yle_10, yle_12, yle_13, yle_15, yle_16, yle_20, yle_24, yle_40, yle_60, yle_64, yle_80, yadd_1, yadd_22, ymul_2, ymul_4, ymul_6, ymul_8, ymul_10, ymul_24, ymul_27, ymul_100, ysub_1, ysub_24, zdiv_2, zdiv_4, zdiv_24, q0, g4, g8, g13, xr_t]
    · obtain ⟨M1, e1, fr1, hB1, t1⟩ := m_start (MB_ref hC.1 1)
      have z0 := hB1.2.1.1
      have z1 := hB1.2.1.2.1
      have z2 := hB1.2.1.2.2.1
      have z3 := hB1.2.1.2.2.2.1
      have z26 := hB1.2.2.2.2.1
      refine (EX_in mi_X7_mean rfl rfl rfl (ls := [some (.inr (.inr (40, 0))), some (.inl (a1)), some (.inl (a2))]) rfl).trans ?_
      have b0 := fun w q => x7_bad_0 L xs O (D := d + 1 + 1) (by omega) w q M1 t1
      have b1 : EX L xs (d + 1 + 1) q_X7_bad [.inr (.inr (40, 0)), .inl (1), .inl (1), .inl (1)] M1 O = (some (.inl (some (.inl (1))), refM M1 (nI 1) 1, O, 0, 0) : Res) := x7_bad_1 L xs O (by omega) 1 1 (by omega) (by decide) M1 t1
      have p0 := x7_isHouse_o L xs O (D := d + 1 + 1) (by omega) (by omega) a1 M1 z1 c1
      simp (disch := first | omega | rfl | decide) only [e_X7_mean_0, e_X7_mean_11, e_X7_mean_19, e_X7_mean_24, e_X7_mean_32, e_X7_mean_48, e_X7_mean_40, e_X7_mean_45, e_X7_mean_54, e_X7_mean_60, xr_v, xr_n, hl_of, hl_cl, hl_toInt, hl_le, hl_lt, hl_eq, nI_add, hl_sub, pk_mul, hl_div, if_pos, if_neg, ↓reduceIte, Nat.reduceAdd, Nat.reduceSub, Nat.reduceMul, Nat.add_zero, Nat.zero_add, mp_s, mp_k, mp_i, mp_g, mr_s, mr_i, mr_g, zlt_0, zlt_1, zlt_2, zlt_3, zlt_4, zlt_5, zlt_6, zlt_8, zlt_12, zlt_15, zlt_20, zlt_24, zlt_36, zlt_40, zlt_48, zlt_80, zlt_97, zlt_120, zlt_256, zlt_600, zlt_99999999, zadd_1, zadd_2, zadd_5, zadd_6, zadd_8, zadd_20, zadd_24, zeq_0, zeq_1, zeq_2, zeq_3, zeq_4, zeq_5, zeq_6, zeq_7, zeq_8, zeq_13, zeq_14, zeq_20, zeq_32, zeq_59, zeq_60, zeq_80, zmul_2, zmul_4, zmul_6, zmul_8, zmul_10, zmul_24, zsub_1, zsub_2, zsub_10, zsub_48, zsub_97, zle_0, zle_1, zle_2, zle_6, zle_11, zle_200, zle_600, zle_100000000, ylt_0, ylt_1, ylt_2, ylt_3, ylt_6, ylt_9, ylt_20, ylt_24, ylt_57, ylt_60, ylt_99, ylt_120, ylt_122, ylt_999, ylt_9999, yle_0, yle_2, yle_4, yle_5, yle_6, yle_7, yle_8, yle_10, yle_12, yle_13, yle_15, yle_16, yle_20, yle_24, yle_40, yle_60, yle_64, yle_80, yadd_1, yadd_22, ymul_2, ymul_4, ymul_6, ymul_8, ymul_10, ymul_24, ymul_27, ymul_100, ysub_1, ysub_24, zdiv_2, zdiv_4, zdiv_24, e1, b0, b1, p0, z2, z3, s1]
theorem s_hides {d : Nat} (hD : 11 ≤ d) (a1 a2 a3 : Int32) (M : Mem) (hI : INV M) : Stq L xs O (d + 1 + 1 + 1) q_L_hides q_X7_hides [.inl a1, .inl a2, .inl a3] M := by
  obtain ⟨T, As, n, nh, ns, nw, na, md, ia, ni, nt, mds, hC⟩ := hI
  have hM : CQ M (perfL T md.1 md.2.1) As n nh ns nw na M := ⟨Fr_refl, hC.2.1⟩
  have hV := hM.2.1
  have v5 : n ≤ 40 := hV.2.2.2.2.2.1
  have v6 : nh ≤ 8 := hV.2.2.2.2.2.2.1
  have v7 : ns ≤ 6 := hV.2.2.2.2.2.2.2.1
  have v8 : nw ≤ 8 := hV.2.2.2.2.2.2.2.2.1
  have h6 : na ≤ 6 := hM.2.2.2.2.1
  have g0 := (hM.2.2.1 3 0 rfl).trans hV.1
  have g4 := (hM.2.2.1 3 4 rfl).trans hV.2.1
  have g8 := (hM.2.2.1 3 8 rfl).trans hV.2.2.1
  have g13 := (hM.2.2.1 3 13 rfl).trans hV.2.2.2.1
  have g6 := hM.2.2.2.1
  have hp2 := pow_le8 (show ns ≤ 8 by omega)
  have s1 := shl1 ns (by omega)
  by_cases c1 : inN a1 nh
  · obtain ⟨j1, hj1, rfl⟩ := c1
    by_cases c2 : inN a2 24
    · obtain ⟨j2, hj2, rfl⟩ := c2
      by_cases cl3 : a3 < 0
      · refine stp_r L xs O hC 2 2 (by omega) (by omega) (w_hides_2 L xs O (nI j1) (nI j2) (a3) M _ ?_) (b := .inl 0) ?_
        · refine (EX_in mi_X6_hides rfl rfl rfl (ls := [some (.inr (.inr (0, 0))), some (.inl (nI j1)), some (.inl (nI j2)), some (.inl (a3)), none, none]) rfl).trans ?_
          have q0 := x6_needHouse_in L xs O (D := d + 1) (by omega) (by omega) j1 M g4 hj1
          have q1 := x6_needHour_in L xs O (D := d + 1) (by omega) j2 M hj2
          have q2 := x6_needArg_0 L xs O (D := d + 1) (by omega) M
          have q3 := x6_needArg_1 L xs O (D := d + 1) (by omega) M
          simp (disch := first | omega | rfl | decide) only [e_X6_hides_0, e_X6_hides_5, e_X6_hides_10, e_X6_hides_25, e_X6_hides_26, e_X6_hides_29, e_X6_hides_38, e_X6_hides_48, e_X6_hides_73, e_X6_hides_86, xr_v, xr_n, hl_of, hl_cl, hl_toInt, hl_le, hl_lt, hl_eq, nI_add, hl_sub, pk_mul, hl_div, if_pos, if_neg, ↓reduceIte, Nat.reduceAdd, Nat.reduceSub, Nat.reduceMul, Nat.add_zero, Nat.zero_add, mp_s, mp_k, mp_i, mp_g, mr_s, mr_i, mr_g, zlt_0, zlt_1, zlt_2, zlt_3, zlt_4, zlt_5, zlt_6, zlt_8, zlt_12, zlt_15, zlt_20, zlt_24, zlt_36, zlt_40, zlt_48, zlt_80, zlt_97, zlt_120, zlt_256, zlt_600, zlt_99999999, zadd_1, zadd_2, zadd_5, zadd_6, zadd_8, zadd_20, zadd_24, zeq_0, zeq_1, zeq_2, zeq_3, zeq_4, zeq_5, zeq_6, zeq_7, zeq_8, zeq_13, zeq_14, zeq_20, zeq_32, zeq_59, zeq_60, zeq_80, zmul_2, zmul_4, zmul_6, zmul_8, zmul_10, zmul_24, zsub_1, zsub_2, zsub_10, zsub_48, zsub_97, zle_0, zle_1, zle_2, zle_6, zle_11, zle_200, zle_600, zle_100000000, ylt_0, ylt_1, ylt_2, ylt_3, ylt_6, ylt_9, ylt_20, ylt_24, ylt_57, ylt_60, ylt_99, ylt_120, ylt_122, ylt_999, ylt_9999, yle_0, yle_2, yle_4, yle_5, yle_6, yle_7, yle_8, yle_10, yle_12, yle_13, yle_15, yle_16, yle_20, yle_24, yle_40, yle_60, yle_64, yle_80, yadd_1, yadd_22, ymul_2, ymul_4, ymul_6, ymul_8, ymul_10, ymul_24, ymul_27, ymul_100, ysub_1, ysub_24, zdiv_2, zdiv_4, zdiv_24, q0, q1, q2, q3, cl3, g4, g8, g13, xr_t]
        · obtain ⟨M1, e1, fr1, hB1, t1⟩ := m_start (MB_ref hC.1 2)
          have z0 := hB1.2.1.1
          have z1 := hB1.2.1.2.1
          have z2 := hB1.2.1.2.2.1
          have z3 := hB1.2.1.2.2.2.1
          have z26 := hB1.2.2.2.2.1
          refine (EX_in mi_X7_hides rfl rfl rfl (ls := [some (.inr (.inr (40, 0))), some (.inl (nI j1)), some (.inl (nI j2)), some (.inl (a3)), none, none, none]) rfl).trans ?_
          have b0 := fun w q => x7_bad_0 L xs O (D := d + 1 + 1) (by omega) w q M1 t1
          have b1 : EX L xs (d + 1 + 1) q_X7_bad [.inr (.inr (40, 0)), .inl (1), .inl (2), .inl (2)] M1 O = (some (.inl (some (.inl (1))), refM M1 (nI 2) 2, O, 0, 0) : Res) := x7_bad_1 L xs O (by omega) 2 2 (by omega) (by decide) M1 t1
          have p0 := x7_isHouse_i L xs O (D := d + 1 + 1) (by omega) (by omega) j1 M1 z1 hj1
          have p1 := x7_isHour_i L xs O (D := d + 1 + 1) (by omega) j2 M1 hj2
          have p3 := x7_r_lo L xs O (D := d + 1 + 1) (by omega) a3 0 120 M1 cl3
          simp (disch := first | omega | rfl | decide) only [e_X7_hides_0, e_X7_hides_11, e_X7_hides_19, e_X7_hides_24, e_X7_hides_32, e_X7_hides_58, e_X7_hides_45, e_X7_hides_42, e_X7_hides_50, e_X7_hides_55, e_X7_hides_64, e_X7_hides_70, e_X7_hides_78, e_X7_hides_113, e_X7_hides_114, xr_v, xr_n, hl_of, hl_cl, hl_toInt, hl_le, hl_lt, hl_eq, nI_add, hl_sub, pk_mul, hl_div, if_pos, if_neg, ↓reduceIte, Nat.reduceAdd, Nat.reduceSub, Nat.reduceMul, Nat.add_zero, Nat.zero_add, mp_s, mp_k, mp_i, mp_g, mr_s, mr_i, mr_g, zlt_0, zlt_1, zlt_2, zlt_3, zlt_4, zlt_5, zlt_6, zlt_8, zlt_12, zlt_15, zlt_20, zlt_24, zlt_36, zlt_40, zlt_48, zlt_80, zlt_97, zlt_120, zlt_256, zlt_600, zlt_99999999, zadd_1, zadd_2, zadd_5, zadd_6, zadd_8, zadd_20, zadd_24, zeq_0, zeq_1, zeq_2, zeq_3, zeq_4, zeq_5, zeq_6, zeq_7, zeq_8, zeq_13, zeq_14, zeq_20, zeq_32, zeq_59, zeq_60, zeq_80, zmul_2, zmul_4, zmul_6, zmul_8, zmul_10, zmul_24, zsub_1, zsub_2, zsub_10, zsub_48, zsub_97, zle_0, zle_1, zle_2, zle_6, zle_11, zle_200, zle_600, zle_100000000, ylt_0, ylt_1, ylt_2, ylt_3, ylt_6, ylt_9, ylt_20, ylt_24, ylt_57, ylt_60, ylt_99, ylt_120, ylt_122, ylt_999, ylt_9999, yle_0, yle_2, yle_4, yle_5, yle_6, yle_7, yle_8, yle_10, yle_12, yle_13, yle_15, yle_16, yle_20, yle_24, yle_40, yle_60, yle_64, yle_80, yadd_1, yadd_22, ymul_2, ymul_4, ymul_6, ymul_8, ymul_10, ymul_24, ymul_27, ymul_100, ysub_1, ysub_24, zdiv_2, zdiv_4, zdiv_24, e1, b0, b1, p0, p1, p3, z2, z3, s1]
      · by_cases ch3 : 120 < a3
        · refine stp_r L xs O hC 2 2 (by omega) (by omega) (w_hides_2 L xs O (nI j1) (nI j2) (a3) M _ ?_) (b := .inl 0) ?_
          · refine (EX_in mi_X6_hides rfl rfl rfl (ls := [some (.inr (.inr (0, 0))), some (.inl (nI j1)), some (.inl (nI j2)), some (.inl (a3)), none, none]) rfl).trans ?_
            have q0 := x6_needHouse_in L xs O (D := d + 1) (by omega) (by omega) j1 M g4 hj1
            have q1 := x6_needHour_in L xs O (D := d + 1) (by omega) j2 M hj2
            have q2 := x6_needArg_0 L xs O (D := d + 1) (by omega) M
            have q3 := x6_needArg_1 L xs O (D := d + 1) (by omega) M
            simp (disch := first | omega | rfl | decide) only [e_X6_hides_0, e_X6_hides_5, e_X6_hides_10, e_X6_hides_25, e_X6_hides_26, e_X6_hides_29, e_X6_hides_38, e_X6_hides_48, e_X6_hides_73, e_X6_hides_86, xr_v, xr_n, hl_of, hl_cl, hl_toInt, hl_le, hl_lt, hl_eq, nI_add, hl_sub, pk_mul, hl_div, if_pos, if_neg, ↓reduceIte, Nat.reduceAdd, Nat.reduceSub, Nat.reduceMul, Nat.add_zero, Nat.zero_add, mp_s, mp_k, mp_i, mp_g, mr_s, mr_i, mr_g, zlt_0, zlt_1, zlt_2, zlt_3, zlt_4, zlt_5, zlt_6, zlt_8, zlt_12, zlt_15, zlt_20, zlt_24, zlt_36, zlt_40, zlt_48, zlt_80, zlt_97, zlt_120, zlt_256, zlt_600, zlt_99999999, zadd_1, zadd_2, zadd_5, zadd_6, zadd_8, zadd_20, zadd_24, zeq_0, zeq_1, zeq_2, zeq_3, zeq_4, zeq_5, zeq_6, zeq_7, zeq_8, zeq_13, zeq_14, zeq_20, zeq_32, zeq_59, zeq_60, zeq_80, zmul_2, zmul_4, zmul_6, zmul_8, zmul_10, zmul_24, zsub_1, zsub_2, zsub_10, zsub_48, zsub_97, zle_0, zle_1, zle_2, zle_6, zle_11, zle_200, zle_600, zle_100000000, ylt_0, ylt_1, ylt_2, ylt_3, ylt_6, ylt_9, ylt_20, ylt_24, ylt_57, ylt_60, ylt_99, ylt_120, ylt_122, ylt_999, ylt_9999, yle_0, yle_2, yle_4, yle_5, yle_6, yle_7, yle_8, yle_10, yle_12, yle_13, yle_15, yle_16, yle_20, yle_24, yle_40, yle_60, yle_64, yle_80, yadd_1, yadd_22, ymul_2, ymul_4, ymul_6, ymul_8, ymul_10, ymul_24, ymul_27, ymul_100, ysub_1, ysub_24, zdiv_2, zdiv_4, zdiv_24, q0, q1, q2, q3, cl3, ch3, g4, g8, g13, xr_t]
          · obtain ⟨M1, e1, fr1, hB1, t1⟩ := m_start (MB_ref hC.1 2)
            have z0 := hB1.2.1.1
            have z1 := hB1.2.1.2.1
            have z2 := hB1.2.1.2.2.1
            have z3 := hB1.2.1.2.2.2.1
            have z26 := hB1.2.2.2.2.1
            refine (EX_in mi_X7_hides rfl rfl rfl (ls := [some (.inr (.inr (40, 0))), some (.inl (nI j1)), some (.inl (nI j2)), some (.inl (a3)), none, none, none]) rfl).trans ?_
            have b0 := fun w q => x7_bad_0 L xs O (D := d + 1 + 1) (by omega) w q M1 t1
            have b1 : EX L xs (d + 1 + 1) q_X7_bad [.inr (.inr (40, 0)), .inl (1), .inl (2), .inl (2)] M1 O = (some (.inl (some (.inl (1))), refM M1 (nI 2) 2, O, 0, 0) : Res) := x7_bad_1 L xs O (by omega) 2 2 (by omega) (by decide) M1 t1
            have p0 := x7_isHouse_i L xs O (D := d + 1 + 1) (by omega) (by omega) j1 M1 z1 hj1
            have p1 := x7_isHour_i L xs O (D := d + 1 + 1) (by omega) j2 M1 hj2
            have p3 := x7_r_hi L xs O (D := d + 1 + 1) (by omega) a3 0 120 M1 ch3
            simp (disch := first | omega | rfl | decide) only [e_X7_hides_0, e_X7_hides_11, e_X7_hides_19, e_X7_hides_24, e_X7_hides_32, e_X7_hides_58, e_X7_hides_45, e_X7_hides_42, e_X7_hides_50, e_X7_hides_55, e_X7_hides_64, e_X7_hides_70, e_X7_hides_78, e_X7_hides_113, e_X7_hides_114, xr_v, xr_n, hl_of, hl_cl, hl_toInt, hl_le, hl_lt, hl_eq, nI_add, hl_sub, pk_mul, hl_div, if_pos, if_neg, ↓reduceIte, Nat.reduceAdd, Nat.reduceSub, Nat.reduceMul, Nat.add_zero, Nat.zero_add, mp_s, mp_k, mp_i, mp_g, mr_s, mr_i, mr_g, zlt_0, zlt_1, zlt_2, zlt_3, zlt_4, zlt_5, zlt_6, zlt_8, zlt_12, zlt_15, zlt_20, zlt_24, zlt_36, zlt_40, zlt_48, zlt_80, zlt_97, zlt_120, zlt_256, zlt_600, zlt_99999999, zadd_1, zadd_2, zadd_5, zadd_6, zadd_8, zadd_20, zadd_24, zeq_0, zeq_1, zeq_2, zeq_3, zeq_4, zeq_5, zeq_6, zeq_7, zeq_8, zeq_13, zeq_14, zeq_20, zeq_32, zeq_59, zeq_60, zeq_80, zmul_2, zmul_4, zmul_6, zmul_8, zmul_10, zmul_24, zsub_1, zsub_2, zsub_10, zsub_48, zsub_97, zle_0, zle_1, zle_2, zle_6, zle_11, zle_200, zle_600, zle_100000000, ylt_0, ylt_1, ylt_2, ylt_3, ylt_6, ylt_9, ylt_20, ylt_24, ylt_57, ylt_60, ylt_99, ylt_120, ylt_122, ylt_999, ylt_9999, yle_0, yle_2, yle_4, yle_5, yle_6, yle_7, yle_8, yle_10, yle_12, yle_13, yle_15, yle_16, yle_20, yle_24, yle_40, yle_60, yle_64, yle_80, yadd_1, yadd_22, ymul_2, ymul_4, ymul_6, ymul_8, ymul_10, ymul_24, ymul_27, ymul_100, ysub_1, ysub_24, zdiv_2, zdiv_4, zdiv_24, e1, b0, b1, p0, p1, p3, z2, z3, s1]
        · exact stp_q L xs O hC (c_hides L xs O (D := d + 1 + 1) (by omega) j1 j2 a3 hj1 hj2 cl3 ch3 M hM) (fun M1 h => w_hides_v L xs O (nI j1) (nI j2) (a3) _ M M1 h) (fun M1 O1 hB => m_hides L xs O1 (D := d + 1 + 1 + 1) (by omega) j1 j2 a3 hj1 hj2 cl3 ch3 M1 hB)
    · refine stp_r L xs O hC 2 2 (by omega) (by omega) (w_hides_2 L xs O (nI j1) (a2) (a3) M _ ?_) (b := .inl 0) ?_
      · refine (EX_in mi_X6_hides rfl rfl rfl (ls := [some (.inr (.inr (0, 0))), some (.inl (nI j1)), some (.inl (a2)), some (.inl (a3)), none, none]) rfl).trans ?_
        have q0 := x6_needHouse_in L xs O (D := d + 1) (by omega) (by omega) j1 M g4 hj1
        have q1 := x6_needHour_out L xs O (D := d + 1) (by omega) a2 M c2
        simp (disch := first | omega | rfl | decide) only [e_X6_hides_0, e_X6_hides_5, e_X6_hides_10, e_X6_hides_25, e_X6_hides_26, e_X6_hides_29, e_X6_hides_38, e_X6_hides_48, e_X6_hides_73, e_X6_hides_86, xr_v, xr_n, hl_of, hl_cl, hl_toInt, hl_le, hl_lt, hl_eq, nI_add, hl_sub, pk_mul, hl_div, if_pos, if_neg, ↓reduceIte, Nat.reduceAdd, Nat.reduceSub, Nat.reduceMul, Nat.add_zero, Nat.zero_add, mp_s, mp_k, mp_i, mp_g, mr_s, mr_i, mr_g, zlt_0, zlt_1, zlt_2, zlt_3, zlt_4, zlt_5, zlt_6, zlt_8, zlt_12, zlt_15, zlt_20, zlt_24, zlt_36, zlt_40, zlt_48, zlt_80, zlt_97, zlt_120, zlt_256, zlt_600, zlt_99999999, zadd_1, zadd_2, zadd_5, zadd_6, zadd_8, zadd_20, zadd_24, zeq_0, zeq_1, zeq_2, zeq_3, zeq_4, zeq_5, zeq_6, zeq_7, zeq_8, zeq_13, zeq_14, zeq_20, zeq_32, zeq_59, zeq_60, zeq_80, zmul_2, zmul_4, zmul_6, zmul_8, zmul_10, zmul_24, zsub_1, zsub_2, zsub_10, zsub_48, zsub_97, zle_0, zle_1, zle_2, zle_6, zle_11, zle_200, zle_600, zle_100000000, ylt_0, ylt_1, ylt_2, ylt_3, ylt_6, ylt_9, ylt_20, ylt_24, ylt_57, ylt_60, ylt_99, ylt_120, ylt_122, ylt_999, ylt_9999, yle_0, yle_2, yle_4, yle_5, yle_6, yle_7, yle_8, yle_10, yle_12, yle_13, yle_15, yle_16, yle_20, yle_24, yle_40, yle_60, yle_64, yle_80, yadd_1, yadd_22, ymul_2, ymul_4, ymul_6, ymul_8, ymul_10, ymul_24, ymul_27, ymul_100, ysub_1, ysub_24, zdiv_2, zdiv_4, zdiv_24, q0, q1, g4, g8, g13, xr_t]
      · obtain ⟨M1, e1, fr1, hB1, t1⟩ := m_start (MB_ref hC.1 2)
        have z0 := hB1.2.1.1
        have z1 := hB1.2.1.2.1
        have z2 := hB1.2.1.2.2.1
        have z3 := hB1.2.1.2.2.2.1
        have z26 := hB1.2.2.2.2.1
        refine (EX_in mi_X7_hides rfl rfl rfl (ls := [some (.inr (.inr (40, 0))), some (.inl (nI j1)), some (.inl (a2)), some (.inl (a3)), none, none, none]) rfl).trans ?_
        have b0 := fun w q => x7_bad_0 L xs O (D := d + 1 + 1) (by omega) w q M1 t1
        have b1 : EX L xs (d + 1 + 1) q_X7_bad [.inr (.inr (40, 0)), .inl (1), .inl (2), .inl (2)] M1 O = (some (.inl (some (.inl (1))), refM M1 (nI 2) 2, O, 0, 0) : Res) := x7_bad_1 L xs O (by omega) 2 2 (by omega) (by decide) M1 t1
        have p0 := x7_isHouse_i L xs O (D := d + 1 + 1) (by omega) (by omega) j1 M1 z1 hj1
        have p1 := x7_isHour_o L xs O (D := d + 1 + 1) (by omega) a2 M1 c2
        simp (disch := first | omega | rfl | decide) only [e_X7_hides_0, e_X7_hides_11, e_X7_hides_19, e_X7_hides_24, e_X7_hides_32, e_X7_hides_58, e_X7_hides_45, e_X7_hides_42, e_X7_hides_50, e_X7_hides_55, e_X7_hides_64, e_X7_hides_70, e_X7_hides_78, e_X7_hides_113, e_X7_hides_114, xr_v, xr_n, hl_of, hl_cl, hl_toInt, hl_le, hl_lt, hl_eq, nI_add, hl_sub, pk_mul, hl_div, if_pos, if_neg, ↓reduceIte, Nat.reduceAdd, Nat.reduceSub, Nat.reduceMul, Nat.add_zero, Nat.zero_add, mp_s, mp_k, mp_i, mp_g, mr_s, mr_i, mr_g, zlt_0, zlt_1, zlt_2, zlt_3, zlt_4, zlt_5, zlt_6, zlt_8, zlt_12, zlt_15, zlt_20, zlt_24, zlt_36, zlt_40, zlt_48, zlt_80, zlt_97, zlt_120, zlt_256, zlt_600, zlt_99999999, zadd_1, zadd_2, zadd_5, zadd_6, zadd_8, zadd_20, zadd_24, zeq_0, zeq_1, zeq_2, zeq_3, zeq_4, zeq_5, zeq_6, zeq_7, zeq_8, zeq_13, zeq_14, zeq_20, zeq_32, zeq_59, zeq_60, zeq_80, zmul_2, zmul_4, zmul_6, zmul_8, zmul_10, zmul_24, zsub_1, zsub_2, zsub_10, zsub_48, zsub_97, zle_0, zle_1, zle_2, zle_6, zle_11, zle_200, zle_600, zle_100000000, ylt_0, ylt_1, ylt_2, ylt_3, ylt_6, ylt_9, ylt_20, ylt_24, ylt_57, ylt_60, ylt_99, ylt_120, ylt_122, ylt_999, ylt_9999, yle_0, yle_2, yle_4, yle_5, yle_6, yle_7, yle_8, yle_10, yle_12, yle_13, yle_15, yle_16, yle_20, yle_24, yle_40, yle_60, yle_64, yle_80, yadd_1, yadd_22, ymul_2, ymul_4, ymul_6, ymul_8, ymul_10, ymul_24, ymul_27, ymul_100, ysub_1, ysub_24, zdiv_2, zdiv_4, zdiv_24, e1, b0, b1, p0, p1, z2, z3, s1]
  · refine stp_r L xs O hC 1 1 (by omega) (by omega) (w_hides_1 L xs O (a1) (a2) (a3) M _ ?_) (b := .inl 0) ?_
    · refine (EX_in mi_X6_hides rfl rfl rfl (ls := [some (.inr (.inr (0, 0))), some (.inl (a1)), some (.inl (a2)), some (.inl (a3)), none, none]) rfl).trans ?_
      have q0 := x6_needHouse_out L xs O (D := d + 1) (by omega) (by omega) a1 M g4 c1
      simp (disch := first | omega | rfl | decide) only [e_X6_hides_0, e_X6_hides_5, e_X6_hides_10, e_X6_hides_25, e_X6_hides_26, e_X6_hides_29, e_X6_hides_38, e_X6_hides_48, e_X6_hides_73, e_X6_hides_86, xr_v, xr_n, hl_of, hl_cl, hl_toInt, hl_le, hl_lt, hl_eq, nI_add, hl_sub, pk_mul, hl_div, if_pos, if_neg, ↓reduceIte, Nat.reduceAdd, Nat.reduceSub, Nat.reduceMul, Nat.add_zero, Nat.zero_add, mp_s, mp_k, mp_i, mp_g, mr_s, mr_i, mr_g, zlt_0, zlt_1, zlt_2, zlt_3, zlt_4, zlt_5, zlt_6, zlt_8, zlt_12, zlt_15, zlt_20, zlt_24, zlt_36, zlt_40, zlt_48, zlt_80, zlt_97, zlt_120, zlt_256, zlt_600, zlt_99999999, zadd_1, zadd_2, zadd_5, zadd_6, zadd_8, zadd_20, zadd_24, zeq_0, zeq_1, zeq_2, zeq_3, zeq_4, zeq_5, zeq_6, zeq_7, zeq_8, zeq_13, zeq_14, zeq_20, zeq_32, zeq_59, zeq_60, zeq_80, zmul_2, zmul_4, zmul_6, zmul_8, zmul_10, zmul_24, zsub_1, zsub_2, zsub_10, zsub_48, zsub_97, zle_0, zle_1, zle_2, zle_6, zle_11, zle_200, zle_600, zle_100000000, ylt_0, ylt_1, ylt_2, ylt_3, ylt_6, ylt_9, ylt_20, ylt_24, ylt_57, ylt_60, ylt_99, ylt_120, ylt_122, ylt_999, ylt_9999, yle_0, yle_2, yle_4, yle_5, yle_6, yle_7, yle_8, yle_10, yle_12, yle_13, yle_15, yle_16, yle_20, yle_24, yle_40, yle_60, yle_64, yle_80, yadd_1, yadd_22, ymul_2, ymul_4, ymul_6, ymul_8, ymul_10, ymul_24, ymul_27, ymul_100, ysub_1, ysub_24, zdiv_2, zdiv_4, zdiv_24, q0, g4, g8, g13, xr_t]
    · obtain ⟨M1, e1, fr1, hB1, t1⟩ := m_start (MB_ref hC.1 1)
      have z0 := hB1.2.1.1
      have z1 := hB1.2.1.2.1
      have z2 := hB1.2.1.2.2.1
      have z3 := hB1.2.1.2.2.2.1
      have z26 := hB1.2.2.2.2.1
      refine (EX_in mi_X7_hides rfl rfl rfl (ls := [some (.inr (.inr (40, 0))), some (.inl (a1)), some (.inl (a2)), some (.inl (a3)), none, none, none]) rfl).trans ?_
      have b0 := fun w q => x7_bad_0 L xs O (D := d + 1 + 1) (by omega) w q M1 t1
      have b1 : EX L xs (d + 1 + 1) q_X7_bad [.inr (.inr (40, 0)), .inl (1), .inl (1), .inl (1)] M1 O = (some (.inl (some (.inl (1))), refM M1 (nI 1) 1, O, 0, 0) : Res) := x7_bad_1 L xs O (by omega) 1 1 (by omega) (by decide) M1 t1
      have p0 := x7_isHouse_o L xs O (D := d + 1 + 1) (by omega) (by omega) a1 M1 z1 c1
      simp (disch := first | omega | rfl | decide) only [e_X7_hides_0, e_X7_hides_11, e_X7_hides_19, e_X7_hides_24, e_X7_hides_32, e_X7_hides_58, e_X7_hides_45, e_X7_hides_42, e_X7_hides_50, e_X7_hides_55, e_X7_hides_64, e_X7_hides_70, e_X7_hides_78, e_X7_hides_113, e_X7_hides_114, xr_v, xr_n, hl_of, hl_cl, hl_toInt, hl_le, hl_lt, hl_eq, nI_add, hl_sub, pk_mul, hl_div, if_pos, if_neg, ↓reduceIte, Nat.reduceAdd, Nat.reduceSub, Nat.reduceMul, Nat.add_zero, Nat.zero_add, mp_s, mp_k, mp_i, mp_g, mr_s, mr_i, mr_g, zlt_0, zlt_1, zlt_2, zlt_3, zlt_4, zlt_5, zlt_6, zlt_8, zlt_12, zlt_15, zlt_20, zlt_24, zlt_36, zlt_40, zlt_48, zlt_80, zlt_97, zlt_120, zlt_256, zlt_600, zlt_99999999, zadd_1, zadd_2, zadd_5, zadd_6, zadd_8, zadd_20, zadd_24, zeq_0, zeq_1, zeq_2, zeq_3, zeq_4, zeq_5, zeq_6, zeq_7, zeq_8, zeq_13, zeq_14, zeq_20, zeq_32, zeq_59, zeq_60, zeq_80, zmul_2, zmul_4, zmul_6, zmul_8, zmul_10, zmul_24, zsub_1, zsub_2, zsub_10, zsub_48, zsub_97, zle_0, zle_1, zle_2, zle_6, zle_11, zle_200, zle_600, zle_100000000, ylt_0, ylt_1, ylt_2, ylt_3, ylt_6, ylt_9, ylt_20, ylt_24, ylt_57, ylt_60, ylt_99, ylt_120, ylt_122, ylt_999, ylt_9999, yle_0, yle_2, yle_4, yle_5, yle_6, yle_7, yle_8, yle_10, yle_12, yle_13, yle_15, yle_16, yle_20, yle_24, yle_40, yle_60, yle_64, yle_80, yadd_1, yadd_22, ymul_2, ymul_4, ymul_6, ymul_8, ymul_10, ymul_24, ymul_27, ymul_100, ysub_1, ysub_24, zdiv_2, zdiv_4, zdiv_24, e1, b0, b1, p0, z2, z3, s1]
theorem s_least {d : Nat} (hD : 11 ≤ d) (a1 a2 a3 a4 : Int32) (M : Mem) (hI : INV M) : Stq L xs O (d + 1 + 1 + 1) q_L_least q_X7_least [.inl a1, .inl a2, .inl a3, .inl a4] M := by
  obtain ⟨T, As, n, nh, ns, nw, na, md, ia, ni, nt, mds, hC⟩ := hI
  have hM : CQ M (perfL T md.1 md.2.1) As n nh ns nw na M := ⟨Fr_refl, hC.2.1⟩
  have hV := hM.2.1
  have v5 : n ≤ 40 := hV.2.2.2.2.2.1
  have v6 : nh ≤ 8 := hV.2.2.2.2.2.2.1
  have v7 : ns ≤ 6 := hV.2.2.2.2.2.2.2.1
  have v8 : nw ≤ 8 := hV.2.2.2.2.2.2.2.2.1
  have h6 : na ≤ 6 := hM.2.2.2.2.1
  have g0 := (hM.2.2.1 3 0 rfl).trans hV.1
  have g4 := (hM.2.2.1 3 4 rfl).trans hV.2.1
  have g8 := (hM.2.2.1 3 8 rfl).trans hV.2.2.1
  have g13 := (hM.2.2.1 3 13 rfl).trans hV.2.2.2.1
  have g6 := hM.2.2.2.1
  have hp2 := pow_le8 (show ns ≤ 8 by omega)
  have s1 := shl1 ns (by omega)
  have hO : CO M md.1 md.2.1 nw := ⟨hC.2.2.2.2.1.2.1.1, hC.2.2.2.2.1.1.1, fun i hi => ⟨hC.2.2.2.2.1.2.1.2.1 i hi, hC.2.2.2.2.1.1.2.1 i hi⟩⟩
  by_cases c1 : inN a1 na
  · obtain ⟨j1, hj1, rfl⟩ := c1
    by_cases c2 : inN a2 24
    · obtain ⟨j2, hj2, rfl⟩ := c2
      by_cases c3 : inN a3 (2 ^ nh)
      · by_cases c4 : inN a4 2
        · obtain ⟨j4, hj4, rfl⟩ := c4
          exact stp_q L xs O hC (c_least L xs O (D := d + 1 + 1) (by omega) hO j1 j2 j4 a3 hj1 hj2 c3 hj4 M hM) (fun M1 h => w_least_v L xs O (nI j1) (nI j2) (a3) (nI j4) _ M M1 h) (fun M1 O1 hB => m_least L xs O1 (D := d + 1 + 1 + 1) (by omega) j1 j2 j4 a3 hj1 hj2 c3 hj4 M1 hB)
        · refine stp_r L xs O hC 2 2 (by omega) (by omega) (w_least_2 L xs O (nI j1) (nI j2) (a3) (a4) M _ ?_) (b := .inl 0) ?_
          · refine (EX_in mi_X6_least rfl rfl rfl (ls := [some (.inr (.inr (0, 0))), some (.inl (nI j1)), some (.inl (nI j2)), some (.inl (a3)), some (.inl (a4)), none]) rfl).trans ?_
            have q0 := x6_needAir_in L xs O (D := d + 1) (by omega) (by omega) j1 M g6 hj1
            have q1 := x6_needHour_in L xs O (D := d + 1) (by omega) j2 M hj2
            have q2 := x6_needBits_in L xs O (D := d + 1) (by omega) nh v6 a3 M c3
            have q3 := x6_w2_out L xs O (D := d + 1) (by omega) a4 M c4
            simp (disch := first | omega | rfl | decide) only [e_X6_least_0, e_X6_least_5, e_X6_least_10, e_X6_least_22, e_X6_least_29, e_X6_least_36, e_X6_least_50, e_X6_least_64, xr_v, xr_n, hl_of, hl_cl, hl_toInt, hl_le, hl_lt, hl_eq, nI_add, hl_sub, pk_mul, hl_div, if_pos, if_neg, ↓reduceIte, Nat.reduceAdd, Nat.reduceSub, Nat.reduceMul, Nat.add_zero, Nat.zero_add, mp_s, mp_k, mp_i, mp_g, mr_s, mr_i, mr_g, zlt_0, zlt_1, zlt_2, zlt_3, zlt_4, zlt_5, zlt_6, zlt_8, zlt_12, zlt_15, zlt_20, zlt_24, zlt_36, zlt_40, zlt_48, zlt_80, zlt_97, zlt_120, zlt_256, zlt_600, zlt_99999999, zadd_1, zadd_2, zadd_5, zadd_6, zadd_8, zadd_20, zadd_24, zeq_0, zeq_1, zeq_2, zeq_3, zeq_4, zeq_5, zeq_6, zeq_7, zeq_8, zeq_13, zeq_14, zeq_20, zeq_32, zeq_59, zeq_60, zeq_80, zmul_2, zmul_4, zmul_6, zmul_8, zmul_10, zmul_24, zsub_1, zsub_2, zsub_10, zsub_48, zsub_97, zle_0, zle_1, zle_2, zle_6, zle_11, zle_200, zle_600, zle_100000000, ylt_0, ylt_1, ylt_2, ylt_3, ylt_6, ylt_9, ylt_20, ylt_24, ylt_57, ylt_60, ylt_99, ylt_120, ylt_122, ylt_999, ylt_9999, yle_0, yle_2, yle_4, yle_5, yle_6, yle_7, yle_8, yle_10, yle_12, yle_13, yle_15, yle_16, yle_20, yle_24, yle_40, yle_60, yle_64, yle_80, yadd_1, yadd_22, ymul_2, ymul_4, ymul_6, ymul_8, ymul_10, ymul_24, ymul_27, ymul_100, ysub_1, ysub_24, zdiv_2, zdiv_4, zdiv_24, q0, q1, q2, q3, g4, g8, g13, xr_t]
          · obtain ⟨M1, e1, fr1, hB1, t1⟩ := m_start (MB_ref hC.1 2)
            have z0 := hB1.2.1.1
            have z1 := hB1.2.1.2.1
            have z2 := hB1.2.1.2.2.1
            have z3 := hB1.2.1.2.2.2.1
            have z26 := hB1.2.2.2.2.1
            refine (EX_in mi_X7_least rfl rfl rfl (ls := [some (.inr (.inr (40, 0))), some (.inl (nI j1)), some (.inl (nI j2)), some (.inl (a3)), some (.inl (a4))]) rfl).trans ?_
            have b0 := fun w q => x7_bad_0 L xs O (D := d + 1 + 1) (by omega) w q M1 t1
            have b1 : EX L xs (d + 1 + 1) q_X7_bad [.inr (.inr (40, 0)), .inl (1), .inl (2), .inl (2)] M1 O = (some (.inl (some (.inl (1))), refM M1 (nI 2) 2, O, 0, 0) : Res) := x7_bad_1 L xs O (by omega) 2 2 (by omega) (by decide) M1 t1
            have p0 := x7_isAir_i L xs O (D := d + 1 + 1) (by omega) (by omega) j1 M1 z26 hj1
            have p1 := x7_isHour_i L xs O (D := d + 1 + 1) (by omega) j2 M1 hj2
            have p2 := x7_bits_i L xs O (D := d + 1 + 1) (by omega) v6 a3 M1 z1 c3
            have p3 := x7_i2_out L xs O (D := d + 1 + 1) (by omega) a4 M1 c4
            simp (disch := first | omega | rfl | decide) only [e_X7_least_0, e_X7_least_11, e_X7_least_19, e_X7_least_24, e_X7_least_32, e_X7_least_66, e_X7_least_53, e_X7_least_40, e_X7_least_58, e_X7_least_50, e_X7_least_63, e_X7_least_75, e_X7_least_91, xr_v, xr_n, hl_of, hl_cl, hl_toInt, hl_le, hl_lt, hl_eq, nI_add, hl_sub, pk_mul, hl_div, if_pos, if_neg, ↓reduceIte, Nat.reduceAdd, Nat.reduceSub, Nat.reduceMul, Nat.add_zero, Nat.zero_add, mp_s, mp_k, mp_i, mp_g, mr_s, mr_i, mr_g, zlt_0, zlt_1, zlt_2, zlt_3, zlt_4, zlt_5, zlt_6, zlt_8, zlt_12, zlt_15, zlt_20, zlt_24, zlt_36, zlt_40, zlt_48, zlt_80, zlt_97, zlt_120, zlt_256, zlt_600, zlt_99999999, zadd_1, zadd_2, zadd_5, zadd_6, zadd_8, zadd_20, zadd_24, zeq_0, zeq_1, zeq_2, zeq_3, zeq_4, zeq_5, zeq_6, zeq_7, zeq_8, zeq_13, zeq_14, zeq_20, zeq_32, zeq_59, zeq_60, zeq_80, zmul_2, zmul_4, zmul_6, zmul_8, zmul_10, zmul_24, zsub_1, zsub_2, zsub_10, zsub_48, zsub_97, zle_0, zle_1, zle_2, zle_6, zle_11, zle_200, zle_600, zle_100000000, ylt_0, ylt_1, ylt_2, ylt_3, ylt_6, ylt_9, ylt_20, ylt_24, ylt_57, ylt_60, ylt_99, ylt_120, ylt_122, ylt_999, ylt_9999, yle_0, yle_2, yle_4, yle_5, yle_6, yle_7, yle_8, yle_10, yle_12, yle_13, yle_15, yle_16, yle_20, yle_24, yle_40, yle_60, yle_64, yle_80, yadd_1, yadd_22, ymul_2, ymul_4, ymul_6, ymul_8, ymul_10, ymul_24, ymul_27, ymul_100, ysub_1, ysub_24, zdiv_2, zdiv_4, zdiv_24, e1, b0, b1, p0, p1, p2, p3, z2, z3, s1]
      · refine stp_r L xs O hC 2 2 (by omega) (by omega) (w_least_2 L xs O (nI j1) (nI j2) (a3) (a4) M _ ?_) (b := .inl 0) ?_
        · refine (EX_in mi_X6_least rfl rfl rfl (ls := [some (.inr (.inr (0, 0))), some (.inl (nI j1)), some (.inl (nI j2)), some (.inl (a3)), some (.inl (a4)), none]) rfl).trans ?_
          have q0 := x6_needAir_in L xs O (D := d + 1) (by omega) (by omega) j1 M g6 hj1
          have q1 := x6_needHour_in L xs O (D := d + 1) (by omega) j2 M hj2
          have q2 := x6_needBits_out L xs O (D := d + 1) (by omega) nh v6 a3 M c3
          simp (disch := first | omega | rfl | decide) only [e_X6_least_0, e_X6_least_5, e_X6_least_10, e_X6_least_22, e_X6_least_29, e_X6_least_36, e_X6_least_50, e_X6_least_64, xr_v, xr_n, hl_of, hl_cl, hl_toInt, hl_le, hl_lt, hl_eq, nI_add, hl_sub, pk_mul, hl_div, if_pos, if_neg, ↓reduceIte, Nat.reduceAdd, Nat.reduceSub, Nat.reduceMul, Nat.add_zero, Nat.zero_add, mp_s, mp_k, mp_i, mp_g, mr_s, mr_i, mr_g, zlt_0, zlt_1, zlt_2, zlt_3, zlt_4, zlt_5, zlt_6, zlt_8, zlt_12, zlt_15, zlt_20, zlt_24, zlt_36, zlt_40, zlt_48, zlt_80, zlt_97, zlt_120, zlt_256, zlt_600, zlt_99999999, zadd_1, zadd_2, zadd_5, zadd_6, zadd_8, zadd_20, zadd_24, zeq_0, zeq_1, zeq_2, zeq_3, zeq_4, zeq_5, zeq_6, zeq_7, zeq_8, zeq_13, zeq_14, zeq_20, zeq_32, zeq_59, zeq_60, zeq_80, zmul_2, zmul_4, zmul_6, zmul_8, zmul_10, zmul_24, zsub_1, zsub_2, zsub_10, zsub_48, zsub_97, zle_0, zle_1, zle_2, zle_6, zle_11, zle_200, zle_600, zle_100000000, ylt_0, ylt_1, ylt_2, ylt_3, ylt_6, ylt_9, ylt_20, ylt_24, ylt_57, ylt_60, ylt_99, ylt_120, ylt_122, ylt_999, ylt_9999, yle_0, yle_2, yle_4, yle_5, yle_6, yle_7, yle_8, yle_10, yle_12, yle_13, yle_15, yle_16, yle_20, yle_24, yle_40, yle_60, yle_64, yle_80, yadd_1, yadd_22, ymul_2, ymul_4, ymul_6, ymul_8, ymul_10, ymul_24, ymul_27, ymul_100, ysub_1, ysub_24, zdiv_2, zdiv_4, zdiv_24, q0, q1, q2, g4, g8, g13, xr_t]
        · obtain ⟨M1, e1, fr1, hB1, t1⟩ := m_start (MB_ref hC.1 2)
          have z0 := hB1.2.1.1
          have z1 := hB1.2.1.2.1
          have z2 := hB1.2.1.2.2.1
          have z3 := hB1.2.1.2.2.2.1
          have z26 := hB1.2.2.2.2.1
          refine (EX_in mi_X7_least rfl rfl rfl (ls := [some (.inr (.inr (40, 0))), some (.inl (nI j1)), some (.inl (nI j2)), some (.inl (a3)), some (.inl (a4))]) rfl).trans ?_
          have b0 := fun w q => x7_bad_0 L xs O (D := d + 1 + 1) (by omega) w q M1 t1
          have b1 : EX L xs (d + 1 + 1) q_X7_bad [.inr (.inr (40, 0)), .inl (1), .inl (2), .inl (2)] M1 O = (some (.inl (some (.inl (1))), refM M1 (nI 2) 2, O, 0, 0) : Res) := x7_bad_1 L xs O (by omega) 2 2 (by omega) (by decide) M1 t1
          have p0 := x7_isAir_i L xs O (D := d + 1 + 1) (by omega) (by omega) j1 M1 z26 hj1
          have p1 := x7_isHour_i L xs O (D := d + 1 + 1) (by omega) j2 M1 hj2
          have p2 := x7_bits_o L xs O (D := d + 1 + 1) (by omega) v6 a3 M1 z1 c3
          simp (disch := first | omega | rfl | decide) only [e_X7_least_0, e_X7_least_11, e_X7_least_19, e_X7_least_24, e_X7_least_32, e_X7_least_66, e_X7_least_53, e_X7_least_40, e_X7_least_58, e_X7_least_50, e_X7_least_63, e_X7_least_75, e_X7_least_91, xr_v, xr_n, hl_of, hl_cl, hl_toInt, hl_le, hl_lt, hl_eq, nI_add, hl_sub, pk_mul, hl_div, if_pos, if_neg, ↓reduceIte, Nat.reduceAdd, Nat.reduceSub, Nat.reduceMul, Nat.add_zero, Nat.zero_add, mp_s, mp_k, mp_i, mp_g, mr_s, mr_i, mr_g, zlt_0, zlt_1, zlt_2, zlt_3, zlt_4, zlt_5, zlt_6, zlt_8, zlt_12, zlt_15, zlt_20, zlt_24, zlt_36, zlt_40, zlt_48, zlt_80, zlt_97, zlt_120, zlt_256, zlt_600, zlt_99999999, zadd_1, zadd_2, zadd_5, zadd_6, zadd_8, zadd_20, zadd_24, zeq_0, zeq_1, zeq_2, zeq_3, zeq_4, zeq_5, zeq_6, zeq_7, zeq_8, zeq_13, zeq_14, zeq_20, zeq_32, zeq_59, zeq_60, zeq_80, zmul_2, zmul_4, zmul_6, zmul_8, zmul_10, zmul_24, zsub_1, zsub_2, zsub_10, zsub_48, zsub_97, zle_0, zle_1, zle_2, zle_6, zle_11, zle_200, zle_600, zle_100000000, ylt_0, ylt_1, ylt_2, ylt_3, ylt_6, ylt_9, ylt_20, ylt_24, ylt_57, ylt_60, ylt_99, ylt_120, ylt_122, ylt_999, ylt_9999, yle_0, yle_2, yle_4, yle_5, yle_6, yle_7, yle_8, yle_10, yle_12, yle_13, yle_15, yle_16, yle_20, yle_24, yle_40, yle_60, yle_64, yle_80, yadd_1, yadd_22, ymul_2, ymul_4, ymul_6, ymul_8, ymul_10, ymul_24, ymul_27, ymul_100, ysub_1, ysub_24, zdiv_2, zdiv_4, zdiv_24, e1, b0, b1, p0, p1, p2, z2, z3, s1]
    · refine stp_r L xs O hC 2 2 (by omega) (by omega) (w_least_2 L xs O (nI j1) (a2) (a3) (a4) M _ ?_) (b := .inl 0) ?_
      · refine (EX_in mi_X6_least rfl rfl rfl (ls := [some (.inr (.inr (0, 0))), some (.inl (nI j1)), some (.inl (a2)), some (.inl (a3)), some (.inl (a4)), none]) rfl).trans ?_
        have q0 := x6_needAir_in L xs O (D := d + 1) (by omega) (by omega) j1 M g6 hj1
        have q1 := x6_needHour_out L xs O (D := d + 1) (by omega) a2 M c2
        simp (disch := first | omega | rfl | decide) only [e_X6_least_0, e_X6_least_5, e_X6_least_10, e_X6_least_22, e_X6_least_29, e_X6_least_36, e_X6_least_50, e_X6_least_64, xr_v, xr_n, hl_of, hl_cl, hl_toInt, hl_le, hl_lt, hl_eq, nI_add, hl_sub, pk_mul, hl_div, if_pos, if_neg, ↓reduceIte, Nat.reduceAdd, Nat.reduceSub, Nat.reduceMul, Nat.add_zero, Nat.zero_add, mp_s, mp_k, mp_i, mp_g, mr_s, mr_i, mr_g, zlt_0, zlt_1, zlt_2, zlt_3, zlt_4, zlt_5, zlt_6, zlt_8, zlt_12, zlt_15, zlt_20, zlt_24, zlt_36, zlt_40, zlt_48, zlt_80, zlt_97, zlt_120, zlt_256, zlt_600, zlt_99999999, zadd_1, zadd_2, zadd_5, zadd_6, zadd_8, zadd_20, zadd_24, zeq_0, zeq_1, zeq_2, zeq_3, zeq_4, zeq_5, zeq_6, zeq_7, zeq_8, zeq_13, zeq_14, zeq_20, zeq_32, zeq_59, zeq_60, zeq_80, zmul_2, zmul_4, zmul_6, zmul_8, zmul_10, zmul_24, zsub_1, zsub_2, zsub_10, zsub_48, zsub_97, zle_0, zle_1, zle_2, zle_6, zle_11, zle_200, zle_600, zle_100000000, ylt_0, ylt_1, ylt_2, ylt_3, ylt_6, ylt_9, ylt_20, ylt_24, ylt_57, ylt_60, ylt_99, ylt_120, ylt_122, ylt_999, ylt_9999, yle_0, yle_2, yle_4, yle_5, yle_6, yle_7, yle_8, yle_10, yle_12, yle_13, yle_15, yle_16, yle_20, yle_24, yle_40, yle_60, yle_64, yle_80, yadd_1, yadd_22, ymul_2, ymul_4, ymul_6, ymul_8, ymul_10, ymul_24, ymul_27, ymul_100, ysub_1, ysub_24, zdiv_2, zdiv_4, zdiv_24, q0, q1, g4, g8, g13, xr_t]
      · obtain ⟨M1, e1, fr1, hB1, t1⟩ := m_start (MB_ref hC.1 2)
        have z0 := hB1.2.1.1
        have z1 := hB1.2.1.2.1
        have z2 := hB1.2.1.2.2.1
        have z3 := hB1.2.1.2.2.2.1
        have z26 := hB1.2.2.2.2.1
        refine (EX_in mi_X7_least rfl rfl rfl (ls := [some (.inr (.inr (40, 0))), some (.inl (nI j1)), some (.inl (a2)), some (.inl (a3)), some (.inl (a4))]) rfl).trans ?_
        have b0 := fun w q => x7_bad_0 L xs O (D := d + 1 + 1) (by omega) w q M1 t1
        have b1 : EX L xs (d + 1 + 1) q_X7_bad [.inr (.inr (40, 0)), .inl (1), .inl (2), .inl (2)] M1 O = (some (.inl (some (.inl (1))), refM M1 (nI 2) 2, O, 0, 0) : Res) := x7_bad_1 L xs O (by omega) 2 2 (by omega) (by decide) M1 t1
        have p0 := x7_isAir_i L xs O (D := d + 1 + 1) (by omega) (by omega) j1 M1 z26 hj1
        have p1 := x7_isHour_o L xs O (D := d + 1 + 1) (by omega) a2 M1 c2
        simp (disch := first | omega | rfl | decide) only [e_X7_least_0, e_X7_least_11, e_X7_least_19, e_X7_least_24, e_X7_least_32, e_X7_least_66, e_X7_least_53, e_X7_least_40, e_X7_least_58, e_X7_least_50, e_X7_least_63, e_X7_least_75, e_X7_least_91, xr_v, xr_n, hl_of, hl_cl, hl_toInt, hl_le, hl_lt, hl_eq, nI_add, hl_sub, pk_mul, hl_div, if_pos, if_neg, ↓reduceIte, Nat.reduceAdd, Nat.reduceSub, Nat.reduceMul, Nat.add_zero, Nat.zero_add, mp_s, mp_k, mp_i, mp_g, mr_s, mr_i, mr_g, zlt_0, zlt_1, zlt_2, zlt_3, zlt_4, zlt_5, zlt_6, zlt_8, zlt_12, zlt_15, zlt_20, zlt_24, zlt_36, zlt_40, zlt_48, zlt_80, zlt_97, zlt_120, zlt_256, zlt_600, zlt_99999999, zadd_1, zadd_2, zadd_5, zadd_6, zadd_8, zadd_20, zadd_24, zeq_0, zeq_1, zeq_2, zeq_3, zeq_4, zeq_5, zeq_6, zeq_7, zeq_8, zeq_13, zeq_14, zeq_20, zeq_32, zeq_59, zeq_60, zeq_80, zmul_2, zmul_4, zmul_6, zmul_8, zmul_10, zmul_24, zsub_1, zsub_2, zsub_10, zsub_48, zsub_97, zle_0, zle_1, zle_2, zle_6, zle_11, zle_200, zle_600, zle_100000000, ylt_0, ylt_1, ylt_2, ylt_3, ylt_6, ylt_9, ylt_20, ylt_24, ylt_57, ylt_60, ylt_99, ylt_120, ylt_122, ylt_999, ylt_9999, yle_0, yle_2, yle_4, yle_5, yle_6, yle_7, yle_8, yle_10, yle_12, yle_13, yle_15, yle_16, yle_20, yle_24, yle_40, yle_60, yle_64, yle_80, yadd_1, yadd_22, ymul_2, ymul_4, ymul_6, ymul_8, ymul_10, ymul_24, ymul_27, ymul_100, ysub_1, ysub_24, zdiv_2, zdiv_4, zdiv_24, e1, b0, b1, p0, p1, z2, z3, s1]
  · refine stp_r L xs O hC 1 1 (by omega) (by omega) (w_least_1 L xs O (a1) (a2) (a3) (a4) M _ ?_) (b := .inl 0) ?_
    · refine (EX_in mi_X6_least rfl rfl rfl (ls := [some (.inr (.inr (0, 0))), some (.inl (a1)), some (.inl (a2)), some (.inl (a3)), some (.inl (a4)), none]) rfl).trans ?_
      have q0 := x6_needAir_out L xs O (D := d + 1) (by omega) (by omega) a1 M g6 c1
      simp (disch := first | omega | rfl | decide) only [e_X6_least_0, e_X6_least_5, e_X6_least_10, e_X6_least_22, e_X6_least_29, e_X6_least_36, e_X6_least_50, e_X6_least_64, xr_v, xr_n, hl_of, hl_cl, hl_toInt, hl_le, hl_lt, hl_eq, nI_add, hl_sub, pk_mul, hl_div, if_pos, if_neg, ↓reduceIte, Nat.reduceAdd, Nat.reduceSub, Nat.reduceMul, Nat.add_zero, Nat.zero_add, mp_s, mp_k, mp_i, mp_g, mr_s, mr_i, mr_g, zlt_0, zlt_1, zlt_2, zlt_3, zlt_4, zlt_5, zlt_6, zlt_8, zlt_12, zlt_15, zlt_20, zlt_24, zlt_36, zlt_40, zlt_48, zlt_80, zlt_97, zlt_120, zlt_256, zlt_600, zlt_99999999, zadd_1, zadd_2, zadd_5, zadd_6, zadd_8, zadd_20, zadd_24, zeq_0, zeq_1, zeq_2, zeq_3, zeq_4, zeq_5, zeq_6, zeq_7, zeq_8, zeq_13, zeq_14, zeq_20, zeq_32, zeq_59, zeq_60, zeq_80, zmul_2, zmul_4, zmul_6, zmul_8, zmul_10, zmul_24, zsub_1, zsub_2, zsub_10, zsub_48, zsub_97, zle_0, zle_1, zle_2, zle_6, zle_11, zle_200, zle_600, zle_100000000, ylt_0, ylt_1, ylt_2, ylt_3, ylt_6, ylt_9, ylt_20, ylt_24, ylt_57, ylt_60, ylt_99, ylt_120, ylt_122, ylt_999, ylt_9999, yle_0, yle_2, yle_4, yle_5, yle_6, yle_7, yle_8, yle_10, yle_12, yle_13, yle_15, yle_16, yle_20, yle_24, yle_40, yle_60, yle_64, yle_80, yadd_1, yadd_22, ymul_2, ymul_4, ymul_6, ymul_8, ymul_10, ymul_24, ymul_27, ymul_100, ysub_1, ysub_24, zdiv_2, zdiv_4, zdiv_24, q0, g4, g8, g13, xr_t]
    · obtain ⟨M1, e1, fr1, hB1, t1⟩ := m_start (MB_ref hC.1 1)
      have z0 := hB1.2.1.1
      have z1 := hB1.2.1.2.1
      have z2 := hB1.2.1.2.2.1
      have z3 := hB1.2.1.2.2.2.1
      have z26 := hB1.2.2.2.2.1
      refine (EX_in mi_X7_least rfl rfl rfl (ls := [some (.inr (.inr (40, 0))), some (.inl (a1)), some (.inl (a2)), some (.inl (a3)), some (.inl (a4))]) rfl).trans ?_
      have b0 := fun w q => x7_bad_0 L xs O (D := d + 1 + 1) (by omega) w q M1 t1
      have b1 : EX L xs (d + 1 + 1) q_X7_bad [.inr (.inr (40, 0)), .inl (1), .inl (1), .inl (1)] M1 O = (some (.inl (some (.inl (1))), refM M1 (nI 1) 1, O, 0, 0) : Res) := x7_bad_1 L xs O (by omega) 1 1 (by omega) (by decide) M1 t1
      have p0 := x7_isAir_o L xs O (D := d + 1 + 1) (by omega) (by omega) a1 M1 z26 c1
      simp (disch := first | omega | rfl | decide) only [e_X7_least_0, e_X7_least_11, e_X7_least_19, e_X7_least_24, e_X7_least_32, e_X7_least_66, e_X7_least_53, e_X7_least_40, e_X7_least_58, e_X7_least_50, e_X7_least_63, e_X7_least_75, e_X7_least_91, xr_v, xr_n, hl_of, hl_cl, hl_toInt, hl_le, hl_lt, hl_eq, nI_add, hl_sub, pk_mul, hl_div, if_pos, if_neg, ↓reduceIte, Nat.reduceAdd, Nat.reduceSub, Nat.reduceMul, Nat.add_zero, Nat.zero_add, mp_s, mp_k, mp_i, mp_g, mr_s, mr_i, mr_g, zlt_0, zlt_1, zlt_2, zlt_3, zlt_4, zlt_5, zlt_6, zlt_8, zlt_12, zlt_15, zlt_20, zlt_24, zlt_36, zlt_40, zlt_48, zlt_80, zlt_97, zlt_120, zlt_256, zlt_600, zlt_99999999, zadd_1, zadd_2, zadd_5, zadd_6, zadd_8, zadd_20, zadd_24, zeq_0, zeq_1, zeq_2, zeq_3, zeq_4, zeq_5, zeq_6, zeq_7, zeq_8, zeq_13, zeq_14, zeq_20, zeq_32, zeq_59, zeq_60, zeq_80, zmul_2, zmul_4, zmul_6, zmul_8, zmul_10, zmul_24, zsub_1, zsub_2, zsub_10, zsub_48, zsub_97, zle_0, zle_1, zle_2, zle_6, zle_11, zle_200, zle_600, zle_100000000, ylt_0, ylt_1, ylt_2, ylt_3, ylt_6, ylt_9, ylt_20, ylt_24, ylt_57, ylt_60, ylt_99, ylt_120, ylt_122, ylt_999, ylt_9999, yle_0, yle_2, yle_4, yle_5, yle_6, yle_7, yle_8, yle_10, yle_12, yle_13, yle_15, yle_16, yle_20, yle_24, yle_40, yle_60, yle_64, yle_80, yadd_1, yadd_22, ymul_2, ymul_4, ymul_6, ymul_8, ymul_10, ymul_24, ymul_27, ymul_100, ysub_1, ysub_24, zdiv_2, zdiv_4, zdiv_24, e1, b0, b1, p0, z2, z3, s1]
theorem s_bound {d : Nat} (hD : 11 ≤ d) (a1 a2 a3 : Int32) (M : Mem) (hI : INV M) : Stq L xs O (d + 1 + 1 + 1) q_L_bound q_X7_bound [.inl a1, .inl a2, .inl a3] M := by
  obtain ⟨T, As, n, nh, ns, nw, na, md, ia, ni, nt, mds, hC⟩ := hI
  have hM : CQ M (perfL T md.1 md.2.1) As n nh ns nw na M := ⟨Fr_refl, hC.2.1⟩
  have hV := hM.2.1
  have v5 : n ≤ 40 := hV.2.2.2.2.2.1
  have v6 : nh ≤ 8 := hV.2.2.2.2.2.2.1
  have v7 : ns ≤ 6 := hV.2.2.2.2.2.2.2.1
  have v8 : nw ≤ 8 := hV.2.2.2.2.2.2.2.2.1
  have h6 : na ≤ 6 := hM.2.2.2.2.1
  have g0 := (hM.2.2.1 3 0 rfl).trans hV.1
  have g4 := (hM.2.2.1 3 4 rfl).trans hV.2.1
  have g8 := (hM.2.2.1 3 8 rfl).trans hV.2.2.1
  have g13 := (hM.2.2.1 3 13 rfl).trans hV.2.2.2.1
  have g6 := hM.2.2.2.1
  have hp2 := pow_le8 (show ns ≤ 8 by omega)
  have s1 := shl1 ns (by omega)
  have hO : CO M md.1 md.2.1 nw := ⟨hC.2.2.2.2.1.2.1.1, hC.2.2.2.2.1.1.1, fun i hi => ⟨hC.2.2.2.2.1.2.1.2.1 i hi, hC.2.2.2.2.1.1.2.1 i hi⟩⟩
  by_cases c1 : inN a1 na
  · obtain ⟨j1, hj1, rfl⟩ := c1
    by_cases c2 : inN a2 24
    · obtain ⟨j2, hj2, rfl⟩ := c2
      by_cases c3 : inN a3 (2 ^ nh)
      · exact stp_q L xs O hC (c_bound L xs O (D := d + 1 + 1) (by omega) hO j1 j2 a3 hj1 hj2 c3 M hM) (fun M1 h => w_bound_v L xs O (nI j1) (nI j2) (a3) _ M M1 h) (fun M1 O1 hB => m_bound L xs O1 (D := d + 1 + 1 + 1) (by omega) j1 j2 a3 hj1 hj2 c3 M1 hB)
      · refine stp_r L xs O hC 2 2 (by omega) (by omega) (w_bound_2 L xs O (nI j1) (nI j2) (a3) M _ ?_) (b := .inl 0) ?_
        · refine (EX_in mi_X6_bound rfl rfl rfl (ls := [some (.inr (.inr (0, 0))), some (.inl (nI j1)), some (.inl (nI j2)), some (.inl (a3)), none, none, none]) rfl).trans ?_
          have q0 := x6_needAir_in L xs O (D := d + 1) (by omega) (by omega) j1 M g6 hj1
          have q1 := x6_needHour_in L xs O (D := d + 1) (by omega) j2 M hj2
          have q2 := x6_needBits_out L xs O (D := d + 1) (by omega) nh v6 a3 M c3
          simp (disch := first | omega | rfl | decide) only [e_X6_bound_0, e_X6_bound_5, e_X6_bound_10, e_X6_bound_22, e_X6_bound_28, e_X6_bound_46, e_X6_bound_85, e_X6_bound_59, e_X6_bound_80, e_X6_bound_83, xr_v, xr_n, hl_of, hl_cl, hl_toInt, hl_le, hl_lt, hl_eq, nI_add, hl_sub, pk_mul, hl_div, if_pos, if_neg, ↓reduceIte, Nat.reduceAdd, Nat.reduceSub, Nat.reduceMul, Nat.add_zero, Nat.zero_add, mp_s, mp_k, mp_i, mp_g, mr_s, mr_i, mr_g, zlt_0, zlt_1, zlt_2, zlt_3, zlt_4, zlt_5, zlt_6, zlt_8, zlt_12, zlt_15, zlt_20, zlt_24, zlt_36, zlt_40, zlt_48, zlt_80, zlt_97, zlt_120, zlt_256, zlt_600, zlt_99999999, zadd_1, zadd_2, zadd_5, zadd_6, zadd_8, zadd_20, zadd_24, zeq_0, zeq_1, zeq_2, zeq_3, zeq_4, zeq_5, zeq_6, zeq_7, zeq_8, zeq_13, zeq_14, zeq_20, zeq_32, zeq_59, zeq_60, zeq_80, zmul_2, zmul_4, zmul_6, zmul_8, zmul_10, zmul_24, zsub_1, zsub_2, zsub_10, zsub_48, zsub_97, zle_0, zle_1, zle_2, zle_6, zle_11, zle_200, zle_600, zle_100000000, ylt_0, ylt_1, ylt_2, ylt_3, ylt_6, ylt_9, ylt_20, ylt_24, ylt_57, ylt_60, ylt_99, ylt_120, ylt_122, ylt_999, ylt_9999, yle_0, yle_2, yle_4, yle_5, yle_6, yle_7, yle_8, yle_10, yle_12, yle_13, yle_15, yle_16, yle_20, yle_24, yle_40, yle_60, yle_64, yle_80, yadd_1, yadd_22, ymul_2, ymul_4, ymul_6, ymul_8, ymul_10, ymul_24, ymul_27, ymul_100, ysub_1, ysub_24, zdiv_2, zdiv_4, zdiv_24, q0, q1, q2, g4, g8, g13, xr_t]
        · obtain ⟨M1, e1, fr1, hB1, t1⟩ := m_start (MB_ref hC.1 2)
          have z0 := hB1.2.1.1
          have z1 := hB1.2.1.2.1
          have z2 := hB1.2.1.2.2.1
          have z3 := hB1.2.1.2.2.2.1
          have z26 := hB1.2.2.2.2.1
          refine (EX_in mi_X7_bound rfl rfl rfl (ls := [some (.inr (.inr (40, 0))), some (.inl (nI j1)), some (.inl (nI j2)), some (.inl (a3)), none, none]) rfl).trans ?_
          have b0 := fun w q => x7_bad_0 L xs O (D := d + 1 + 1) (by omega) w q M1 t1
          have b1 : EX L xs (d + 1 + 1) q_X7_bad [.inr (.inr (40, 0)), .inl (1), .inl (2), .inl (2)] M1 O = (some (.inl (some (.inl (1))), refM M1 (nI 2) 2, O, 0, 0) : Res) := x7_bad_1 L xs O (by omega) 2 2 (by omega) (by decide) M1 t1
          have p0 := x7_isAir_i L xs O (D := d + 1 + 1) (by omega) (by omega) j1 M1 z26 hj1
          have p1 := x7_isHour_i L xs O (D := d + 1 + 1) (by omega) j2 M1 hj2
          have p2 := x7_bits_o L xs O (D := d + 1 + 1) (by omega) v6 a3 M1 z1 c3
          simp (disch := first | omega | rfl | decide) only [e_X7_bound_0, e_X7_bound_11, e_X7_bound_19, e_X7_bound_24, e_X7_bound_32, e_X7_bound_56, e_X7_bound_43, e_X7_bound_40, e_X7_bound_48, e_X7_bound_53, e_X7_bound_64, e_X7_bound_127, e_X7_bound_97, e_X7_bound_125, xr_v, xr_n, hl_of, hl_cl, hl_toInt, hl_le, hl_lt, hl_eq, nI_add, hl_sub, pk_mul, hl_div, if_pos, if_neg, ↓reduceIte, Nat.reduceAdd, Nat.reduceSub, Nat.reduceMul, Nat.add_zero, Nat.zero_add, mp_s, mp_k, mp_i, mp_g, mr_s, mr_i, mr_g, zlt_0, zlt_1, zlt_2, zlt_3, zlt_4, zlt_5, zlt_6, zlt_8, zlt_12, zlt_15, zlt_20, zlt_24, zlt_36, zlt_40, zlt_48, zlt_80, zlt_97, zlt_120, zlt_256, zlt_600, zlt_99999999, zadd_1, zadd_2, zadd_5, zadd_6, zadd_8, zadd_20, zadd_24, zeq_0, zeq_1, zeq_2, zeq_3, zeq_4, zeq_5, zeq_6, zeq_7, zeq_8, zeq_13, zeq_14, zeq_20, zeq_32, zeq_59, zeq_60, zeq_80, zmul_2, zmul_4, zmul_6, zmul_8, zmul_10, zmul_24, zsub_1, zsub_2, zsub_10, zsub_48, zsub_97, zle_0, zle_1, zle_2, zle_6, zle_11, zle_200, zle_600, zle_100000000, ylt_0, ylt_1, ylt_2, ylt_3, ylt_6, ylt_9, ylt_20, ylt_24, ylt_57, ylt_60, ylt_99, ylt_120, ylt_122, ylt_999, ylt_9999, yle_0, yle_2, yle_4, yle_5, yle_6, yle_7, yle_8, yle_10, yle_12, yle_13, yle_15, yle_16, yle_20, yle_24, yle_40, yle_60, yle_64, yle_80, yadd_1, yadd_22, ymul_2, ymul_4, ymul_6, ymul_8, ymul_10, ymul_24, ymul_27, ymul_100, ysub_1, ysub_24, zdiv_2, zdiv_4, zdiv_24, e1, b0, b1, p0, p1, p2, z2, z3, s1]
    · refine stp_r L xs O hC 2 2 (by omega) (by omega) (w_bound_2 L xs O (nI j1) (a2) (a3) M _ ?_) (b := .inl 0) ?_
      · refine (EX_in mi_X6_bound rfl rfl rfl (ls := [some (.inr (.inr (0, 0))), some (.inl (nI j1)), some (.inl (a2)), some (.inl (a3)), none, none, none]) rfl).trans ?_
        have q0 := x6_needAir_in L xs O (D := d + 1) (by omega) (by omega) j1 M g6 hj1
        have q1 := x6_needHour_out L xs O (D := d + 1) (by omega) a2 M c2
        simp (disch := first | omega | rfl | decide) only [e_X6_bound_0, e_X6_bound_5, e_X6_bound_10, e_X6_bound_22, e_X6_bound_28, e_X6_bound_46, e_X6_bound_85, e_X6_bound_59, e_X6_bound_80, e_X6_bound_83, xr_v, xr_n, hl_of, hl_cl, hl_toInt, hl_le, hl_lt, hl_eq, nI_add, hl_sub, pk_mul, hl_div, if_pos, if_neg, ↓reduceIte, Nat.reduceAdd, Nat.reduceSub, Nat.reduceMul, Nat.add_zero, Nat.zero_add, mp_s, mp_k, mp_i, mp_g, mr_s, mr_i, mr_g, zlt_0, zlt_1, zlt_2, zlt_3, zlt_4, zlt_5, zlt_6, zlt_8, zlt_12, zlt_15, zlt_20, zlt_24, zlt_36, zlt_40, zlt_48, zlt_80, zlt_97, zlt_120, zlt_256, zlt_600, zlt_99999999, zadd_1, zadd_2, zadd_5, zadd_6, zadd_8, zadd_20, zadd_24, zeq_0, zeq_1, zeq_2, zeq_3, zeq_4, zeq_5, zeq_6, zeq_7, zeq_8, zeq_13, zeq_14, zeq_20, zeq_32, zeq_59, zeq_60, zeq_80, zmul_2, zmul_4, zmul_6, zmul_8, zmul_10, zmul_24, zsub_1, zsub_2, zsub_10, zsub_48, zsub_97, zle_0, zle_1, zle_2, zle_6, zle_11, zle_200, zle_600, zle_100000000, ylt_0, ylt_1, ylt_2, ylt_3, ylt_6, ylt_9, ylt_20, ylt_24, ylt_57, ylt_60, ylt_99, ylt_120, ylt_122, ylt_999, ylt_9999, yle_0, yle_2, yle_4, yle_5, yle_6, yle_7, yle_8, yle_10, yle_12, yle_13, yle_15, yle_16, yle_20, yle_24, yle_40, yle_60, yle_64, yle_80, yadd_1, yadd_22, ymul_2, ymul_4, ymul_6, ymul_8, ymul_10, ymul_24, ymul_27, ymul_100, ysub_1, ysub_24, zdiv_2, zdiv_4, zdiv_24, q0, q1, g4, g8, g13, xr_t]
      · obtain ⟨M1, e1, fr1, hB1, t1⟩ := m_start (MB_ref hC.1 2)
        have z0 := hB1.2.1.1
        have z1 := hB1.2.1.2.1
        have z2 := hB1.2.1.2.2.1
        have z3 := hB1.2.1.2.2.2.1
        have z26 := hB1.2.2.2.2.1
        refine (EX_in mi_X7_bound rfl rfl rfl (ls := [some (.inr (.inr (40, 0))), some (.inl (nI j1)), some (.inl (a2)), some (.inl (a3)), none, none]) rfl).trans ?_
        have b0 := fun w q => x7_bad_0 L xs O (D := d + 1 + 1) (by omega) w q M1 t1
        have b1 : EX L xs (d + 1 + 1) q_X7_bad [.inr (.inr (40, 0)), .inl (1), .inl (2), .inl (2)] M1 O = (some (.inl (some (.inl (1))), refM M1 (nI 2) 2, O, 0, 0) : Res) := x7_bad_1 L xs O (by omega) 2 2 (by omega) (by decide) M1 t1
        have p0 := x7_isAir_i L xs O (D := d + 1 + 1) (by omega) (by omega) j1 M1 z26 hj1
        have p1 := x7_isHour_o L xs O (D := d + 1 + 1) (by omega) a2 M1 c2
        simp (disch := first | omega | rfl | decide) only [e_X7_bound_0, e_X7_bound_11, e_X7_bound_19, e_X7_bound_24, e_X7_bound_32, e_X7_bound_56, e_X7_bound_43, e_X7_bound_40, e_X7_bound_48, e_X7_bound_53, e_X7_bound_64, e_X7_bound_127, e_X7_bound_97, e_X7_bound_125, xr_v, xr_n, hl_of, hl_cl, hl_toInt, hl_le, hl_lt, hl_eq, nI_add, hl_sub, pk_mul, hl_div, if_pos, if_neg, ↓reduceIte, Nat.reduceAdd, Nat.reduceSub, Nat.reduceMul, Nat.add_zero, Nat.zero_add, mp_s, mp_k, mp_i, mp_g, mr_s, mr_i, mr_g, zlt_0, zlt_1, zlt_2, zlt_3, zlt_4, zlt_5, zlt_6, zlt_8, zlt_12, zlt_15, zlt_20, zlt_24, zlt_36, zlt_40, zlt_48, zlt_80, zlt_97, zlt_120, zlt_256, zlt_600, zlt_99999999, zadd_1, zadd_2, zadd_5, zadd_6, zadd_8, zadd_20, zadd_24, zeq_0, zeq_1, zeq_2, zeq_3, zeq_4, zeq_5, zeq_6, zeq_7, zeq_8, zeq_13, zeq_14, zeq_20, zeq_32, zeq_59, zeq_60, zeq_80, zmul_2, zmul_4, zmul_6, zmul_8, zmul_10, zmul_24, zsub_1, zsub_2, zsub_10, zsub_48, zsub_97, zle_0, zle_1, zle_2, zle_6, zle_11, zle_200, zle_600, zle_100000000, ylt_0, ylt_1, ylt_2, ylt_3, ylt_6, ylt_9, ylt_20, ylt_24, ylt_57, ylt_60, ylt_99, ylt_120, ylt_122, ylt_999, ylt_9999, yle_0, yle_2, yle_4, yle_5, yle_6, yle_7, yle_8, yle_10, yle_12, yle_13, yle_15, yle_16, yle_20, yle_24, yle_40, yle_60, yle_64, yle_80, yadd_1, yadd_22, ymul_2, ymul_4, ymul_6, ymul_8, ymul_10, ymul_24, ymul_27, ymul_100, ysub_1, ysub_24, zdiv_2, zdiv_4, zdiv_24, e1, b0, b1, p0, p1, z2, z3, s1]
  · refine stp_r L xs O hC 1 1 (by omega) (by omega) (w_bound_1 L xs O (a1) (a2) (a3) M _ ?_) (b := .inl 0) ?_
    · refine (EX_in mi_X6_bound rfl rfl rfl (ls := [some (.inr (.inr (0, 0))), some (.inl (a1)), some (.inl (a2)), some (.inl (a3)), none, none, none]) rfl).trans ?_
      have q0 := x6_needAir_out L xs O (D := d + 1) (by omega) (by omega) a1 M g6 c1
      simp (disch := first | omega | rfl | decide) only [e_X6_bound_0, e_X6_bound_5, e_X6_bound_10, e_X6_bound_22, e_X6_bound_28, e_X6_bound_46, e_X6_bound_85, e_X6_bound_59, e_X6_bound_80, e_X6_bound_83, xr_v, xr_n, hl_of, hl_cl, hl_toInt, hl_le, hl_lt, hl_eq, nI_add, hl_sub, pk_mul, hl_div, if_pos, if_neg, ↓reduceIte, Nat.reduceAdd, Nat.reduceSub, Nat.reduceMul, Nat.add_zero, Nat.zero_add, mp_s, mp_k, mp_i, mp_g, mr_s, mr_i, mr_g, zlt_0, zlt_1, zlt_2, zlt_3, zlt_4, zlt_5, zlt_6, zlt_8, zlt_12, zlt_15, zlt_20, zlt_24, zlt_36, zlt_40, zlt_48, zlt_80, zlt_97, zlt_120, zlt_256, zlt_600, zlt_99999999, zadd_1, zadd_2, zadd_5, zadd_6, zadd_8, zadd_20, zadd_24, zeq_0, zeq_1, zeq_2, zeq_3, zeq_4, zeq_5, zeq_6, zeq_7, zeq_8, zeq_13, zeq_14, zeq_20, zeq_32, zeq_59, zeq_60, zeq_80, zmul_2, zmul_4, zmul_6, zmul_8, zmul_10, zmul_24, zsub_1, zsub_2, zsub_10, zsub_48, zsub_97, zle_0, zle_1, zle_2, zle_6, zle_11, zle_200, zle_600, zle_100000000, ylt_0, ylt_1, ylt_2, ylt_3, ylt_6, ylt_9, ylt_20, ylt_24, ylt_57, ylt_60, ylt_99, ylt_120, ylt_122, ylt_999, ylt_9999, yle_0, yle_2, yle_4, yle_5, yle_6, yle_7, yle_8, yle_10, yle_12, yle_13, yle_15, yle_16, yle_20, yle_24, yle_40, yle_60, yle_64, yle_80, yadd_1, yadd_22, ymul_2, ymul_4, ymul_6, ymul_8, ymul_10, ymul_24, ymul_27, ymul_100, ysub_1, ysub_24, zdiv_2, zdiv_4, zdiv_24, q0, g4, g8, g13, xr_t]
    · obtain ⟨M1, e1, fr1, hB1, t1⟩ := m_start (MB_ref hC.1 1)
      have z0 := hB1.2.1.1
      have z1 := hB1.2.1.2.1
      have z2 := hB1.2.1.2.2.1
      have z3 := hB1.2.1.2.2.2.1
      have z26 := hB1.2.2.2.2.1
      refine (EX_in mi_X7_bound rfl rfl rfl (ls := [some (.inr (.inr (40, 0))), some (.inl (a1)), some (.inl (a2)), some (.inl (a3)), none, none]) rfl).trans ?_
      have b0 := fun w q => x7_bad_0 L xs O (D := d + 1 + 1) (by omega) w q M1 t1
      have b1 : EX L xs (d + 1 + 1) q_X7_bad [.inr (.inr (40, 0)), .inl (1), .inl (1), .inl (1)] M1 O = (some (.inl (some (.inl (1))), refM M1 (nI 1) 1, O, 0, 0) : Res) := x7_bad_1 L xs O (by omega) 1 1 (by omega) (by decide) M1 t1
      have p0 := x7_isAir_o L xs O (D := d + 1 + 1) (by omega) (by omega) a1 M1 z26 c1
      simp (disch := first | omega | rfl | decide) only [e_X7_bound_0, e_X7_bound_11, e_X7_bound_19, e_X7_bound_24, e_X7_bound_32, e_X7_bound_56, e_X7_bound_43, e_X7_bound_40, e_X7_bound_48, e_X7_bound_53, e_X7_bound_64, e_X7_bound_127, e_X7_bound_97, e_X7_bound_125, xr_v, xr_n, hl_of, hl_cl, hl_toInt, hl_le, hl_lt, hl_eq, nI_add, hl_sub, pk_mul, hl_div, if_pos, if_neg, ↓reduceIte, Nat.reduceAdd, Nat.reduceSub, Nat.reduceMul, Nat.add_zero, Nat.zero_add, mp_s, mp_k, mp_i, mp_g, mr_s, mr_i, mr_g, zlt_0, zlt_1, zlt_2, zlt_3, zlt_4, zlt_5, zlt_6, zlt_8, zlt_12, zlt_15, zlt_20, zlt_24, zlt_36, zlt_40, zlt_48, zlt_80, zlt_97, zlt_120, zlt_256, zlt_600, zlt_99999999, zadd_1, zadd_2, zadd_5, zadd_6, zadd_8, zadd_20, zadd_24, zeq_0, zeq_1, zeq_2, zeq_3, zeq_4, zeq_5, zeq_6, zeq_7, zeq_8, zeq_13, zeq_14, zeq_20, zeq_32, zeq_59, zeq_60, zeq_80, zmul_2, zmul_4, zmul_6, zmul_8, zmul_10, zmul_24, zsub_1, zsub_2, zsub_10, zsub_48, zsub_97, zle_0, zle_1, zle_2, zle_6, zle_11, zle_200, zle_600, zle_100000000, ylt_0, ylt_1, ylt_2, ylt_3, ylt_6, ylt_9, ylt_20, ylt_24, ylt_57, ylt_60, ylt_99, ylt_120, ylt_122, ylt_999, ylt_9999, yle_0, yle_2, yle_4, yle_5, yle_6, yle_7, yle_8, yle_10, yle_12, yle_13, yle_15, yle_16, yle_20, yle_24, yle_40, yle_60, yle_64, yle_80, yadd_1, yadd_22, ymul_2, ymul_4, ymul_6, ymul_8, ymul_10, ymul_24, ymul_27, ymul_100, ysub_1, ysub_24, zdiv_2, zdiv_4, zdiv_24, e1, b0, b1, p0, z2, z3, s1]
end
