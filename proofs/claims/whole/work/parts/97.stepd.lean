/-! Questions: one call on both sides (printed by wip/gen/gen10.py). -/
section
variable (L : Nat) (xs : Nat → Int32) (O : Int64)
theorem s_does {d : Nat} (hD : 11 ≤ d) (a1 : Int32) (M : Mem) (hI : INV M) : Stq L xs O (d + 1 + 1 + 1) q_L_does q_X7_does [.inl a1] M := by
  obtain ⟨T, As, n, nh, ns, nw, na, md, ia, ni, nt, mds, hC⟩ := hI
  have hM : CQ M (perfL T md.1 md.2.1) As n nh ns nw na M := ⟨Fr_refl, hC.2.1⟩
  have hV := hM.2.1
  have v5 : n ≤ 40 := hV.2.2.2.2.2.1
  have v6 : nh ≤ 8 := hV.2.2.2.2.2.2.1
  have v7 : ns ≤ 6 := hV.2.2.2.2.2.2.2.1
  have v8 : nw ≤ 8 := hV.2.2.2.2.2.2.2.2.1
  have h6 : na ≤ 6 := hM.2.2.2.2.1
  have g0 := (hM.2.2.1 3 0 rfl).trans hV.1
  have g4 := (hM.2.2.1 3 4 rfl).trans hV.2.1
  have g8 := (hM.2.2.1 3 8 rfl).trans hV.2.2.1
  have g13 := (hM.2.2.1 3 13 rfl).trans hV.2.2.2.1
  have g6 := hM.2.2.2.1
  have hp2 := pow_le8 (show ns ≤ 8 by omega)
  have s1 := shl1 ns (by omega)
  by_cases c1 : inN a1 nw
  · obtain ⟨j1, hj1, rfl⟩ := c1
    exact n_does L xs O hD hC j1 hj1
  · refine stp_r L xs O hC 1 1 (by omega) (by omega) (w_does_1 L xs O (a1) M _ ?_) (b := .inl 0) ?_
    · refine (EX_in mi_X6_does rfl rfl rfl (ls := [some (.inr (.inr (0, 0))), some (.inl (a1))]) rfl).trans ?_
      have q0 := x6_needElement_out L xs O (D := d + 1) (by omega) nw (by omega) a1 M c1
      simp (disch := first | omega | rfl | decide) only [e_X6_does_0, e_X6_does_12, e_X6_does_19, e_X6_does_23, e_X6_does_36, e_X6_does_44, e_X6_does_48, xr_v, xr_n, hl_of, hl_cl, hl_toInt, hl_le, hl_lt, hl_eq, nI_add, hl_sub, pk_mul, hl_div, if_pos, if_neg, ↓reduceIte, Nat.reduceAdd, Nat.reduceSub, Nat.reduceMul, Nat.add_zero, Nat.zero_add, mp_s, mp_k, mp_i, mp_g, mr_s, mr_i, mr_g, zlt_0, zlt_1, zlt_2, zlt_3, zlt_4, zlt_5, zlt_6, zlt_8, zlt_12, zlt_15, zlt_20, zlt_24, zlt_36, zlt_40, zlt_48, zlt_80, zlt_97, zlt_120, zlt_256, zlt_600, zlt_99999999, zadd_1, zadd_2, zadd_5, zadd_6, zadd_8, zadd_20, zadd_24, zeq_0, zeq_1, zeq_2, zeq_3, zeq_4, zeq_5, zeq_6, zeq_7, zeq_8, zeq_13, zeq_14, zeq_20, zeq_32, zeq_59, zeq_60, zeq_80, zmul_2, zmul_4, zmul_6, zmul_8, zmul_10, zmul_24, zsub_1, zsub_2, zsub_10, zsub_48, zsub_97, zle_0, zle_1, zle_2, zle_6, zle_11, zle_200, zle_600, zle_100000000, ylt_0, ylt_1, ylt_2, ylt_3, ylt_6, ylt_9, ylt_20, ylt_24, ylt_57, ylt_60, ylt_99, ylt_120, ylt_122, ylt_999, ylt_9999, yle_0, yle_2, yle_4, yle_5, yle_6, yle_7, yle_8, yle_10, yle_12, yle_13, yle_15, yle_16, yle_20, yle_24, yle_40, yle_60, yle_64, yle_80, yadd_1, yadd_22, ymul_2, ymul_4, ymul_6, ymul_8, ymul_10, ymul_24, ymul_27, ymul_100, ysub_1, ysub_24, zdiv_2, zdiv_4, zdiv_24, q0, g4, g8, g13, xr_t]
    · obtain ⟨M1, e1, fr1, hB1, t1⟩ := m_start (MB_ref hC.1 1)
      have z0 := hB1.2.1.1
      have z1 := hB1.2.1.2.1
      have z2 := hB1.2.1.2.2.1
      have z3 := hB1.2.1.2.2.2.1
      have z26 := hB1.2.2.2.2.1
      have z3c := (MB_ref hC.1 1).2.1.2.2.2.1
      refine (EX_in mi_X7_does rfl rfl rfl (ls := [some (.inr (.inr (40, 0))), some (.inl (a1))]) rfl).trans ?_
      have b0 := fun w q => x7_bad_0 L xs O (D := d + 1 + 1) (by omega) w q M1 t1
      have b1 : EX L xs (d + 1 + 1) q_X7_bad [.inr (.inr (40, 0)), .inl (1), .inl (1), .inl (1)] M1 O = (some (.inl (some (.inl (1))), refM M1 (nI 1) 1, O, 0, 0) : Res) := x7_bad_1 L xs O (by omega) 1 1 (by omega) (by decide) M1 t1
      have p0 := x7_in_out L xs O (D := d + 1 + 1) (by omega) nw (by omega) a1 M1 c1
      simp (disch := first | omega | rfl | decide) only [e_X7_does_0, e_X7_does_19, e_X7_does_27, e_X7_does_32, e_X7_does_40, e_X7_does_43, xr_v, xr_n, hl_of, hl_cl, hl_toInt, hl_le, hl_lt, hl_eq, nI_add, hl_sub, pk_mul, hl_div, if_pos, if_neg, ↓reduceIte, Nat.reduceAdd, Nat.reduceSub, Nat.reduceMul, Nat.add_zero, Nat.zero_add, mp_s, mp_k, mp_i, mp_g, mr_s, mr_i, mr_g, zlt_0, zlt_1, zlt_2, zlt_3, zlt_4, zlt_5, zlt_6, zlt_8, zlt_12, zlt_15, zlt_20, zlt_24, zlt_36, zlt_40, zlt_48, zlt_80, zlt_97, zlt_120, zlt_256, zlt_600, zlt_99999999, zadd_1, zadd_2, zadd_5, zadd_6, zadd_8, zadd_20, zadd_24, zeq_0, zeq_1, zeq_2, zeq_3, zeq_4, zeq_5, zeq_6, zeq_7, zeq_8, zeq_13, zeq_14, zeq_20, zeq_32, zeq_59, zeq_60, zeq_80, zmul_2, zmul_4, zmul_6, zmul_8, zmul_10, zmul_24, zsub_1, zsub_2, zsub_10, zsub_48, zsub_97, zle_0, zle_1, zle_2, zle_6, zle_11, zle_200, zle_600, zle_100000000, ylt_0, ylt_1, ylt_2, ylt_3, ylt_6, ylt_9, ylt_20, ylt_24, ylt_57, ylt_60, ylt_99, ylt_120, ylt_122, ylt_999, ylt_9999, yle_0, yle_2, yle_4, yle_5, yle_6, yle_7, yle_8, yle_10, yle_12, yle_13, yle_15, yle_16, yle_20, yle_24, yle_40, yle_60, yle_64, yle_80, yadd_1, yadd_22, ymul_2, ymul_4, ymul_6, ymul_8, ymul_10, ymul_24, ymul_27, ymul_100, ysub_1, ysub_24, zdiv_2, zdiv_4, zdiv_24, e1, b0, b1, p0, z3c, z2, z3, s1]
theorem s_tell {d : Nat} (hD : 11 ≤ d) (a1 a2 : Int32) (M : Mem) (hI : INV M) : Stq L xs O (d + 1 + 1 + 1) q_L_tell q_X7_tell [.inl a1, .inl a2] M := by
  obtain ⟨T, As, n, nh, ns, nw, na, md, ia, ni, nt, mds, hC⟩ := hI
  have hM : CQ M (perfL T md.1 md.2.1) As n nh ns nw na M := ⟨Fr_refl, hC.2.1⟩
  have hV := hM.2.1
  have v5 : n ≤ 40 := hV.2.2.2.2.2.1
  have v6 : nh ≤ 8 := hV.2.2.2.2.2.2.1
  have v7 : ns ≤ 6 := hV.2.2.2.2.2.2.2.1
  have v8 : nw ≤ 8 := hV.2.2.2.2.2.2.2.2.1
  have h6 : na ≤ 6 := hM.2.2.2.2.1
  have g0 := (hM.2.2.1 3 0 rfl).trans hV.1
  have g4 := (hM.2.2.1 3 4 rfl).trans hV.2.1
  have g8 := (hM.2.2.1 3 8 rfl).trans hV.2.2.1
  have g13 := (hM.2.2.1 3 13 rfl).trans hV.2.2.2.1
  have g6 := hM.2.2.2.1
  have hp2 := pow_le8 (show ns ≤ 8 by omega)
  have s1 := shl1 ns (by omega)
  by_cases c1 : inN a1 nh
  · obtain ⟨j1, hj1, rfl⟩ := c1
    by_cases cl2 : a2 < (-2)
    · refine stp_r L xs O hC 2 2 (by omega) (by omega) (w_tell_2 L xs O (nI j1) (a2) M _ ?_) (b := .inl 0) ?_
      · refine (EX_in mi_X6_tell rfl rfl rfl (ls := [some (.inr (.inr (0, 0))), some (.inl (nI j1)), some (.inl (a2)), none]) rfl).trans ?_
        have q0 := x6_needHouse_in L xs O (D := d + 1) (by omega) (by omega) j1 M g4 hj1
        have q1 := x6_needArg_0 L xs O (D := d + 1) (by omega) M
        have q2 := x6_needArg_1 L xs O (D := d + 1) (by omega) M
        simp (disch := first | omega | rfl | decide) only [e_X6_tell_0, e_X6_tell_5, e_X6_tell_23, e_X6_tell_24, e_X6_tell_27, xr_v, xr_n, hl_of, hl_cl, hl_toInt, hl_le, hl_lt, hl_eq, nI_add, hl_sub, pk_mul, hl_div, if_pos, if_neg, ↓reduceIte, Nat.reduceAdd, Nat.reduceSub, Nat.reduceMul, Nat.add_zero, Nat.zero_add, mp_s, mp_k, mp_i, mp_g, mr_s, mr_i, mr_g, zlt_0, zlt_1, zlt_2, zlt_3, zlt_4, zlt_5, zlt_6, zlt_8, zlt_12, zlt_15, zlt_20, zlt_24, zlt_36, zlt_40, zlt_48, zlt_80, zlt_97, zlt_120, zlt_256, zlt_600, zlt_99999999, zadd_1, zadd_2, zadd_5, zadd_6, zadd_8, zadd_20, zadd_24, zeq_0, zeq_1, zeq_2, zeq_3, zeq_4, zeq_5, zeq_6, zeq_7, zeq_8, zeq_13, zeq_14, zeq_20, zeq_32, zeq_59, zeq_60, zeq_80, zmul_2, zmul_4, zmul_6, zmul_8, zmul_10, zmul_24, zsub_1, zsub_2, zsub_10, zsub_48, zsub_97, zle_0, zle_1, zle_2, zle_6, zle_11, zle_200, zle_600, zle_100000000, ylt_0, ylt_1, ylt_2, ylt_3, ylt_6, ylt_9, ylt_20, ylt_24, ylt_57, ylt_60, ylt_99, ylt_120, ylt_122, ylt_999, ylt_9999, yle_0, yle_2, yle_4, yle_5, yle_6, yle_7, yle_8, yle_10, yle_12, yle_13, yle_15, yle_16, yle_20, yle_24, yle_40, yle_60, yle_64, yle_80, yadd_1, yadd_22, ymul_2, ymul_4, ymul_6, ymul_8, ymul_10, ymul_24, ymul_27, ymul_100, ysub_1, ysub_24, zdiv_2, zdiv_4, zdiv_24, q0, q1, q2, cl2, g4, g8, g13, xr_t]
      · obtain ⟨M1, e1, fr1, hB1, t1⟩ := m_start (MB_ref hC.1 2)
        have z0 := hB1.2.1.1
        have z1 := hB1.2.1.2.1
        have z2 := hB1.2.1.2.2.1
        have z3 := hB1.2.1.2.2.2.1
        have z26 := hB1.2.2.2.2.1
        refine (EX_in mi_X7_tell rfl rfl rfl (ls := [some (.inr (.inr (40, 0))), some (.inl (nI j1)), some (.inl (a2)), none]) rfl).trans ?_
        have b0 := fun w q => x7_bad_0 L xs O (D := d + 1 + 1) (by omega) w q M1 t1
        have b1 : EX L xs (d + 1 + 1) q_X7_bad [.inr (.inr (40, 0)), .inl (1), .inl (2), .inl (2)] M1 O = (some (.inl (some (.inl (1))), refM M1 (nI 2) 2, O, 0, 0) : Res) := x7_bad_1 L xs O (by omega) 2 2 (by omega) (by decide) M1 t1
        have p0 := x7_isHouse_i L xs O (D := d + 1 + 1) (by omega) (by omega) j1 M1 z1 hj1
        have p2 := x7_r_lo L xs O (D := d + 1 + 1) (by omega) a2 (-2) 999 M1 cl2
        simp (disch := first | omega | rfl | decide) only [e_X7_tell_0, e_X7_tell_11, e_X7_tell_19, e_X7_tell_24, e_X7_tell_37, e_X7_tell_53, e_X7_tell_45, e_X7_tell_50, xr_v, xr_n, hl_of, hl_cl, hl_toInt, hl_le, hl_lt, hl_eq, nI_add, hl_sub, pk_mul, hl_div, if_pos, if_neg, ↓reduceIte, Nat.reduceAdd, Nat.reduceSub, Nat.reduceMul, Nat.add_zero, Nat.zero_add, mp_s, mp_k, mp_i, mp_g, mr_s, mr_i, mr_g, zlt_0, zlt_1, zlt_2, zlt_3, zlt_4, zlt_5, zlt_6, zlt_8, zlt_12, zlt_15, zlt_20, zlt_24, zlt_36, zlt_40, zlt_48, zlt_80, zlt_97, zlt_120, zlt_256, zlt_600, zlt_99999999, zadd_1, zadd_2, zadd_5, zadd_6, zadd_8, zadd_20, zadd_24, zeq_0, zeq_1, zeq_2, zeq_3, zeq_4, zeq_5, zeq_6, zeq_7, zeq_8, zeq_13, zeq_14, zeq_20, zeq_32, zeq_59, zeq_60, zeq_80, zmul_2, zmul_4, zmul_6, zmul_8, zmul_10, zmul_24, zsub_1, zsub_2, zsub_10, zsub_48, zsub_97, zle_0, zle_1, zle_2, zle_6, zle_11, zle_200, zle_600, zle_100000000, ylt_0, ylt_1, ylt_2, ylt_3, ylt_6, ylt_9, ylt_20, ylt_24, ylt_57, ylt_60, ylt_99, ylt_120, ylt_122, ylt_999, ylt_9999, yle_0, yle_2, yle_4, yle_5, yle_6, yle_7, yle_8, yle_10, yle_12, yle_13, yle_15, yle_16, yle_20, yle_24, yle_40, yle_60, yle_64, yle_80, yadd_1, yadd_22, ymul_2, ymul_4, ymul_6, ymul_8, ymul_10, ymul_24, ymul_27, ymul_100, ysub_1, ysub_24, zdiv_2, zdiv_4, zdiv_24, e1, b0, b1, p0, p2, z2, z3, s1]
    · by_cases ch2 : 999 < a2
      · refine stp_r L xs O hC 2 2 (by omega) (by omega) (w_tell_2 L xs O (nI j1) (a2) M _ ?_) (b := .inl 0) ?_
        · refine (EX_in mi_X6_tell rfl rfl rfl (ls := [some (.inr (.inr (0, 0))), some (.inl (nI j1)), some (.inl (a2)), none]) rfl).trans ?_
          have q0 := x6_needHouse_in L xs O (D := d + 1) (by omega) (by omega) j1 M g4 hj1
          have q1 := x6_needArg_0 L xs O (D := d + 1) (by omega) M
          have q2 := x6_needArg_1 L xs O (D := d + 1) (by omega) M
          simp (disch := first | omega | rfl | decide) only [e_X6_tell_0, e_X6_tell_5, e_X6_tell_23, e_X6_tell_24, e_X6_tell_27, xr_v, xr_n, hl_of, hl_cl, hl_toInt, hl_le, hl_lt, hl_eq, nI_add, hl_sub, pk_mul, hl_div, if_pos, if_neg, ↓reduceIte, Nat.reduceAdd, Nat.reduceSub, Nat.reduceMul, Nat.add_zero, Nat.zero_add, mp_s, mp_k, mp_i, mp_g, mr_s, mr_i, mr_g, zlt_0, zlt_1, zlt_2, zlt_3, zlt_4, zlt_5, zlt_6, zlt_8, zlt_12, zlt_15, zlt_20, zlt_24, zlt_36, zlt_40, zlt_48, zlt_80, zlt_97, zlt_120, zlt_256, zlt_600, zlt_99999999, zadd_1, zadd_2, zadd_5, zadd_6, zadd_8, zadd_20, zadd_24, zeq_0, zeq_1, zeq_2, zeq_3, zeq_4, zeq_5, zeq_6, zeq_7, zeq_8, zeq_13, zeq_14, zeq_20, zeq_32, zeq_59, zeq_60, zeq_80, zmul_2, zmul_4, zmul_6, zmul_8, zmul_10, zmul_24, zsub_1, zsub_2, zsub_10, zsub_48, zsub_97, zle_0, zle_1, zle_2, zle_6, zle_11, zle_200, zle_600, zle_100000000, ylt_0, ylt_1, ylt_2, ylt_3, ylt_6, ylt_9, ylt_20, ylt_24, ylt_57, ylt_60, ylt_99, ylt_120, ylt_122, ylt_999, ylt_9999, yle_0, yle_2, yle_4, yle_5, yle_6, yle_7, yle_8, yle_10, yle_12, yle_13, yle_15, yle_16, yle_20, yle_24, yle_40, yle_60, yle_64, yle_80, yadd_1, yadd_22, ymul_2, ymul_4, ymul_6, ymul_8, ymul_10, ymul_24, ymul_27, ymul_100, ysub_1, ysub_24, zdiv_2, zdiv_4, zdiv_24, q0, q1, q2, cl2, ch2, g4, g8, g13, xr_t]
        · obtain ⟨M1, e1, fr1, hB1, t1⟩ := m_start (MB_ref hC.1 2)
          have z0 := hB1.2.1.1
          have z1 := hB1.2.1.2.1
          have z2 := hB1.2.1.2.2.1
          have z3 := hB1.2.1.2.2.2.1
          have z26 := hB1.2.2.2.2.1
          refine (EX_in mi_X7_tell rfl rfl rfl (ls := [some (.inr (.inr (40, 0))), some (.inl (nI j1)), some (.inl (a2)), none]) rfl).trans ?_
          have b0 := fun w q => x7_bad_0 L xs O (D := d + 1 + 1) (by omega) w q M1 t1
          have b1 : EX L xs (d + 1 + 1) q_X7_bad [.inr (.inr (40, 0)), .inl (1), .inl (2), .inl (2)] M1 O = (some (.inl (some (.inl (1))), refM M1 (nI 2) 2, O, 0, 0) : Res) := x7_bad_1 L xs O (by omega) 2 2 (by omega) (by decide) M1 t1
          have p0 := x7_isHouse_i L xs O (D := d + 1 + 1) (by omega) (by omega) j1 M1 z1 hj1
          have p2 := x7_r_hi L xs O (D := d + 1 + 1) (by omega) a2 (-2) 999 M1 ch2
          simp (disch := first | omega | rfl | decide) only [e_X7_tell_0, e_X7_tell_11, e_X7_tell_19, e_X7_tell_24, e_X7_tell_37, e_X7_tell_53, e_X7_tell_45, e_X7_tell_50, xr_v, xr_n, hl_of, hl_cl, hl_toInt, hl_le, hl_lt, hl_eq, nI_add, hl_sub, pk_mul, hl_div, if_pos, if_neg, ↓reduceIte, Nat.reduceAdd, Nat.reduceSub, Nat.reduceMul, Nat.add_zero, Nat.zero_add, mp_s, mp_k, mp_i, mp_g, mr_s, mr_i, mr_g, zlt_0, zlt_1, zlt_2, zlt_3, zlt_4, zlt_5, zlt_6, zlt_8, zlt_12, zlt_15, zlt_20, zlt_24, zlt_36, zlt_40, zlt_48, zlt_80, zlt_97, zlt_120, zlt_256, zlt_600, zlt_99999999, zadd_1, zadd_2, zadd_5, zadd_6, zadd_8, zadd_20, zadd_24, zeq_0, zeq_1, zeq_2, zeq_3, zeq_4, zeq_5, zeq_6, zeq_7, zeq_8, zeq_13, zeq_14, zeq_20, zeq_32, zeq_59, zeq_60, zeq_80, zmul_2, zmul_4, zmul_6, zmul_8, zmul_10, zmul_24, zsub_1, zsub_2, zsub_10, zsub_48, zsub_97, zle_0, zle_1, zle_2, zle_6, zle_11, zle_200, zle_600, zle_100000000, ylt_0, ylt_1, ylt_2, ylt_3, ylt_6, ylt_9, ylt_20, ylt_24, ylt_57, ylt_60, ylt_99, ylt_120, ylt_122, ylt_999, ylt_9999, yle_0, yle_2, yle_4, yle_5, yle_6, yle_7, yle_8, yle_10, yle_12, yle_13, yle_15, yle_16, yle_20, yle_24, yle_40, yle_60, yle_64, yle_80, yadd_1, yadd_22, ymul_2, ymul_4, ymul_6, ymul_8, ymul_10, ymul_24, ymul_27, ymul_100, ysub_1, ysub_24, zdiv_2, zdiv_4, zdiv_24, e1, b0, b1, p0, p2, z2, z3, s1]
      · exact n_tell L xs O hD hC j1 a2 hj1 cl2 ch2
  · refine stp_r L xs O hC 1 1 (by omega) (by omega) (w_tell_1 L xs O (a1) (a2) M _ ?_) (b := .inl 0) ?_
    · refine (EX_in mi_X6_tell rfl rfl rfl (ls := [some (.inr (.inr (0, 0))), some (.inl (a1)), some (.inl (a2)), none]) rfl).trans ?_
      have q0 := x6_needHouse_out L xs O (D := d + 1) (by omega) (by omega) a1 M g4 c1
      simp (disch := first | omega | rfl | decide) only [e_X6_tell_0, e_X6_tell_5, e_X6_tell_23, e_X6_tell_24, e_X6_tell_27, xr_v, xr_n, hl_of, hl_cl, hl_toInt, hl_le, hl_lt, hl_eq, nI_add, hl_sub, pk_mul, hl_div, if_pos, if_neg, ↓reduceIte, Nat.reduceAdd, Nat.reduceSub, Nat.reduceMul, Nat.add_zero, Nat.zero_add, mp_s, mp_k, mp_i, mp_g, mr_s, mr_i, mr_g, zlt_0, zlt_1, zlt_2, zlt_3, zlt_4, zlt_5, zlt_6, zlt_8, zlt_12, zlt_15, zlt_20, zlt_24, zlt_36, zlt_40, zlt_48, zlt_80, zlt_97, zlt_120, zlt_256, zlt_600, zlt_99999999, zadd_1, zadd_2, zadd_5, zadd_6, zadd_8, zadd_20, zadd_24, zeq_0, zeq_1, zeq_2, zeq_3, zeq_4, zeq_5, zeq_6, zeq_7, zeq_8, zeq_13, zeq_14, zeq_20, zeq_32, zeq_59, zeq_60, zeq_80, zmul_2, zmul_4, zmul_6, zmul_8, zmul_10, zmul_24, zsub_1, zsub_2, zsub_10, zsub_48, zsub_97, zle_0, zle_1, zle_2, zle_6, zle_11, zle_200, zle_600, zle_100000000, ylt_0, ylt_1, ylt_2, ylt_3, ylt_6, ylt_9, ylt_20, ylt_24, ylt_57, ylt_60, ylt_99, ylt_120, ylt_122, ylt_999, ylt_9999, yle_0, yle_2, yle_4, yle_5, yle_6, yle_7, yle_8, yle_10, yle_12, yle_13, yle_15, yle_16, yle_20, yle_24, yle_40, yle_60, yle_64, yle_80, yadd_1, yadd_22, ymul_2, ymul_4, ymul_6, ymul_8, ymul_10, ymul_24, ymul_27, ymul_100, ysub_1, ysub_24, zdiv_2, zdiv_4, zdiv_24, q0, g4, g8, g13, xr_t]
    · obtain ⟨M1, e1, fr1, hB1, t1⟩ := m_start (MB_ref hC.1 1)
      have z0 := hB1.2.1.1
      have z1 := hB1.2.1.2.1
      have z2 := hB1.2.1.2.2.1
      have z3 := hB1.2.1.2.2.2.1
      have z26 := hB1.2.2.2.2.1
      refine (EX_in mi_X7_tell rfl rfl rfl (ls := [some (.inr (.inr (40, 0))), some (.inl (a1)), some (.inl (a2)), none]) rfl).trans ?_
      have b0 := fun w q => x7_bad_0 L xs O (D := d + 1 + 1) (by omega) w q M1 t1
      have b1 : EX L xs (d + 1 + 1) q_X7_bad [.inr (.inr (40, 0)), .inl (1), .inl (1), .inl (1)] M1 O = (some (.inl (some (.inl (1))), refM M1 (nI 1) 1, O, 0, 0) : Res) := x7_bad_1 L xs O (by omega) 1 1 (by omega) (by decide) M1 t1
      have p0 := x7_isHouse_o L xs O (D := d + 1 + 1) (by omega) (by omega) a1 M1 z1 c1
      simp (disch := first | omega | rfl | decide) only [e_X7_tell_0, e_X7_tell_11, e_X7_tell_19, e_X7_tell_24, e_X7_tell_37, e_X7_tell_53, e_X7_tell_45, e_X7_tell_50, xr_v, xr_n, hl_of, hl_cl, hl_toInt, hl_le, hl_lt, hl_eq, nI_add, hl_sub, pk_mul, hl_div, if_pos, if_neg, ↓reduceIte, Nat.reduceAdd, Nat.reduceSub, Nat.reduceMul, Nat.add_zero, Nat.zero_add, mp_s, mp_k, mp_i, mp_g, mr_s, mr_i, mr_g, zlt_0, zlt_1, zlt_2, zlt_3, zlt_4, zlt_5, zlt_6, zlt_8, zlt_12, zlt_15, zlt_20, zlt_24, zlt_36, zlt_40, zlt_48, zlt_80, zlt_97, zlt_120, zlt_256, zlt_600, zlt_99999999, zadd_1, zadd_2, zadd_5, zadd_6, zadd_8, zadd_20, zadd_24, zeq_0, zeq_1, zeq_2, zeq_3, zeq_4, zeq_5, zeq_6, zeq_7, zeq_8, zeq_13, zeq_14, zeq_20, zeq_32, zeq_59, zeq_60, zeq_80, zmul_2, zmul_4, zmul_6, zmul_8, zmul_10, zmul_24, zsub_1, zsub_2, zsub_10, zsub_48, zsub_97, zle_0, zle_1, zle_2, zle_6, zle_11, zle_200, zle_600, zle_100000000, ylt_0, ylt_1, ylt_2, ylt_3, ylt_6, ylt_9, ylt_20, ylt_24, ylt_57, ylt_60, ylt_99, ylt_120, ylt_122, ylt_999, ylt_9999, yle_0, yle_2, yle_4, yle_5, yle_6, yle_7, yle_8, yle_10, yle_12, yle_13, yle_15, yle_16, yle_20, yle_24, yle_40, yle_60, yle_64, yle_80, yadd_1, yadd_22, ymul_2, ymul_4, ymul_6, ymul_8, ymul_10, ymul_24, ymul_27, ymul_100, ysub_1, ysub_24, zdiv_2, zdiv_4, zdiv_24, e1, b0, b1, p0, z2, z3, s1]
theorem s_wagons {d : Nat} (hD : 11 ≤ d) (a1 a2 : Int32) (M : Mem) (hI : INV M) : Stq L xs O (d + 1 + 1 + 1) q_L_wagons q_X7_wagons [.inl a1, .inl a2] M := by
  obtain ⟨T, As, n, nh, ns, nw, na, md, ia, ni, nt, mds, hC⟩ := hI
  have hM : CQ M (perfL T md.1 md.2.1) As n nh ns nw na M := ⟨Fr_refl, hC.2.1⟩
  have hV := hM.2.1
  have v5 : n ≤ 40 := hV.2.2.2.2.2.1
  have v6 : nh ≤ 8 := hV.2.2.2.2.2.2.1
  have v7 : ns ≤ 6 := hV.2.2.2.2.2.2.2.1
  have v8 : nw ≤ 8 := hV.2.2.2.2.2.2.2.2.1
  have h6 : na ≤ 6 := hM.2.2.2.2.1
  have g0 := (hM.2.2.1 3 0 rfl).trans hV.1
  have g4 := (hM.2.2.1 3 4 rfl).trans hV.2.1
  have g8 := (hM.2.2.1 3 8 rfl).trans hV.2.2.1
  have g13 := (hM.2.2.1 3 13 rfl).trans hV.2.2.2.1
  have g6 := hM.2.2.2.1
  have hp2 := pow_le8 (show ns ≤ 8 by omega)
  have s1 := shl1 ns (by omega)
  by_cases cl1 : a1 < 1
  · refine stp_r L xs O hC 2 1 (by omega) (by omega) (w_wagons_2 L xs O (a1) (a2) M _ ?_) (b := .inl 0) ?_
    · refine (EX_in mi_X6_wagons rfl rfl rfl (ls := [some (.inr (.inr (0, 0))), some (.inl (a1)), some (.inl (a2)), none]) rfl).trans ?_
      have q0 := x6_needArg_0 L xs O (D := d + 1) (by omega) M
      have q1 := x6_needArg_1 L xs O (D := d + 1) (by omega) M
      simp (disch := first | omega | rfl | decide) only [e_X6_wagons_0, e_X6_wagons_16, e_X6_wagons_17, e_X6_wagons_20, e_X6_wagons_26, e_X6_wagons_64, xr_v, xr_n, hl_of, hl_cl, hl_toInt, hl_le, hl_lt, hl_eq, nI_add, hl_sub, pk_mul, hl_div, if_pos, if_neg, ↓reduceIte, Nat.reduceAdd, Nat.reduceSub, Nat.reduceMul, Nat.add_zero, Nat.zero_add, mp_s, mp_k, mp_i, mp_g, mr_s, mr_i, mr_g, zlt_0, zlt_1, zlt_2, zlt_3, zlt_4, zlt_5, zlt_6, zlt_8, zlt_12, zlt_15, zlt_20, zlt_24, zlt_36, zlt_40, zlt_48, zlt_80, zlt_97, zlt_120, zlt_256, zlt_600, zlt_99999999, zadd_1, zadd_2, zadd_5, zadd_6, zadd_8, zadd_20, zadd_24, zeq_0, zeq_1, zeq_2, zeq_3, zeq_4, zeq_5, zeq_6, zeq_7, zeq_8, zeq_13, zeq_14, zeq_20, zeq_32, zeq_59, zeq_60, zeq_80, zmul_2, zmul_4, zmul_6, zmul_8, zmul_10, zmul_24, zsub_1, zsub_2, zsub_10, zsub_48, zsub_97, zle_0, zle_1, zle_2, zle_6, zle_11, zle_200, zle_600, zle_100000000, ylt_0, ylt_1, ylt_2, ylt_3, ylt_6, ylt_9, ylt_20, ylt_24, ylt_57, ylt_60, ylt_99, ylt_120, ylt_122, ylt_999, ylt_9999, yle_0, yle_2, yle_4, yle_5, yle_6, yle_7, yle_8, yle_10, yle_12, yle_13, yle_15, yle_16, yle_20, yle_24, yle_40, yle_60, yle_64, yle_80, yadd_1, yadd_22, ymul_2, ymul_4, ymul_6, ymul_8, ymul_10, ymul_24, ymul_27, ymul_100, ysub_1, ysub_24, zdiv_2, zdiv_4, zdiv_24, q0, q1, cl1, g4, g8, g13, xr_t]
    · obtain ⟨M1, e1, fr1, hB1, t1⟩ := m_start (MB_ref hC.1 2)
      have z0 := hB1.2.1.1
      have z1 := hB1.2.1.2.1
      have z2 := hB1.2.1.2.2.1
      have z3 := hB1.2.1.2.2.2.1
      have z26 := hB1.2.2.2.2.1
      refine (EX_in mi_X7_wagons rfl rfl rfl (ls := [some (.inr (.inr (40, 0))), some (.inl (a1)), some (.inl (a2)), none]) rfl).trans ?_
      have b0 := fun w q => x7_bad_0 L xs O (D := d + 1 + 1) (by omega) w q M1 t1
      have b1 : EX L xs (d + 1 + 1) q_X7_bad [.inr (.inr (40, 0)), .inl (1), .inl (1), .inl (2)] M1 O = (some (.inl (some (.inl (1))), refM M1 (nI 1) 2, O, 0, 0) : Res) := x7_bad_1 L xs O (by omega) 1 2 (by omega) (by decide) M1 t1
      have p1 := x7_r_lo L xs O (D := d + 1 + 1) (by omega) a1 1 99 M1 cl1
      simp (disch := first | omega | rfl | decide) only [e_X7_wagons_0, e_X7_wagons_13, e_X7_wagons_25, e_X7_wagons_22, e_X7_wagons_30, e_X7_wagons_35, e_X7_wagons_59, e_X7_wagons_101, xr_v, xr_n, hl_of, hl_cl, hl_toInt, hl_le, hl_lt, hl_eq, nI_add, hl_sub, pk_mul, hl_div, if_pos, if_neg, ↓reduceIte, Nat.reduceAdd, Nat.reduceSub, Nat.reduceMul, Nat.add_zero, Nat.zero_add, mp_s, mp_k, mp_i, mp_g, mr_s, mr_i, mr_g, zlt_0, zlt_1, zlt_2, zlt_3, zlt_4, zlt_5, zlt_6, zlt_8, zlt_12, zlt_15, zlt_20, zlt_24, zlt_36, zlt_40, zlt_48, zlt_80, zlt_97, zlt_120, zlt_256, zlt_600, zlt_99999999, zadd_1, zadd_2, zadd_5, zadd_6, zadd_8, zadd_20, zadd_24, zeq_0, zeq_1, zeq_2, zeq_3, zeq_4, zeq_5, zeq_6, zeq_7, zeq_8, zeq_13, zeq_14, zeq_20, zeq_32, zeq_59, zeq_60, zeq_80, zmul_2, zmul_4, zmul_6, zmul_8, zmul_10, zmul_24, zsub_1, zsub_2, zsub_10, zsub_48, zsub_97, zle_0, zle_1, zle_2, zle_6, zle_11, zle_200, zle_600, zle_100000000, ylt_0, ylt_1, ylt_2, ylt_3, ylt_6, ylt_9, ylt_20, ylt_24, ylt_57, ylt_60, ylt_99, ylt_120, ylt_122, ylt_999, ylt_9999, yle_0, yle_2, yle_4, yle_5, yle_6, yle_7, yle_8, yle_10, yle_12, yle_13, yle_15, yle_16, yle_20, yle_24, yle_40, yle_60, yle_64, yle_80, yadd_1, yadd_22, ymul_2, ymul_4, ymul_6, ymul_8, ymul_10, ymul_24, ymul_27, ymul_100, ysub_1, ysub_24, zdiv_2, zdiv_4, zdiv_24, e1, b0, b1, p1, z2, z3, s1]
  · by_cases ch1 : 99 < a1
    · refine stp_r L xs O hC 2 1 (by omega) (by omega) (w_wagons_2 L xs O (a1) (a2) M _ ?_) (b := .inl 0) ?_
      · refine (EX_in mi_X6_wagons rfl rfl rfl (ls := [some (.inr (.inr (0, 0))), some (.inl (a1)), some (.inl (a2)), none]) rfl).trans ?_
        have q0 := x6_needArg_0 L xs O (D := d + 1) (by omega) M
        have q1 := x6_needArg_1 L xs O (D := d + 1) (by omega) M
        simp (disch := first | omega | rfl | decide) only [e_X6_wagons_0, e_X6_wagons_16, e_X6_wagons_17, e_X6_wagons_20, e_X6_wagons_26, e_X6_wagons_64, xr_v, xr_n, hl_of, hl_cl, hl_toInt, hl_le, hl_lt, hl_eq, nI_add, hl_sub, pk_mul, hl_div, if_pos, if_neg, ↓reduceIte, Nat.reduceAdd, Nat.reduceSub, Nat.reduceMul, Nat.add_zero, Nat.zero_add, mp_s, mp_k, mp_i, mp_g, mr_s, mr_i, mr_g, zlt_0, zlt_1, zlt_2, zlt_3, zlt_4, zlt_5, zlt_6, zlt_8, zlt_12, zlt_15, zlt_20, zlt_24, zlt_36, zlt_40, zlt_48, zlt_80, zlt_97, zlt_120, zlt_256, zlt_600, zlt_99999999, zadd_1, zadd_2, zadd_5, zadd_6, zadd_8, zadd_20, zadd_24, zeq_0, zeq_1, zeq_2, zeq_3, zeq_4, zeq_5, zeq_6, zeq_7, zeq_8, zeq_13, zeq_14, zeq_20, zeq_32, zeq_59, zeq_60, zeq_80, zmul_2, zmul_4, zmul_6, zmul_8, zmul_10, zmul_24, zsub_1, zsub_2, zsub_10, zsub_48, zsub_97, zle_0, zle_1, zle_2, zle_6, zle_11, zle_200, zle_600, zle_100000000, ylt_0, ylt_1, ylt_2, ylt_3, ylt_6, ylt_9, ylt_20, ylt_24, ylt_57, ylt_60, ylt_99, ylt_120, ylt_122, ylt_999, ylt_9999, yle_0, yle_2, yle_4, yle_5, yle_6, yle_7, yle_8, yle_10, yle_12, yle_13, yle_15, yle_16, yle_20, yle_24, yle_40, yle_60, yle_64, yle_80, yadd_1, yadd_22, ymul_2, ymul_4, ymul_6, ymul_8, ymul_10, ymul_24, ymul_27, ymul_100, ysub_1, ysub_24, zdiv_2, zdiv_4, zdiv_24, q0, q1, cl1, ch1, g4, g8, g13, xr_t]
      · obtain ⟨M1, e1, fr1, hB1, t1⟩ := m_start (MB_ref hC.1 2)
        have z0 := hB1.2.1.1
        have z1 := hB1.2.1.2.1
        have z2 := hB1.2.1.2.2.1
        have z3 := hB1.2.1.2.2.2.1
        have z26 := hB1.2.2.2.2.1
        refine (EX_in mi_X7_wagons rfl rfl rfl (ls := [some (.inr (.inr (40, 0))), some (.inl (a1)), some (.inl (a2)), none]) rfl).trans ?_
        have b0 := fun w q => x7_bad_0 L xs O (D := d + 1 + 1) (by omega) w q M1 t1
        have b1 : EX L xs (d + 1 + 1) q_X7_bad [.inr (.inr (40, 0)), .inl (1), .inl (1), .inl (2)] M1 O = (some (.inl (some (.inl (1))), refM M1 (nI 1) 2, O, 0, 0) : Res) := x7_bad_1 L xs O (by omega) 1 2 (by omega) (by decide) M1 t1
        have p1 := x7_r_hi L xs O (D := d + 1 + 1) (by omega) a1 1 99 M1 ch1
        simp (disch := first | omega | rfl | decide) only [e_X7_wagons_0, e_X7_wagons_13, e_X7_wagons_25, e_X7_wagons_22, e_X7_wagons_30, e_X7_wagons_35, e_X7_wagons_59, e_X7_wagons_101, xr_v, xr_n, hl_of, hl_cl, hl_toInt, hl_le, hl_lt, hl_eq, nI_add, hl_sub, pk_mul, hl_div, if_pos, if_neg, ↓reduceIte, Nat.reduceAdd, Nat.reduceSub, Nat.reduceMul, Nat.add_zero, Nat.zero_add, mp_s, mp_k, mp_i, mp_g, mr_s, mr_i, mr_g, zlt_0, zlt_1, zlt_2, zlt_3, zlt_4, zlt_5, zlt_6, zlt_8, zlt_12, zlt_15, zlt_20, zlt_24, zlt_36, zlt_40, zlt_48, zlt_80, zlt_97, zlt_120, zlt_256, zlt_600, zlt_99999999, zadd_1, zadd_2, zadd_5, zadd_6, zadd_8, zadd_20, zadd_24, zeq_0, zeq_1, zeq_2, zeq_3, zeq_4, zeq_5, zeq_6, zeq_7, zeq_8, zeq_13, zeq_14, zeq_20, zeq_32, zeq_59, zeq_60, zeq_80, zmul_2, zmul_4, zmul_6, zmul_8, zmul_10, zmul_24, zsub_1, zsub_2, zsub_10, zsub_48, zsub_97, zle_0, zle_1, zle_2, zle_6, zle_11, zle_200, zle_600, zle_100000000, ylt_0, ylt_1, ylt_2, ylt_3, ylt_6, ylt_9, ylt_20, ylt_24, ylt_57, ylt_60, ylt_99, ylt_120, ylt_122, ylt_999, ylt_9999, yle_0, yle_2, yle_4, yle_5, yle_6, yle_7, yle_8, yle_10, yle_12, yle_13, yle_15, yle_16, yle_20, yle_24, yle_40, yle_60, yle_64, yle_80, yadd_1, yadd_22, ymul_2, ymul_4, ymul_6, ymul_8, ymul_10, ymul_24, ymul_27, ymul_100, ysub_1, ysub_24, zdiv_2, zdiv_4, zdiv_24, e1, b0, b1, p1, z2, z3, s1]
    · obtain ⟨j1, hl1, hh1, rfl⟩ := rn_nat 1 99 (by omega) (by omega) cl1 ch1
      by_cases c2 : inN a2 2
      · obtain ⟨j2, hj2, rfl⟩ := c2
        exact n_wagons L xs O hD hC j1 j2 hl1 hh1 hj2
      · refine stp_r L xs O hC 2 1 (by omega) (by omega) (w_wagons_2 L xs O (nI j1) (a2) M _ ?_) (b := .inl 0) ?_
        · refine (EX_in mi_X6_wagons rfl rfl rfl (ls := [some (.inr (.inr (0, 0))), some (.inl (nI j1)), some (.inl (a2)), none]) rfl).trans ?_
          have q0 := x6_needArg_1 L xs O (D := d + 1) (by omega) M
          have q1 := x6_w2_out L xs O (D := d + 1) (by omega) a2 M c2
          simp (disch := first | omega | rfl | decide) only [e_X6_wagons_0, e_X6_wagons_16, e_X6_wagons_17, e_X6_wagons_20, e_X6_wagons_26, e_X6_wagons_64, xr_v, xr_n, hl_of, hl_cl, hl_toInt, hl_le, hl_lt, hl_eq, nI_add, hl_sub, pk_mul, hl_div, if_pos, if_neg, ↓reduceIte, Nat.reduceAdd, Nat.reduceSub, Nat.reduceMul, Nat.add_zero, Nat.zero_add, mp_s, mp_k, mp_i, mp_g, mr_s, mr_i, mr_g, zlt_0, zlt_1, zlt_2, zlt_3, zlt_4, zlt_5, zlt_6, zlt_8, zlt_12, zlt_15, zlt_20, zlt_24, zlt_36, zlt_40, zlt_48, zlt_80, zlt_97, zlt_120, zlt_256, zlt_600, zlt_99999999, zadd_1, zadd_2, zadd_5, zadd_6, zadd_8, zadd_20, zadd_24, zeq_0, zeq_1, zeq_2, zeq_3, zeq_4, zeq_5, zeq_6, zeq_7, zeq_8, zeq_13, zeq_14, zeq_20, zeq_32, zeq_59, zeq_60, zeq_80, zmul_2, zmul_4, zmul_6, zmul_8, zmul_10, zmul_24, zsub_1, zsub_2, zsub_10, zsub_48, zsub_97, zle_0, zle_1, zle_2, zle_6, zle_11, zle_200, zle_600, zle_100000000, ylt_0, ylt_1, ylt_2, ylt_3, ylt_6, ylt_9, ylt_20, ylt_24, ylt_57, ylt_60, ylt_99, ylt_120, ylt_122, ylt_999, ylt_9999, yle_0, yle_2, yle_4, yle_5, yle_6, yle_7, yle_8, yle_10, yle_12, yle_13, yle_15, yle_16, yle_20, yle_24, yle_40, yle_60, yle_64, yle_80, yadd_1, yadd_22, ymul_2, ymul_4, ymul_6, ymul_8, ymul_10, ymul_24, ymul_27, ymul_100, ysub_1, ysub_24, zdiv_2, zdiv_4, zdiv_24, q0, q1, g4, g8, g13, xr_t]
        · obtain ⟨M1, e1, fr1, hB1, t1⟩ := m_start (MB_ref hC.1 2)
          have z0 := hB1.2.1.1
          have z1 := hB1.2.1.2.1
          have z2 := hB1.2.1.2.2.1
          have z3 := hB1.2.1.2.2.2.1
          have z26 := hB1.2.2.2.2.1
          refine (EX_in mi_X7_wagons rfl rfl rfl (ls := [some (.inr (.inr (40, 0))), some (.inl (nI j1)), some (.inl (a2)), none]) rfl).trans ?_
          have b0 := fun w q => x7_bad_0 L xs O (D := d + 1 + 1) (by omega) w q M1 t1
          have b1 : EX L xs (d + 1 + 1) q_X7_bad [.inr (.inr (40, 0)), .inl (1), .inl (1), .inl (2)] M1 O = (some (.inl (some (.inl (1))), refM M1 (nI 1) 2, O, 0, 0) : Res) := x7_bad_1 L xs O (by omega) 1 2 (by omega) (by decide) M1 t1
          have p0 := (x7_r_in L xs O (D := d + 1 + 1) (by omega) (nI j1) 1 99 M1 cl1 ch1)
          have p1 := x7_i2_out L xs O (D := d + 1 + 1) (by omega) a2 M1 c2
          simp (disch := first | omega | rfl | decide) only [e_X7_wagons_0, e_X7_wagons_13, e_X7_wagons_25, e_X7_wagons_22, e_X7_wagons_30, e_X7_wagons_35, e_X7_wagons_59, e_X7_wagons_101, xr_v, xr_n, hl_of, hl_cl, hl_toInt, hl_le, hl_lt, hl_eq, nI_add, hl_sub, pk_mul, hl_div, if_pos, if_neg, ↓reduceIte, Nat.reduceAdd, Nat.reduceSub, Nat.reduceMul, Nat.add_zero, Nat.zero_add, mp_s, mp_k, mp_i, mp_g, mr_s, mr_i, mr_g, zlt_0, zlt_1, zlt_2, zlt_3, zlt_4, zlt_5, zlt_6, zlt_8, zlt_12, zlt_15, zlt_20, zlt_24, zlt_36, zlt_40, zlt_48, zlt_80, zlt_97, zlt_120, zlt_256, zlt_600, zlt_99999999, zadd_1, zadd_2, zadd_5, zadd_6, zadd_8, zadd_20, zadd_24, zeq_0, zeq_1, zeq_2, zeq_3, zeq_4, zeq_5, zeq_6, zeq_7, zeq_8, zeq_13, zeq_14, zeq_20, zeq_32, zeq_59, zeq_60, zeq_80, zmul_2, zmul_4, zmul_6, zmul_8, zmul_10, zmul_24, zsub_1, zsub_2, zsub_10, zsub_48, zsub_97, zle_0, zle_1, zle_2, zle_6, zle_11, zle_200, zle_600, zle_100000000, ylt_0, ylt_1, ylt_2, ylt_3, ylt_6, ylt_9, ylt_20, ylt_24, ylt_57, ylt_60, ylt_99, ylt_120, ylt_122, ylt_999, ylt_9999, yle_0, yle_2, yle_4, yle_5, yle_6, yle_7, yle_8, yle_10, yle_12, yle_13, yle_15, yle_16, yle_20, yle_24, yle_40, yle_60, yle_64, yle_80, yadd_1, yadd_22, ymul_2, ymul_4, ymul_6, ymul_8, ymul_10, ymul_24, ymul_27, ymul_100, ysub_1, ysub_24, zdiv_2, zdiv_4, zdiv_24, e1, b0, b1, p0, p1, z2, z3, s1]
end
