/-! Questions: one call on both sides (printed by wip/gen/gen10.py). -/
theorem rn_nat {a : Int32} (lo hi : Nat) (h0 : lo < 2147483648) (h9 : hi < 2147483648) (h1 : ¬ a < nI lo) (h2 : ¬ nI hi < a) : ∃ l, lo ≤ l ∧ l ≤ hi ∧ a = nI l := by
  rw [i_lt, hl_toInt h0] at h1
  rw [i_lt, hl_toInt h9] at h2
  obtain ⟨e, h3, h4⟩ := i_nat (x := a) (by omega)
  exact ⟨a.toNatClampNeg, by omega, by omega, e⟩
section
variable (L : Nat) (xs : Nat → Int32) (O : Int64)
theorem x7_sb_in {D : Nat} (hD : 2 ≤ D) {ns : Nat} (h8 : ns ≤ 8) (t : Int32) (M : Mem) (ht : inN t (2 ^ ns)) : EX L xs (D) q_X7_in [.inl (t), .inl (0), .inl (nI (2 ^ ns) - 1)] M O = (some (.inl (some (.inl (1))), M, O, 0, 0) : Res) := by
  have hp := pow_le8 h8
  obtain ⟨j, hj, rfl⟩ := ht
  rw [zsub_1 (by omega)]
  exact x7_in_in L xs O hD (2 ^ ns) j (by omega) M hj
end
section
variable (L : Nat) (xs : Nat → Int32) (O : Int64)
variable {T : Vw} {As : Nat → Nat → Int32} {n nh ns nw na : Nat} {md : Md} {ia ni nt : Nat} {mds : Nat → Md} {M : Mem}
theorem stp_qn {D E yl yc ym : Nat} {as : List AV} {v : Int32} (hC : CORE T As n nh ns nw na md ia ni nt mds M)
    (h1 : isI (EX L xs E yc (.inr (.inr (0, 0)) :: as) M O) O v (CQ M (perfL T md.1 md.2.1) As n nh ns nw na))
    (hw : ∀ M1, EX L xs E yc (.inr (.inr (0, 0)) :: as) M O = some (.inl (some (.inl v)), M1, O, 0, 0) → EX L xs D yl (.inr (.inr (0, 0)) :: (as ++ [.inr (.inr (83, 0))])) M O = some (.inl (some (.inl 0)), M1, v.toInt64, 0, 0))
    (h2 : ∀ M1 O1, MB M1 T md.1 As n nh ns nw na md.2.1 → isN (EX L xs D ym (.inr (.inr (40, 0)) :: as) M1 O1) O1 v 1 8 (MP M1)) : Stq L xs O D yl ym as M := by
  obtain ⟨M1, q1, hQ⟩ := h1
  obtain ⟨M2, q2, hP⟩ := h2 M1 v.toInt64 (MB_X hC.1 (Fr_mono (fun _ _ _ => sX_C) hQ.1))
  exact ⟨0, M1, v.toInt64, 0, 0, hw M1 q1, by omega, by omega, by omega, .inl v, M2, 1, 8, q2, by omega, by omega, hP.2, fun _ => rfl, ⟨T, As, n, nh, ns, nw, na, md, ia, ni, nt, mds, CORE_q hC hQ hP.1⟩⟩
theorem stp_ql {D E yl yc ym : Nat} {as : List AV} {v : Int64} (hC : CORE T As n nh ns nw na md ia ni nt mds M)
    (h1 : isL (EX L xs E yc (.inr (.inr (0, 0)) :: as) M O) O v (CQ M (perfL T md.1 md.2.1) As n nh ns nw na))
    (hw : ∀ M1, EX L xs E yc (.inr (.inr (0, 0)) :: as) M O = some (.inl (some (.inr (.inl v))), M1, O, 0, 0) → EX L xs D yl (.inr (.inr (0, 0)) :: (as ++ [.inr (.inr (83, 0))])) M O = some (.inl (some (.inl 0)), M1, v, 0, 0))
    (h2 : ∀ M1 O1, MB M1 T md.1 As n nh ns nw na md.2.1 → (∀ k, k < 8 → M1 69 0 k = md.2.2.1 k) → isL (EX L xs D ym (.inr (.inr (40, 0)) :: as) M1 O1) O1 v (MP M1)) : Stq L xs O D yl ym as M := by
  obtain ⟨M1, q1, hQ⟩ := h1
  have fr := Fr_mono (fun _ _ _ => sX_C) hQ.1
  obtain ⟨M2, q2, hP⟩ := h2 M1 v (MB_X hC.1 fr) (MMd_X hC.2.2.2.2.1.2.2 fr).2.2.1
  exact ⟨0, M1, v, 0, 0, hw M1 q1, by omega, by omega, by omega, .inr (.inl v), M2, 0, 0, q2, by omega, by omega, hP.2, fun _ => rfl, ⟨T, As, n, nh, ns, nw, na, md, ia, ni, nt, mds, CORE_q hC hQ hP.1⟩⟩
end
section
variable (L : Nat) (xs : Nat → Int32) (O : Int64)
theorem s_told {d : Nat} (hD : 11 ≤ d) (a1 : Int32) (M : Mem) (hI : INV M) : Stq L xs O (d + 1 + 1 + 1) q_L_told q_X7_told [.inl a1] M := by
  obtain ⟨T, As, n, nh, ns, nw, na, md, ia, ni, nt, mds, hC⟩ := hI
  have hM : CQ M (perfL T md.1 md.2.1) As n nh ns nw na M := ⟨Fr_refl, hC.2.1⟩
  have hV := hM.2.1
  have v5 : n ≤ 40 := hV.2.2.2.2.2.1
  have v6 : nh ≤ 8 := hV.2.2.2.2.2.2.1
  have v7 : ns ≤ 6 := hV.2.2.2.2.2.2.2.1
  have v8 : nw ≤ 8 := hV.2.2.2.2.2.2.2.2.1
  have h6 : na ≤ 6 := hM.2.2.2.2.1
  have g0 := (hM.2.2.1 3 0 rfl).trans hV.1
  have g4 := (hM.2.2.1 3 4 rfl).trans hV.2.1
  have g8 := (hM.2.2.1 3 8 rfl).trans hV.2.2.1
  have g13 := (hM.2.2.1 3 13 rfl).trans hV.2.2.2.1
  have g6 := hM.2.2.2.1
  have hp2 := pow_le8 (show ns ≤ 8 by omega)
  have s1 := shl1 ns (by omega)
  by_cases c1 : inN a1 5
  · obtain ⟨j1, hj1, rfl⟩ := c1
    exact stp_q L xs O hC (c_told L xs O (D := d + 1 + 1) (by omega) j1 hj1 M hM) (fun M1 h => w_told_v L xs O (nI j1) _ M M1 h) (fun M1 O1 hB => m_told L xs O1 (D := d + 1 + 1 + 1) (by omega) j1 hj1 M1 hB)
  · refine stp_r L xs O hC 2 1 (by omega) (by omega) (w_told_2 L xs O (a1) M _ ?_) (b := .inl 0) ?_
    · refine (EX_in mi_X6_told rfl rfl rfl (ls := [some (.inr (.inr (0, 0))), some (.inl (a1))]) rfl).trans ?_
      have q0 := x6_w5_out L xs O (D := d + 1) (by omega) a1 M c1
      simp (disch := first | omega | rfl | decide) only [e_X6_told_0, e_X6_told_6, e_X6_told_7_c0, e_X6_told_7_c1, e_X6_told_7_c2, e_X6_told_7_c3, e_X6_told_7_d, e_X6_told_44, e_X6_told_52, e_X6_told_68, e_X6_told_60, e_X6_told_36, xr_v, xr_n, hl_of, hl_cl, hl_toInt, hl_le, hl_lt, hl_eq, nI_add, hl_sub, pk_mul, hl_div, if_pos, if_neg, ↓reduceIte, Nat.reduceAdd, Nat.reduceSub, Nat.reduceMul, Nat.add_zero, Nat.zero_add, mp_s, mp_k, mp_i, mp_g, mr_s, mr_i, mr_g, zlt_0, zlt_1, zlt_2, zlt_3, zlt_4, zlt_5, zlt_6, zlt_8, zlt_12, zlt_15, zlt_20, zlt_24, zlt_36, zlt_40, zlt_48, zlt_80, zlt_97, zlt_120, zlt_256, zlt_600, zlt_99999999, zadd_1, zadd_2, zadd_5, zadd_6, zadd_8, zadd_20, zadd_24, zeq_0, zeq_1, zeq_2, zeq_3, zeq_4, zeq_5, zeq_6, zeq_7, zeq_8, zeq_13, zeq_14, zeq_20, zeq_32, zeq_59, zeq_60, zeq_80, zmul_2, zmul_4, zmul_6, zmul_8, zmul_10, zmul_24, zsub_1, zsub_2, zsub_10, zsub_48, zsub_97, zle_0, zle_1, zle_2, zle_6, zle_11, zle_200, zle_600, zle_100000000, ylt_0, ylt_1, ylt_2, ylt_3, ylt_6, ylt_9, ylt_20, ylt_24, ylt_57, ylt_60, ylt_99, ylt_120, ylt_122, ylt_999, ylt_9999, yle_0, yle_2, yle_4, yle_5, yle_6, yle_7, yle_8, yle_10, yle_12, yle_13, yle_15, yle_16, yle_20, yle_24, yle_40, yle_60, yle_64, yle_80, yadd_1, yadd_22, ymul_2, ymul_4, ymul_6, ymul_8, ymul_10, ymul_24, ymul_27, ymul_100, ysub_1, ysub_24, zdiv_2, zdiv_4, zdiv_24, q0, g4, g8, g13, xr_t]
    · obtain ⟨M1, e1, fr1, hB1, t1⟩ := m_start (MB_ref hC.1 2)
      have z0 := hB1.2.1.1
      have z1 := hB1.2.1.2.1
      have z2 := hB1.2.1.2.2.1
      have z3 := hB1.2.1.2.2.2.1
      have z26 := hB1.2.2.2.2.1
      refine (EX_in mi_X7_told rfl rfl rfl (ls := [some (.inr (.inr (40, 0))), some (.inl (a1))]) rfl).trans ?_
      have b0 := fun w q => x7_bad_0 L xs O (D := d + 1 + 1) (by omega) w q M1 t1
      have b1 : EX L xs (d + 1 + 1) q_X7_bad [.inr (.inr (40, 0)), .inl (1), .inl (1), .inl (2)] M1 O = (some (.inl (some (.inl (1))), refM M1 (nI 1) 2, O, 0, 0) : Res) := x7_bad_1 L xs O (by omega) 1 2 (by omega) (by decide) M1 t1
      have p0 := x7_i5_out L xs O (D := d + 1 + 1) (by omega) a1 M1 c1
      simp (disch := first | omega | rfl | decide) only [e_X7_told_0, e_X7_told_12, e_X7_told_20, e_X7_told_25, e_X7_told_48, xr_v, xr_n, hl_of, hl_cl, hl_toInt, hl_le, hl_lt, hl_eq, nI_add, hl_sub, pk_mul, hl_div, if_pos, if_neg, ↓reduceIte, Nat.reduceAdd, Nat.reduceSub, Nat.reduceMul, Nat.add_zero, Nat.zero_add, mp_s, mp_k, mp_i, mp_g, mr_s, mr_i, mr_g, zlt_0, zlt_1, zlt_2, zlt_3, zlt_4, zlt_5, zlt_6, zlt_8, zlt_12, zlt_15, zlt_20, zlt_24, zlt_36, zlt_40, zlt_48, zlt_80, zlt_97, zlt_120, zlt_256, zlt_600, zlt_99999999, zadd_1, zadd_2, zadd_5, zadd_6, zadd_8, zadd_20, zadd_24, zeq_0, zeq_1, zeq_2, zeq_3, zeq_4, zeq_5, zeq_6, zeq_7, zeq_8, zeq_13, zeq_14, zeq_20, zeq_32, zeq_59, zeq_60, zeq_80, zmul_2, zmul_4, zmul_6, zmul_8, zmul_10, zmul_24, zsub_1, zsub_2, zsub_10, zsub_48, zsub_97, zle_0, zle_1, zle_2, zle_6, zle_11, zle_200, zle_600, zle_100000000, ylt_0, ylt_1, ylt_2, ylt_3, ylt_6, ylt_9, ylt_20, ylt_24, ylt_57, ylt_60, ylt_99, ylt_120, ylt_122, ylt_999, ylt_9999, yle_0, yle_2, yle_4, yle_5, yle_6, yle_7, yle_8, yle_10, yle_12, yle_13, yle_15, yle_16, yle_20, yle_24, yle_40, yle_60, yle_64, yle_80, yadd_1, yadd_22, ymul_2, ymul_4, ymul_6, ymul_8, ymul_10, ymul_24, ymul_27, ymul_100, ysub_1, ysub_24, zdiv_2, zdiv_4, zdiv_24, e1, b0, b1, p0, z2, z3, s1]
theorem s_cell {d : Nat} (hD : 11 ≤ d) (a1 a2 : Int32) (M : Mem) (hI : INV M) : Stq L xs O (d + 1 + 1 + 1) q_L_cell q_X7_cell [.inl a1, .inl a2] M := by
  obtain ⟨T, As, n, nh, ns, nw, na, md, ia, ni, nt, mds, hC⟩ := hI
  have hM : CQ M (perfL T md.1 md.2.1) As n nh ns nw na M := ⟨Fr_refl, hC.2.1⟩
  have hV := hM.2.1
  have v5 : n ≤ 40 := hV.2.2.2.2.2.1
  have v6 : nh ≤ 8 := hV.2.2.2.2.2.2.1
  have v7 : ns ≤ 6 := hV.2.2.2.2.2.2.2.1
  have v8 : nw ≤ 8 := hV.2.2.2.2.2.2.2.2.1
  have h6 : na ≤ 6 := hM.2.2.2.2.1
  have g0 := (hM.2.2.1 3 0 rfl).trans hV.1
  have g4 := (hM.2.2.1 3 4 rfl).trans hV.2.1
  have g8 := (hM.2.2.1 3 8 rfl).trans hV.2.2.1
  have g13 := (hM.2.2.1 3 13 rfl).trans hV.2.2.2.1
  have g6 := hM.2.2.2.1
  have hp2 := pow_le8 (show ns ≤ 8 by omega)
  have s1 := shl1 ns (by omega)
  by_cases c1 : inN a1 n
  · obtain ⟨j1, hj1, rfl⟩ := c1
    by_cases c2 : inN a2 3
    · obtain ⟨j2, hj2, rfl⟩ := c2
      exact stp_q L xs O hC (c_cell L xs O (D := d + 1 + 1) (by omega) j1 j2 hj1 hj2 M hM) (fun M1 h => w_cell_v L xs O (nI j1) (nI j2) _ M M1 h) (fun M1 O1 hB => m_cell L xs O1 (D := d + 1 + 1 + 1) (by omega) j1 j2 hj1 hj2 M1 hB)
    · refine stp_r L xs O hC 2 2 (by omega) (by omega) (w_cell_2 L xs O (nI j1) (a2) M _ ?_) (b := .inl 0) ?_
      · refine (EX_in mi_X6_cell rfl rfl rfl (ls := [some (.inr (.inr (0, 0))), some (.inl (nI j1)), some (.inl (a2))]) rfl).trans ?_
        have q0 := x6_needCell_in L xs O (D := d + 1) (by omega) v5 j1 M g0 hj1
        have q1 := x6_w3_out L xs O (D := d + 1) (by omega) a2 M c2
        simp (disch := first | omega | rfl | decide) only [e_X6_cell_0, e_X6_cell_5, e_X6_cell_11, e_X6_cell_12_c0, e_X6_cell_12_c1, e_X6_cell_12_d, e_X6_cell_60, e_X6_cell_40, e_X6_cell_50, xr_v, xr_n, hl_of, hl_cl, hl_toInt, hl_le, hl_lt, hl_eq, nI_add, hl_sub, pk_mul, hl_div, if_pos, if_neg, ↓reduceIte, Nat.reduceAdd, Nat.reduceSub, Nat.reduceMul, Nat.add_zero, Nat.zero_add, mp_s, mp_k, mp_i, mp_g, mr_s, mr_i, mr_g, zlt_0, zlt_1, zlt_2, zlt_3, zlt_4, zlt_5, zlt_6, zlt_8, zlt_12, zlt_15, zlt_20, zlt_24, zlt_36, zlt_40, zlt_48, zlt_80, zlt_97, zlt_120, zlt_256, zlt_600, zlt_99999999, zadd_1, zadd_2, zadd_5, zadd_6, zadd_8, zadd_20, zadd_24, zeq_0, zeq_1, zeq_2, zeq_3, zeq_4, zeq_5, zeq_6, zeq_7, zeq_8, zeq_13, zeq_14, zeq_20, zeq_32, zeq_59, zeq_60, zeq_80, zmul_2, zmul_4, zmul_6, zmul_8, zmul_10, zmul_24, zsub_1, zsub_2, zsub_10, zsub_48, zsub_97, zle_0, zle_1, zle_2, zle_6, zle_11, zle_200, zle_600, zle_100000000, ylt_0, ylt_1, ylt_2, ylt_3, ylt_6, ylt_9, ylt_20, ylt_24, ylt_57, ylt_60, ylt_99, ylt_120, ylt_122, ylt_999, ylt_9999, yle_0, yle_2, yle_4, yle_5, yle_6, yle_7, yle_8, yle_10, yle_12, yle_13, yle_15, yle_16, yle_20, yle_24, yle_40, yle_60, yle_64, yle_80, yadd_1, yadd_22, ymul_2, ymul_4, ymul_6, ymul_8, ymul_10, ymul_24, ymul_27, ymul_100, ysub_1, ysub_24, zdiv_2, zdiv_4, zdiv_24, q0, q1, g4, g8, g13, xr_t]
      · obtain ⟨M1, e1, fr1, hB1, t1⟩ := m_start (MB_ref hC.1 2)
        have z0 := hB1.2.1.1
        have z1 := hB1.2.1.2.1
        have z2 := hB1.2.1.2.2.1
        have z3 := hB1.2.1.2.2.2.1
        have z26 := hB1.2.2.2.2.1
        refine (EX_in mi_X7_cell rfl rfl rfl (ls := [some (.inr (.inr (40, 0))), some (.inl (nI j1)), some (.inl (a2))]) rfl).trans ?_
        have b0 := fun w q => x7_bad_0 L xs O (D := d + 1 + 1) (by omega) w q M1 t1
        have b1 : EX L xs (d + 1 + 1) q_X7_bad [.inr (.inr (40, 0)), .inl (1), .inl (2), .inl (2)] M1 O = (some (.inl (some (.inl (1))), refM M1 (nI 2) 2, O, 0, 0) : Res) := x7_bad_1 L xs O (by omega) 2 2 (by omega) (by decide) M1 t1
        have p0 := x7_isCell_i L xs O (D := d + 1 + 1) (by omega) (by omega) j1 M1 z0 hj1
        have p1 := x7_i3_out L xs O (D := d + 1 + 1) (by omega) a2 M1 c2
        simp (disch := first | omega | rfl | decide) only [e_X7_cell_0, e_X7_cell_11, e_X7_cell_19, e_X7_cell_24, e_X7_cell_34, e_X7_cell_50, e_X7_cell_42, e_X7_cell_47, e_X7_cell_56, e_X7_cell_89, xr_v, xr_n, hl_of, hl_cl, hl_toInt, hl_le, hl_lt, hl_eq, nI_add, hl_sub, pk_mul, hl_div, if_pos, if_neg, ↓reduceIte, Nat.reduceAdd, Nat.reduceSub, Nat.reduceMul, Nat.add_zero, Nat.zero_add, mp_s, mp_k, mp_i, mp_g, mr_s, mr_i, mr_g, zlt_0, zlt_1, zlt_2, zlt_3, zlt_4, zlt_5, zlt_6, zlt_8, zlt_12, zlt_15, zlt_20, zlt_24, zlt_36, zlt_40, zlt_48, zlt_80, zlt_97, zlt_120, zlt_256, zlt_600, zlt_99999999, zadd_1, zadd_2, zadd_5, zadd_6, zadd_8, zadd_20, zadd_24, zeq_0, zeq_1, zeq_2, zeq_3, zeq_4, zeq_5, zeq_6, zeq_7, zeq_8, zeq_13, zeq_14, zeq_20, zeq_32, zeq_59, zeq_60, zeq_80, zmul_2, zmul_4, zmul_6, zmul_8, zmul_10, zmul_24, zsub_1, zsub_2, zsub_10, zsub_48, zsub_97, zle_0, zle_1, zle_2, zle_6, zle_11, zle_200, zle_600, zle_100000000, ylt_0, ylt_1, ylt_2, ylt_3, ylt_6, ylt_9, ylt_20, ylt_24, ylt_57, ylt_60, ylt_99, ylt_120, ylt_122, ylt_999, ylt_9999, yle_0, yle_2, yle_4, yle_5, yle_6, yle_7, yle_8, yle_10, yle_12, yle_13, yle_15, yle_16, yle_20, yle_24, yle_40, yle_60, yle_64, yle_80, yadd_1, yadd_22, ymul_2, ymul_4, ymul_6, ymul_8, ymul_10, ymul_24, ymul_27, ymul_100, ysub_1, ysub_24, zdiv_2, zdiv_4, zdiv_24, e1, b0, b1, p0, p1, z2, z3, s1]
  · refine stp_r L xs O hC 0 1 (by omega) (by omega) (w_cell_0 L xs O (a1) (a2) M _ ?_) (b := .inl 0) ?_
    · refine (EX_in mi_X6_cell rfl rfl rfl (ls := [some (.inr (.inr (0, 0))), some (.inl (a1)), some (.inl (a2))]) rfl).trans ?_
      have q0 := x6_needCell_out L xs O (D := d + 1) (by omega) v5 a1 M g0 c1
      simp (disch := first | omega | rfl | decide) only [e_X6_cell_0, e_X6_cell_5, e_X6_cell_11, e_X6_cell_12_c0, e_X6_cell_12_c1, e_X6_cell_12_d, e_X6_cell_60, e_X6_cell_40, e_X6_cell_50, xr_v, xr_n, hl_of, hl_cl, hl_toInt, hl_le, hl_lt, hl_eq, nI_add, hl_sub, pk_mul, hl_div, if_pos, if_neg, ↓reduceIte, Nat.reduceAdd, Nat.reduceSub, Nat.reduceMul, Nat.add_zero, Nat.zero_add, mp_s, mp_k, mp_i, mp_g, mr_s, mr_i, mr_g, zlt_0, zlt_1, zlt_2, zlt_3, zlt_4, zlt_5, zlt_6, zlt_8, zlt_12, zlt_15, zlt_20, zlt_24, zlt_36, zlt_40, zlt_48, zlt_80, zlt_97, zlt_120, zlt_256, zlt_600, zlt_99999999, zadd_1, zadd_2, zadd_5, zadd_6, zadd_8, zadd_20, zadd_24, zeq_0, zeq_1, zeq_2, zeq_3, zeq_4, zeq_5, zeq_6, zeq_7, zeq_8, zeq_13, zeq_14, zeq_20, zeq_32, zeq_59, zeq_60, zeq_80, zmul_2, zmul_4, zmul_6, zmul_8, zmul_10, zmul_24, zsub_1, zsub_2, zsub_10, zsub_48, zsub_97, zle_0, zle_1, zle_2, zle_6, zle_11, zle_200, zle_600, zle_100000000, ylt_0, ylt_1, ylt_2, ylt_3, ylt_6, ylt_9, ylt_20, ylt_24, ylt_57, ylt_60, ylt_99, ylt_120, ylt_122, ylt_999, ylt_9999, yle_0, yle_2, yle_4, yle_5, yle_6, yle_7, yle_8, yle_10, yle_12, yle_13, yle_15, yle_16, yle_20, yle_24, yle_40, yle_60, yle_64, yle_80, yadd_1, yadd_22, ymul_2, ymul_4, ymul_6, ymul_8, ymul_10, ymul_24, ymul_27, ymul_100, ysub_1, ysub_24, zdiv_2, zdiv_4, zdiv_24, q0, g4, g8, g13, xr_t]
    · obtain ⟨M1, e1, fr1, hB1, t1⟩ := m_start (MB_ref hC.1 0)
      have z0 := hB1.2.1.1
      have z1 := hB1.2.1.2.1
      have z2 := hB1.2.1.2.2.1
      have z3 := hB1.2.1.2.2.2.1
      have z26 := hB1.2.2.2.2.1
      refine (EX_in mi_X7_cell rfl rfl rfl (ls := [some (.inr (.inr (40, 0))), some (.inl (a1)), some (.inl (a2))]) rfl).trans ?_
      have b0 := fun w q => x7_bad_0 L xs O (D := d + 1 + 1) (by omega) w q M1 t1
      have b1 : EX L xs (d + 1 + 1) q_X7_bad [.inr (.inr (40, 0)), .inl (1), .inl (1), .inl (0)] M1 O = (some (.inl (some (.inl (1))), refM M1 (nI 1) 0, O, 0, 0) : Res) := x7_bad_1 L xs O (by omega) 1 0 (by omega) (by decide) M1 t1
      have p0 := x7_isCell_o L xs O (D := d + 1 + 1) (by omega) (by omega) a1 M1 z0 c1
      simp (disch := first | omega | rfl | decide) only [e_X7_cell_0, e_X7_cell_11, e_X7_cell_19, e_X7_cell_24, e_X7_cell_34, e_X7_cell_50, e_X7_cell_42, e_X7_cell_47, e_X7_cell_56, e_X7_cell_89, xr_v, xr_n, hl_of, hl_cl, hl_toInt, hl_le, hl_lt, hl_eq, nI_add, hl_sub, pk_mul, hl_div, if_pos, if_neg, ↓reduceIte, Nat.reduceAdd, Nat.reduceSub, Nat.reduceMul, Nat.add_zero, Nat.zero_add, mp_s, mp_k, mp_i, mp_g, mr_s, mr_i, mr_g, zlt_0, zlt_1, zlt_2, zlt_3, zlt_4, zlt_5, zlt_6, zlt_8, zlt_12, zlt_15, zlt_20, zlt_24, zlt_36, zlt_40, zlt_48, zlt_80, zlt_97, zlt_120, zlt_256, zlt_600, zlt_99999999, zadd_1, zadd_2, zadd_5, zadd_6, zadd_8, zadd_20, zadd_24, zeq_0, zeq_1, zeq_2, zeq_3, zeq_4, zeq_5, zeq_6, zeq_7, zeq_8, zeq_13, zeq_14, zeq_20, zeq_32, zeq_59, zeq_60, zeq_80, zmul_2, zmul_4, zmul_6, zmul_8, zmul_10, zmul_24, zsub_1, zsub_2, zsub_10, zsub_48, zsub_97, zle_0, zle_1, zle_2, zle_6, zle_11, zle_200, zle_600, zle_100000000, ylt_0, ylt_1, ylt_2, ylt_3, ylt_6, ylt_9, ylt_20, ylt_24, ylt_57, ylt_60, ylt_99, ylt_120, ylt_122, ylt_999, ylt_9999, yle_0, yle_2, yle_4, yle_5, yle_6, yle_7, yle_8, yle_10, yle_12, yle_13, yle_15, yle_16, yle_20, yle_24, yle_40, yle_60, yle_64, yle_80, yadd_1, yadd_22, ymul_2, ymul_4, ymul_6, ymul_8, ymul_10, ymul_24, ymul_27, ymul_100, ysub_1, ysub_24, zdiv_2, zdiv_4, zdiv_24, e1, b0, b1, p0, z2, z3, s1]
theorem s_hum {d : Nat} (hD : 11 ≤ d) (a1 : Int32) (M : Mem) (hI : INV M) : Stq L xs O (d + 1 + 1 + 1) q_L_hum q_X7_hum [.inl a1] M := by
  obtain ⟨T, As, n, nh, ns, nw, na, md, ia, ni, nt, mds, hC⟩ := hI
  have hM : CQ M (perfL T md.1 md.2.1) As n nh ns nw na M := ⟨Fr_refl, hC.2.1⟩
  have hV := hM.2.1
  have v5 : n ≤ 40 := hV.2.2.2.2.2.1
  have v6 : nh ≤ 8 := hV.2.2.2.2.2.2.1
  have v7 : ns ≤ 6 := hV.2.2.2.2.2.2.2.1
  have v8 : nw ≤ 8 := hV.2.2.2.2.2.2.2.2.1
  have h6 : na ≤ 6 := hM.2.2.2.2.1
  have g0 := (hM.2.2.1 3 0 rfl).trans hV.1
  have g4 := (hM.2.2.1 3 4 rfl).trans hV.2.1
  have g8 := (hM.2.2.1 3 8 rfl).trans hV.2.2.1
  have g13 := (hM.2.2.1 3 13 rfl).trans hV.2.2.2.1
  have g6 := hM.2.2.2.1
  have hp2 := pow_le8 (show ns ≤ 8 by omega)
  have s1 := shl1 ns (by omega)
  by_cases c1 : inN a1 24
  · obtain ⟨j1, hj1, rfl⟩ := c1
    exact stp_q L xs O hC (c_hum L xs O (D := d + 1 + 1) (by omega) j1 hj1 M hM) (fun M1 h => w_hum_v L xs O (nI j1) _ M M1 h) (fun M1 O1 hB => m_hum L xs O1 (D := d + 1 + 1 + 1) (by omega) j1 hj1 M1 hB)
  · refine stp_r L xs O hC 2 1 (by omega) (by omega) (w_hum_2 L xs O (a1) M _ ?_) (b := .inl 0) ?_
    · refine (EX_in mi_X6_hum rfl rfl rfl (ls := [some (.inr (.inr (0, 0))), some (.inl (a1))]) rfl).trans ?_
      have q0 := x6_needHour_out L xs O (D := d + 1) (by omega) a1 M c1
      simp (disch := first | omega | rfl | decide) only [e_X6_hum_0, e_X6_hum_5, e_X6_hum_13, xr_v, xr_n, hl_of, hl_cl, hl_toInt, hl_le, hl_lt, hl_eq, nI_add, hl_sub, pk_mul, hl_div, if_pos, if_neg, ↓reduceIte, Nat.reduceAdd, Nat.reduceSub, Nat.reduceMul, Nat.add_zero, Nat.zero_add, mp_s, mp_k, mp_i, mp_g, mr_s, mr_i, mr_g, zlt_0, zlt_1, zlt_2, zlt_3, zlt_4, zlt_5, zlt_6, zlt_8, zlt_12, zlt_15, zlt_20, zlt_24, zlt_36, zlt_40, zlt_48, zlt_80, zlt_97, zlt_120, zlt_256, zlt_600, zlt_99999999, zadd_1, zadd_2, zadd_5, zadd_6, zadd_8, zadd_20, zadd_24, zeq_0, zeq_1, zeq_2, zeq_3, zeq_4, zeq_5, zeq_6, zeq_7, zeq_8, zeq_13, zeq_14, zeq_20, zeq_32, zeq_59, zeq_60, zeq_80, zmul_2, zmul_4, zmul_6, zmul_8, zmul_10, zmul_24, zsub_1, zsub_2, zsub_10, zsub_48, zsub_97, zle_0, zle_1, zle_2, zle_6, zle_11, zle_200, zle_600, zle_100000000, ylt_0, ylt_1, ylt_2, ylt_3, ylt_6, ylt_9, ylt_20, ylt_24, ylt_57, ylt_60, ylt_99, ylt_120, ylt_122, ylt_999, ylt_9999, yle_0, yle_2, yle_4, yle_5, yle_6, yle_7, yle_8, yle_10, yle_12, yle_13, yle_15, yle_16, yle_20, yle_24, yle_40, yle_60, yle_64, yle_80, yadd_1, yadd_22, ymul_2, ymul_4, ymul_6, ymul_8, ymul_10, ymul_24, ymul_27, ymul_100, ysub_1, ysub_24, zdiv_2, zdiv_4, zdiv_24, q0, g4, g8, g13, xr_t]
    · obtain ⟨M1, e1, fr1, hB1, t1⟩ := m_start (MB_ref hC.1 2)
      have z0 := hB1.2.1.1
      have z1 := hB1.2.1.2.1
      have z2 := hB1.2.1.2.2.1
      have z3 := hB1.2.1.2.2.2.1
      have z26 := hB1.2.2.2.2.1
      refine (EX_in mi_X7_hum rfl rfl rfl (ls := [some (.inr (.inr (40, 0))), some (.inl (a1))]) rfl).trans ?_
      have b0 := fun w q => x7_bad_0 L xs O (D := d + 1 + 1) (by omega) w q M1 t1
      have b1 : EX L xs (d + 1 + 1) q_X7_bad [.inr (.inr (40, 0)), .inl (1), .inl (1), .inl (2)] M1 O = (some (.inl (some (.inl (1))), refM M1 (nI 1) 2, O, 0, 0) : Res) := x7_bad_1 L xs O (by omega) 1 2 (by omega) (by decide) M1 t1
      have p0 := x7_isHour_o L xs O (D := d + 1 + 1) (by omega) a1 M1 c1
      simp (disch := first | omega | rfl | decide) only [e_X7_hum_0, e_X7_hum_10, e_X7_hum_18, e_X7_hum_23, e_X7_hum_33, xr_v, xr_n, hl_of, hl_cl, hl_toInt, hl_le, hl_lt, hl_eq, nI_add, hl_sub, pk_mul, hl_div, if_pos, if_neg, ↓reduceIte, Nat.reduceAdd, Nat.reduceSub, Nat.reduceMul, Nat.add_zero, Nat.zero_add, mp_s, mp_k, mp_i, mp_g, mr_s, mr_i, mr_g, zlt_0, zlt_1, zlt_2, zlt_3, zlt_4, zlt_5, zlt_6, zlt_8, zlt_12, zlt_15, zlt_20, zlt_24, zlt_36, zlt_40, zlt_48, zlt_80, zlt_97, zlt_120, zlt_256, zlt_600, zlt_99999999, zadd_1, zadd_2, zadd_5, zadd_6, zadd_8, zadd_20, zadd_24, zeq_0, zeq_1, zeq_2, zeq_3, zeq_4, zeq_5, zeq_6, zeq_7, zeq_8, zeq_13, zeq_14, zeq_20, zeq_32, zeq_59, zeq_60, zeq_80, zmul_2, zmul_4, zmul_6, zmul_8, zmul_10, zmul_24, zsub_1, zsub_2, zsub_10, zsub_48, zsub_97, zle_0, zle_1, zle_2, zle_6, zle_11, zle_200, zle_600, zle_100000000, ylt_0, ylt_1, ylt_2, ylt_3, ylt_6, ylt_9, ylt_20, ylt_24, ylt_57, ylt_60, ylt_99, ylt_120, ylt_122, ylt_999, ylt_9999, yle_0, yle_2, yle_4, yle_5, yle_6, yle_7, yle_8, yle_10, yle_12, yle_13, yle_15, yle_16, yle_20, yle_24, yle_40, yle_60, yle_64, yle_80, yadd_1, yadd_22, ymul_2, ymul_4, ymul_6, ymul_8, ymul_10, ymul_24, ymul_27, ymul_100, ysub_1, ysub_24, zdiv_2, zdiv_4, zdiv_24, e1, b0, b1, p0, z2, z3, s1]
theorem s_ear {d : Nat} (hD : 11 ≤ d) (a1 : Int32) (M : Mem) (hI : INV M) : Stq L xs O (d + 1 + 1 + 1) q_L_ear q_X7_ear [.inl a1] M := by
  obtain ⟨T, As, n, nh, ns, nw, na, md, ia, ni, nt, mds, hC⟩ := hI
  have hM : CQ M (perfL T md.1 md.2.1) As n nh ns nw na M := ⟨Fr_refl, hC.2.1⟩
  have hV := hM.2.1
  have v5 : n ≤ 40 := hV.2.2.2.2.2.1
  have v6 : nh ≤ 8 := hV.2.2.2.2.2.2.1
  have v7 : ns ≤ 6 := hV.2.2.2.2.2.2.2.1
  have v8 : nw ≤ 8 := hV.2.2.2.2.2.2.2.2.1
  have h6 : na ≤ 6 := hM.2.2.2.2.1
  have g0 := (hM.2.2.1 3 0 rfl).trans hV.1
  have g4 := (hM.2.2.1 3 4 rfl).trans hV.2.1
  have g8 := (hM.2.2.1 3 8 rfl).trans hV.2.2.1
  have g13 := (hM.2.2.1 3 13 rfl).trans hV.2.2.2.1
  have g6 := hM.2.2.2.1
  have hp2 := pow_le8 (show ns ≤ 8 by omega)
  have s1 := shl1 ns (by omega)
  by_cases c1 : inN a1 nh
  · obtain ⟨j1, hj1, rfl⟩ := c1
    exact stp_q L xs O hC (c_ear L xs O (D := d + 1 + 1) (by omega) j1 hj1 M hM) (fun M1 h => w_ear_v L xs O (nI j1) _ M M1 h) (fun M1 O1 hB => m_ear L xs O1 (D := d + 1 + 1 + 1) (by omega) j1 hj1 M1 hB)
  · refine stp_r L xs O hC 1 1 (by omega) (by omega) (w_ear_1 L xs O (a1) M _ ?_) (b := .inl 0) ?_
    · refine (EX_in mi_X6_ear rfl rfl rfl (ls := [some (.inr (.inr (0, 0))), some (.inl (a1))]) rfl).trans ?_
      have q0 := x6_needHouse_out L xs O (D := d + 1) (by omega) (by omega) a1 M g4 c1
      simp (disch := first | omega | rfl | decide) only [e_X6_ear_0, e_X6_ear_5, xr_v, xr_n, hl_of, hl_cl, hl_toInt, hl_le, hl_lt, hl_eq, nI_add, hl_sub, pk_mul, hl_div, if_pos, if_neg, ↓reduceIte, Nat.reduceAdd, Nat.reduceSub, Nat.reduceMul, Nat.add_zero, Nat.zero_add, mp_s, mp_k, mp_i, mp_g, mr_s, mr_i, mr_g, zlt_0, zlt_1, zlt_2, zlt_3, zlt_4, zlt_5, zlt_6, zlt_8, zlt_12, zlt_15, zlt_20, zlt_24, zlt_36, zlt_40, zlt_48, zlt_80, zlt_97, zlt_120, zlt_256, zlt_600, zlt_99999999, zadd_1, zadd_2, zadd_5, zadd_6, zadd_8, zadd_20, zadd_24, zeq_0, zeq_1, zeq_2, zeq_3, zeq_4, zeq_5, zeq_6, zeq_7, zeq_8, zeq_13, zeq_14, zeq_20, zeq_32, zeq_59, zeq_60, zeq_80, zmul_2, zmul_4, zmul_6, zmul_8, zmul_10, zmul_24, zsub_1, zsub_2, zsub_10, zsub_48, zsub_97, zle_0, zle_1, zle_2, zle_6, zle_11, zle_200, zle_600, zle_100000000, ylt_0, ylt_1, ylt_2, ylt_3, ylt_6, ylt_9, ylt_20, ylt_24, ylt_57, ylt_60, ylt_99, ylt_120, ylt_122, ylt_999, ylt_9999, yle_0, yle_2, yle_4, yle_5, yle_6, yle_7, yle_8, yle_10, yle_12, yle_13, yle_15, yle_16, yle_20, yle_24, yle_40, yle_60, yle_64, yle_80, yadd_1, yadd_22, ymul_2, ymul_4, ymul_6, ymul_8, ymul_10, ymul_24, ymul_27, ymul_100, ysub_1, ysub_24, zdiv_2, zdiv_4, zdiv_24, q0, g4, g8, g13, xr_t]
    · obtain ⟨M1, e1, fr1, hB1, t1⟩ := m_start (MB_ref hC.1 1)
      have z0 := hB1.2.1.1
      have z1 := hB1.2.1.2.1
      have z2 := hB1.2.1.2.2.1
      have z3 := hB1.2.1.2.2.2.1
      have z26 := hB1.2.2.2.2.1
      refine (EX_in mi_X7_ear rfl rfl rfl (ls := [some (.inr (.inr (40, 0))), some (.inl (a1))]) rfl).trans ?_
      have b0 := fun w q => x7_bad_0 L xs O (D := d + 1 + 1) (by omega) w q M1 t1
      have b1 : EX L xs (d + 1 + 1) q_X7_bad [.inr (.inr (40, 0)), .inl (1), .inl (1), .inl (1)] M1 O = (some (.inl (some (.inl (1))), refM M1 (nI 1) 1, O, 0, 0) : Res) := x7_bad_1 L xs O (by omega) 1 1 (by omega) (by decide) M1 t1
      have p0 := x7_isHouse_o L xs O (D := d + 1 + 1) (by omega) (by omega) a1 M1 z1 c1
      simp (disch := first | omega | rfl | decide) only [e_X7_ear_0, e_X7_ear_11, e_X7_ear_19, e_X7_ear_24, e_X7_ear_33, xr_v, xr_n, hl_of, hl_cl, hl_toInt, hl_le, hl_lt, hl_eq, nI_add, hl_sub, pk_mul, hl_div, if_pos, if_neg, ↓reduceIte, Nat.reduceAdd, Nat.reduceSub, Nat.reduceMul, Nat.add_zero, Nat.zero_add, mp_s, mp_k, mp_i, mp_g, mr_s, mr_i, mr_g, zlt_0, zlt_1, zlt_2, zlt_3, zlt_4, zlt_5, zlt_6, zlt_8, zlt_12, zlt_15, zlt_20, zlt_24, zlt_36, zlt_40, zlt_48, zlt_80, zlt_97, zlt_120, zlt_256, zlt_600, zlt_99999999, zadd_1, zadd_2, zadd_5, zadd_6, zadd_8, zadd_20, zadd_24, zeq_0, zeq_1, zeq_2, zeq_3, zeq_4, zeq_5, zeq_6, zeq_7, zeq_8, zeq_13, zeq_14, zeq_20, zeq_32, zeq_59, zeq_60, zeq_80, zmul_2, zmul_4, zmul_6, zmul_8, zmul_10, zmul_24, zsub_1, zsub_2, zsub_10, zsub_48, zsub_97, zle_0, zle_1, zle_2, zle_6, zle_11, zle_200, zle_600, zle_100000000, ylt_0, ylt_1, ylt_2, ylt_3, ylt_6, ylt_9, ylt_20, ylt_24, ylt_57, ylt_60, ylt_99, ylt_120, ylt_122, ylt_999, ylt_9999, yle_0, yle_2, yle_4, yle_5, yle_6, yle_7, yle_8, yle_10, yle_12, yle_13, yle_15, yle_16, yle_20, yle_24, yle_40, yle_60, yle_64, yle_80, yadd_1, yadd_22, ymul_2, ymul_4, ymul_6, ymul_8, ymul_10, ymul_24, ymul_27, ymul_100, ysub_1, ysub_24, zdiv_2, zdiv_4, zdiv_24, e1, b0, b1, p0, z2, z3, s1]
theorem s_loud {d : Nat} (hD : 11 ≤ d) (a1 a2 a3 : Int32) (M : Mem) (hI : INV M) : Stq L xs O (d + 1 + 1 + 1) q_L_loud q_X7_loud [.inl a1, .inl a2, .inl a3] M := by
  obtain ⟨T, As, n, nh, ns, nw, na, md, ia, ni, nt, mds, hC⟩ := hI
  have hM : CQ M (perfL T md.1 md.2.1) As n nh ns nw na M := ⟨Fr_refl, hC.2.1⟩
  have hV := hM.2.1
  have v5 : n ≤ 40 := hV.2.2.2.2.2.1
  have v6 : nh ≤ 8 := hV.2.2.2.2.2.2.1
  have v7 : ns ≤ 6 := hV.2.2.2.2.2.2.2.1
  have v8 : nw ≤ 8 := hV.2.2.2.2.2.2.2.2.1
  have h6 : na ≤ 6 := hM.2.2.2.2.1
  have g0 := (hM.2.2.1 3 0 rfl).trans hV.1
  have g4 := (hM.2.2.1 3 4 rfl).trans hV.2.1
  have g8 := (hM.2.2.1 3 8 rfl).trans hV.2.2.1
  have g13 := (hM.2.2.1 3 13 rfl).trans hV.2.2.2.1
  have g6 := hM.2.2.2.1
  have hp2 := pow_le8 (show ns ≤ 8 by omega)
  have s1 := shl1 ns (by omega)
  by_cases c1 : inN a1 n
  · obtain ⟨j1, hj1, rfl⟩ := c1
    by_cases c2 : inN a2 na
    · obtain ⟨j2, hj2, rfl⟩ := c2
      by_cases c3 : inN a3 ns
      · obtain ⟨j3, hj3, rfl⟩ := c3
        exact stp_q L xs O hC (c_loud L xs O (D := d + 1 + 1) (by omega) j1 j2 j3 hj1 hj2 hj3 M hM) (fun M1 h => w_loud_v L xs O (nI j1) (nI j2) (nI j3) _ M M1 h) (fun M1 O1 hB => m_loud L xs O1 (D := d + 1 + 1 + 1) (by omega) j1 j2 j3 hj1 hj2 hj3 M1 hB)
      · refine stp_r L xs O hC 1 2 (by omega) (by omega) (w_loud_1 L xs O (nI j1) (nI j2) (a3) M _ ?_) (b := .inl 0) ?_
        · refine (EX_in mi_X6_loud rfl rfl rfl (ls := [some (.inr (.inr (0, 0))), some (.inl (nI j1)), some (.inl (nI j2)), some (.inl (a3))]) rfl).trans ?_
          have q0 := x6_needCell_in L xs O (D := d + 1) (by omega) v5 j1 M g0 hj1
          have q1 := x6_needAir_in L xs O (D := d + 1) (by omega) (by omega) j2 M g6 hj2
          have q2 := x6_needSource_out L xs O (D := d + 1) (by omega) (by omega) a3 M g8 c3
          simp (disch := first | omega | rfl | decide) only [e_X6_loud_0, e_X6_loud_5, e_X6_loud_10, e_X6_loud_15, e_X6_loud_21, xr_v, xr_n, hl_of, hl_cl, hl_toInt, hl_le, hl_lt, hl_eq, nI_add, hl_sub, pk_mul, hl_div, if_pos, if_neg, ↓reduceIte, Nat.reduceAdd, Nat.reduceSub, Nat.reduceMul, Nat.add_zero, Nat.zero_add, mp_s, mp_k, mp_i, mp_g, mr_s, mr_i, mr_g, zlt_0, zlt_1, zlt_2, zlt_3, zlt_4, zlt_5, zlt_6, zlt_8, zlt_12, zlt_15, zlt_20, zlt_24, zlt_36, zlt_40, zlt_48, zlt_80, zlt_97, zlt_120, zlt_256, zlt_600, zlt_99999999, zadd_1, zadd_2, zadd_5, zadd_6, zadd_8, zadd_20, zadd_24, zeq_0, zeq_1, zeq_2, zeq_3, zeq_4, zeq_5, zeq_6, zeq_7, zeq_8, zeq_13, zeq_14, zeq_20, zeq_32, zeq_59, zeq_60, zeq_80, zmul_2, zmul_4, zmul_6, zmul_8, zmul_10, zmul_24, zsub_1, zsub_2, zsub_10, zsub_48, zsub_97, zle_0, zle_1, zle_2, zle_6, zle_11, zle_200, zle_600, zle_100000000, ylt_0, ylt_1, ylt_2, ylt_3, ylt_6, ylt_9, ylt_20, ylt_24, ylt_57, ylt_60, ylt_99, ylt_120, ylt_122, ylt_999, ylt_9999, yle_0, yle_2, yle_4, yle_5, yle_6, yle_7, yle_8, yle_10, yle_12, yle_13, yle_15, yle_16, yle_20, yle_24, yle_40, yle_60, yle_64, yle_80, yadd_1, yadd_22, ymul_2, ymul_4, ymul_6, ymul_8, ymul_10, ymul_24, ymul_27, ymul_100, ysub_1, ysub_24, zdiv_2, zdiv_4, zdiv_24, q0, q1, q2, g4, g8, g13, xr_t]
        · obtain ⟨M1, e1, fr1, hB1, t1⟩ := m_start (MB_ref hC.1 1)
          have z0 := hB1.2.1.1
          have z1 := hB1.2.1.2.1
          have z2 := hB1.2.1.2.2.1
          have z3 := hB1.2.1.2.2.2.1
          have z26 := hB1.2.2.2.2.1
          refine (EX_in mi_X7_loud rfl rfl rfl (ls := [some (.inr (.inr (40, 0))), some (.inl (nI j1)), some (.inl (nI j2)), some (.inl (a3))]) rfl).trans ?_
          have b0 := fun w q => x7_bad_0 L xs O (D := d + 1 + 1) (by omega) w q M1 t1
          have b1 : EX L xs (d + 1 + 1) q_X7_bad [.inr (.inr (40, 0)), .inl (1), .inl (2), .inl (1)] M1 O = (some (.inl (some (.inl (1))), refM M1 (nI 2) 1, O, 0, 0) : Res) := x7_bad_1 L xs O (by omega) 2 1 (by omega) (by decide) M1 t1
          have p0 := x7_isCell_i L xs O (D := d + 1 + 1) (by omega) (by omega) j1 M1 z0 hj1
          have p1 := x7_isAir_i L xs O (D := d + 1 + 1) (by omega) (by omega) j2 M1 z26 hj2
          have p2 := x7_isSource_o L xs O (D := d + 1 + 1) (by omega) (by omega) a3 M1 z2 c3
          simp (disch := first | omega | rfl | decide) only [e_X7_loud_0, e_X7_loud_11, e_X7_loud_19, e_X7_loud_24, e_X7_loud_33, e_X7_loud_57, e_X7_loud_44, e_X7_loud_41, e_X7_loud_49, e_X7_loud_54, e_X7_loud_63, e_X7_loud_69, xr_v, xr_n, hl_of, hl_cl, hl_toInt, hl_le, hl_lt, hl_eq, nI_add, hl_sub, pk_mul, hl_div, if_pos, if_neg, ↓reduceIte, Nat.reduceAdd, Nat.reduceSub, Nat.reduceMul, Nat.add_zero, Nat.zero_add, mp_s, mp_k, mp_i, mp_g, mr_s, mr_i, mr_g, zlt_0, zlt_1, zlt_2, zlt_3, zlt_4, zlt_5, zlt_6, zlt_8, zlt_12, zlt_15, zlt_20, zlt_24, zlt_36, zlt_40, zlt_48, zlt_80, zlt_97, zlt_120, zlt_256, zlt_600, zlt_99999999, zadd_1, zadd_2, zadd_5, zadd_6, zadd_8, zadd_20, zadd_24, zeq_0, zeq_1, zeq_2, zeq_3, zeq_4, zeq_5, zeq_6, zeq_7, zeq_8, zeq_13, zeq_14, zeq_20, zeq_32, zeq_59, zeq_60, zeq_80, zmul_2, zmul_4, zmul_6, zmul_8, zmul_10, zmul_24, zsub_1, zsub_2, zsub_10, zsub_48, zsub_97, zle_0, zle_1, zle_2, zle_6, zle_11, zle_200, zle_600, zle_100000000, ylt_0, ylt_1, ylt_2, ylt_3, ylt_6, ylt_9, ylt_20, ylt_24, ylt_57, ylt_60, ylt_99, ylt_120, ylt_122, ylt_999, ylt_9999, yle_0, yle_2, yle_4, yle_5, yle_6, yle_7, yle_8, yle_10, yle_12, yle_13, yle_15, yle_16, yle_20, yle_24, yle_40, yle_60, yle_64, yle_80, yadd_1, yadd_22, ymul_2, ymul_4, ymul_6, ymul_8, ymul_10, ymul_24, ymul_27, ymul_100, ysub_1, ysub_24, zdiv_2, zdiv_4, zdiv_24, e1, b0, b1, p0, p1, p2, z2, z3, s1]
    · refine stp_r L xs O hC 1 2 (by omega) (by omega) (w_loud_1 L xs O (nI j1) (a2) (a3) M _ ?_) (b := .inl 0) ?_
      · refine (EX_in mi_X6_loud rfl rfl rfl (ls := [some (.inr (.inr (0, 0))), some (.inl (nI j1)), some (.inl (a2)), some (.inl (a3))]) rfl).trans ?_
        have q0 := x6_needCell_in L xs O (D := d + 1) (by omega) v5 j1 M g0 hj1
        have q1 := x6_needAir_out L xs O (D := d + 1) (by omega) (by omega) a2 M g6 c2
        simp (disch := first | omega | rfl | decide) only [e_X6_loud_0, e_X6_loud_5, e_X6_loud_10, e_X6_loud_15, e_X6_loud_21, xr_v, xr_n, hl_of, hl_cl, hl_toInt, hl_le, hl_lt, hl_eq, nI_add, hl_sub, pk_mul, hl_div, if_pos, if_neg, ↓reduceIte, Nat.reduceAdd, Nat.reduceSub, Nat.reduceMul, Nat.add_zero, Nat.zero_add, mp_s, mp_k, mp_i, mp_g, mr_s, mr_i, mr_g, zlt_0, zlt_1, zlt_2, zlt_3, zlt_4, zlt_5, zlt_6, zlt_8, zlt_12, zlt_15, zlt_20, zlt_24, zlt_36, zlt_40, zlt_48, zlt_80, zlt_97, zlt_120, zlt_256, zlt_600, zlt_99999999, zadd_1, zadd_2, zadd_5, zadd_6, zadd_8, zadd_20, zadd_24, zeq_0, zeq_1, zeq_2, zeq_3, zeq_4, zeq_5, zeq_6, zeq_7, zeq_8, zeq_13, zeq_14, zeq_20, zeq_32, zeq_59, zeq_60, zeq_80, zmul_2, zmul_4, zmul_6, zmul_8, zmul_10, zmul_24, zsub_1, zsub_2, zsub_10, zsub_48, zsub_97, zle_0, zle_1, zle_2, zle_6, zle_11, zle_200, zle_600, zle_100000000, ylt_0, ylt_1, ylt_2, ylt_3, ylt_6, ylt_9, ylt_20, ylt_24, ylt_57, ylt_60, ylt_99, ylt_120, ylt_122, ylt_999, ylt_9999, yle_0, yle_2, yle_4, yle_5, yle_6, yle_7, yle_8, yle_10, yle_12, yle_13, yle_15, yle_16, yle_20, yle_24, yle_40, yle_60, yle_64, yle_80, yadd_1, yadd_22, ymul_2, ymul_4, ymul_6, ymul_8, ymul_10, ymul_24, ymul_27, ymul_100, ysub_1, ysub_24, zdiv_2, zdiv_4, zdiv_24, q0, q1, g4, g8, g13, xr_t]
      · obtain ⟨M1, e1, fr1, hB1, t1⟩ := m_start (MB_ref hC.1 1)
        have z0 := hB1.2.1.1
        have z1 := hB1.2.1.2.1
        have z2 := hB1.2.1.2.2.1
        have z3 := hB1.2.1.2.2.2.1
        have z26 := hB1.2.2.2.2.1
        refine (EX_in mi_X7_loud rfl rfl rfl (ls := [some (.inr (.inr (40, 0))), some (.inl (nI j1)), some (.inl (a2)), some (.inl (a3))]) rfl).trans ?_
        have b0 := fun w q => x7_bad_0 L xs O (D := d + 1 + 1) (by omega) w q M1 t1
        have b1 : EX L xs (d + 1 + 1) q_X7_bad [.inr (.inr (40, 0)), .inl (1), .inl (2), .inl (1)] M1 O = (some (.inl (some (.inl (1))), refM M1 (nI 2) 1, O, 0, 0) : Res) := x7_bad_1 L xs O (by omega) 2 1 (by omega) (by decide) M1 t1
        have p0 := x7_isCell_i L xs O (D := d + 1 + 1) (by omega) (by omega) j1 M1 z0 hj1
        have p1 := x7_isAir_o L xs O (D := d + 1 + 1) (by omega) (by omega) a2 M1 z26 c2
        simp (disch := first | omega | rfl | decide) only [e_X7_loud_0, e_X7_loud_11, e_X7_loud_19, e_X7_loud_24, e_X7_loud_33, e_X7_loud_57, e_X7_loud_44, e_X7_loud_41, e_X7_loud_49, e_X7_loud_54, e_X7_loud_63, e_X7_loud_69, xr_v, xr_n, hl_of, hl_cl, hl_toInt, hl_le, hl_lt, hl_eq, nI_add, hl_sub, pk_mul, hl_div, if_pos, if_neg, ↓reduceIte, Nat.reduceAdd, Nat.reduceSub, Nat.reduceMul, Nat.add_zero, Nat.zero_add, mp_s, mp_k, mp_i, mp_g, mr_s, mr_i, mr_g, zlt_0, zlt_1, zlt_2, zlt_3, zlt_4, zlt_5, zlt_6, zlt_8, zlt_12, zlt_15, zlt_20, zlt_24, zlt_36, zlt_40, zlt_48, zlt_80, zlt_97, zlt_120, zlt_256, zlt_600, zlt_99999999, zadd_1, zadd_2, zadd_5, zadd_6, zadd_8, zadd_20, zadd_24, zeq_0, zeq_1, zeq_2, zeq_3, zeq_4, zeq_5, zeq_6, zeq_7, zeq_8, zeq_13, zeq_14, zeq_20, zeq_32, zeq_59, zeq_60, zeq_80, zmul_2, zmul_4, zmul_6, zmul_8, zmul_10, zmul_24, zsub_1, zsub_2, zsub_10, zsub_48, zsub_97, zle_0, zle_1, zle_2, zle_6, zle_11, zle_200, zle_600, zle_100000000, ylt_0, ylt_1, ylt_2, ylt_3, ylt_6, ylt_9, ylt_20, ylt_24, ylt_57, ylt_60, ylt_99, ylt_120, ylt_122, ylt_999, ylt_9999, yle_0, yle_2, yle_4, yle_5, yle_6, yle_7, yle_8, yle_10, yle_12, yle_13, yle_15, yle_16, yle_20, yle_24, yle_40, yle_60, yle_64, yle_80, yadd_1, yadd_22, ymul_2, ymul_4, ymul_6, ymul_8, ymul_10, ymul_24, ymul_27, ymul_100, ysub_1, ysub_24, zdiv_2, zdiv_4, zdiv_24, e1, b0, b1, p0, p1, z2, z3, s1]
  · refine stp_r L xs O hC 0 1 (by omega) (by omega) (w_loud_0 L xs O (a1) (a2) (a3) M _ ?_) (b := .inl 0) ?_
    · refine (EX_in mi_X6_loud rfl rfl rfl (ls := [some (.inr (.inr (0, 0))), some (.inl (a1)), some (.inl (a2)), some (.inl (a3))]) rfl).trans ?_
      have q0 := x6_needCell_out L xs O (D := d + 1) (by omega) v5 a1 M g0 c1
      simp (disch := first | omega | rfl | decide) only [e_X6_loud_0, e_X6_loud_5, e_X6_loud_10, e_X6_loud_15, e_X6_loud_21, xr_v, xr_n, hl_of, hl_cl, hl_toInt, hl_le, hl_lt, hl_eq, nI_add, hl_sub, pk_mul, hl_div, if_pos, if_neg, ↓reduceIte, Nat.reduceAdd, Nat.reduceSub, Nat.reduceMul, Nat.add_zero, Nat.zero_add, mp_s, mp_k, mp_i, mp_g, mr_s, mr_i, mr_g, zlt_0, zlt_1, zlt_2, zlt_3, zlt_4, zlt_5, zlt_6, zlt_8, zlt_12, zlt_15, zlt_20, zlt_24, zlt_36, zlt_40, zlt_48, zlt_80, zlt_97, zlt_120, zlt_256, zlt_600, zlt_99999999, zadd_1, zadd_2, zadd_5, zadd_6, zadd_8, zadd_20, zadd_24, zeq_0, zeq_1, zeq_2, zeq_3, zeq_4, zeq_5, zeq_6, zeq_7, zeq_8, zeq_13, zeq_14, zeq_20, zeq_32, zeq_59, zeq_60, zeq_80, zmul_2, zmul_4, zmul_6, zmul_8, zmul_10, zmul_24, zsub_1, zsub_2, zsub_10, zsub_48, zsub_97, zle_0, zle_1, zle_2, zle_6, zle_11, zle_200, zle_600, zle_100000000, ylt_0, ylt_1, ylt_2, ylt_3, ylt_6, ylt_9, ylt_20, ylt_24, ylt_57, ylt_60, ylt_99, ylt_120, ylt_122, ylt_999, ylt_9999, yle_0, yle_2, yle_4, yle_5, yle_6, yle_7, yle_8, yle_10, yle_12, yle_13, yle_15, yle_16, yle_20, yle_24, yle_40, yle_60, yle_64, yle_80, yadd_1, yadd_22, ymul_2, ymul_4, ymul_6, ymul_8, ymul_10, ymul_24, ymul_27, ymul_100, ysub_1, ysub_24, zdiv_2, zdiv_4, zdiv_24, q0, g4, g8, g13, xr_t]
    · obtain ⟨M1, e1, fr1, hB1, t1⟩ := m_start (MB_ref hC.1 0)
      have z0 := hB1.2.1.1
      have z1 := hB1.2.1.2.1
      have z2 := hB1.2.1.2.2.1
      have z3 := hB1.2.1.2.2.2.1
      have z26 := hB1.2.2.2.2.1
      refine (EX_in mi_X7_loud rfl rfl rfl (ls := [some (.inr (.inr (40, 0))), some (.inl (a1)), some (.inl (a2)), some (.inl (a3))]) rfl).trans ?_
      have b0 := fun w q => x7_bad_0 L xs O (D := d + 1 + 1) (by omega) w q M1 t1
      have b1 : EX L xs (d + 1 + 1) q_X7_bad [.inr (.inr (40, 0)), .inl (1), .inl (1), .inl (0)] M1 O = (some (.inl (some (.inl (1))), refM M1 (nI 1) 0, O, 0, 0) : Res) := x7_bad_1 L xs O (by omega) 1 0 (by omega) (by decide) M1 t1
      have p0 := x7_isCell_o L xs O (D := d + 1 + 1) (by omega) (by omega) a1 M1 z0 c1
      simp (disch := first | omega | rfl | decide) only [e_X7_loud_0, e_X7_loud_11, e_X7_loud_19, e_X7_loud_24, e_X7_loud_33, e_X7_loud_57, e_X7_loud_44, e_X7_loud_41, e_X7_loud_49, e_X7_loud_54, e_X7_loud_63, e_X7_loud_69, xr_v, xr_n, hl_of, hl_cl, hl_toInt, hl_le, hl_lt, hl_eq, nI_add, hl_sub, pk_mul, hl_div, if_pos, if_neg, ↓reduceIte, Nat.reduceAdd, Nat.reduceSub, Nat.reduceMul, Nat.add_zero, Nat.zero_add, mp_s, mp_k, mp_i, mp_g, mr_s, mr_i, mr_g, zlt_0, zlt_1, zlt_2, zlt_3, zlt_4, zlt_5, zlt_6, zlt_8, zlt_12, zlt_15, zlt_20, zlt_24, zlt_36, zlt_40, zlt_48, zlt_80, zlt_97, zlt_120, zlt_256, zlt_600, zlt_99999999, zadd_1, zadd_2, zadd_5, zadd_6, zadd_8, zadd_20, zadd_24, zeq_0, zeq_1, zeq_2, zeq_3, zeq_4, zeq_5, zeq_6, zeq_7, zeq_8, zeq_13, zeq_14, zeq_20, zeq_32, zeq_59, zeq_60, zeq_80, zmul_2, zmul_4, zmul_6, zmul_8, zmul_10, zmul_24, zsub_1, zsub_2, zsub_10, zsub_48, zsub_97, zle_0, zle_1, zle_2, zle_6, zle_11, zle_200, zle_600, zle_100000000, ylt_0, ylt_1, ylt_2, ylt_3, ylt_6, ylt_9, ylt_20, ylt_24, ylt_57, ylt_60, ylt_99, ylt_120, ylt_122, ylt_999, ylt_9999, yle_0, yle_2, yle_4, yle_5, yle_6, yle_7, yle_8, yle_10, yle_12, yle_13, yle_15, yle_16, yle_20, yle_24, yle_40, yle_60, yle_64, yle_80, yadd_1, yadd_22, ymul_2, ymul_4, ymul_6, ymul_8, ymul_10, ymul_24, ymul_27, ymul_100, ysub_1, ysub_24, zdiv_2, zdiv_4, zdiv_24, e1, b0, b1, p0, z2, z3, s1]
theorem s_at {d : Nat} (hD : 11 ≤ d) (a1 a2 a3 : Int32) (M : Mem) (hI : INV M) : Stq L xs O (d + 1 + 1 + 1) q_L_at q_X7_at [.inl a1, .inl a2, .inl a3] M := by
  obtain ⟨T, As, n, nh, ns, nw, na, md, ia, ni, nt, mds, hC⟩ := hI
  have hM : CQ M (perfL T md.1 md.2.1) As n nh ns nw na M := ⟨Fr_refl, hC.2.1⟩
  have hV := hM.2.1
  have v5 : n ≤ 40 := hV.2.2.2.2.2.1
  have v6 : nh ≤ 8 := hV.2.2.2.2.2.2.1
  have v7 : ns ≤ 6 := hV.2.2.2.2.2.2.2.1
  have v8 : nw ≤ 8 := hV.2.2.2.2.2.2.2.2.1
  have h6 : na ≤ 6 := hM.2.2.2.2.1
  have g0 := (hM.2.2.1 3 0 rfl).trans hV.1
  have g4 := (hM.2.2.1 3 4 rfl).trans hV.2.1
  have g8 := (hM.2.2.1 3 8 rfl).trans hV.2.2.1
  have g13 := (hM.2.2.1 3 13 rfl).trans hV.2.2.2.1
  have g6 := hM.2.2.2.1
  have hp2 := pow_le8 (show ns ≤ 8 by omega)
  have s1 := shl1 ns (by omega)
  by_cases c1 : inN a1 n
  · obtain ⟨j1, hj1, rfl⟩ := c1
    by_cases c2 : inN a2 na
    · obtain ⟨j2, hj2, rfl⟩ := c2
      by_cases c3 : inN a3 24
      · obtain ⟨j3, hj3, rfl⟩ := c3
        exact stp_q L xs O hC (c_at L xs O (D := d + 1 + 1) (by omega) j1 j2 j3 hj1 hj2 hj3 M hM) (fun M1 h => w_at_v L xs O (nI j1) (nI j2) (nI j3) _ M M1 h) (fun M1 O1 hB => m_at L xs O1 (D := d + 1 + 1 + 1) (by omega) j1 j2 j3 hj1 hj2 hj3 M1 hB)
      · refine stp_r L xs O hC 2 3 (by omega) (by omega) (w_at_2 L xs O (nI j1) (nI j2) (a3) M _ ?_) (b := .inl 0) ?_
        · refine (EX_in mi_X6_at rfl rfl rfl (ls := [some (.inr (.inr (0, 0))), some (.inl (nI j1)), some (.inl (nI j2)), some (.inl (a3))]) rfl).trans ?_
          have q0 := x6_needCell_in L xs O (D := d + 1) (by omega) v5 j1 M g0 hj1
          have q1 := x6_needAir_in L xs O (D := d + 1) (by omega) (by omega) j2 M g6 hj2
          have q2 := x6_needHour_out L xs O (D := d + 1) (by omega) a3 M c3
          simp (disch := first | omega | rfl | decide) only [e_X6_at_0, e_X6_at_5, e_X6_at_10, e_X6_at_15, e_X6_at_22, xr_v, xr_n, hl_of, hl_cl, hl_toInt, hl_le, hl_lt, hl_eq, nI_add, hl_sub, pk_mul, hl_div, if_pos, if_neg, ↓reduceIte, Nat.reduceAdd, Nat.reduceSub, Nat.reduceMul, Nat.add_zero, Nat.zero_add, mp_s, mp_k, mp_i, mp_g, mr_s, mr_i, mr_g, zlt_0, zlt_1, zlt_2, zlt_3, zlt_4, zlt_5, zlt_6, zlt_8, zlt_12, zlt_15, zlt_20, zlt_24, zlt_36, zlt_40, zlt_48, zlt_80, zlt_97, zlt_120, zlt_256, zlt_600, zlt_99999999, zadd_1, zadd_2, zadd_5, zadd_6, zadd_8, zadd_20, zadd_24, zeq_0, zeq_1, zeq_2, zeq_3, zeq_4, zeq_5, zeq_6, zeq_7, zeq_8, zeq_13, zeq_14, zeq_20, zeq_32, zeq_59, zeq_60, zeq_80, zmul_2, zmul_4, zmul_6, zmul_8, zmul_10, zmul_24, zsub_1, zsub_2, zsub_10, zsub_48, zsub_97, zle_0, zle_1, zle_2, zle_6, zle_11, zle_200, zle_600, zle_100000000, ylt_0, ylt_1, ylt_2, ylt_3, ylt_6, ylt_9, ylt_20, ylt_24, ylt_57, ylt_60, ylt_99, ylt_120, ylt_122, ylt_999, ylt_9999, yle_0, yle_2, yle_4, yle_5, yle_6, yle_7, yle_8, yle_10, yle_12, yle_13, yle_15, yle_16, yle_20, yle_24, yle_40, yle_60, yle_64, yle_80, yadd_1, yadd_22, ymul_2, ymul_4, ymul_6, ymul_8, ymul_10, ymul_24, ymul_27, ymul_100, ysub_1, ysub_24, zdiv_2, zdiv_4, zdiv_24, q0, q1, q2, g4, g8, g13, xr_t]
        · obtain ⟨M1, e1, fr1, hB1, t1⟩ := m_start (MB_ref hC.1 2)
          have z0 := hB1.2.1.1
          have z1 := hB1.2.1.2.1
          have z2 := hB1.2.1.2.2.1
          have z3 := hB1.2.1.2.2.2.1
          have z26 := hB1.2.2.2.2.1
          refine (EX_in mi_X7_at rfl rfl rfl (ls := [some (.inr (.inr (40, 0))), some (.inl (nI j1)), some (.inl (nI j2)), some (.inl (a3))]) rfl).trans ?_
          have b0 := fun w q => x7_bad_0 L xs O (D := d + 1 + 1) (by omega) w q M1 t1
          have b1 : EX L xs (d + 1 + 1) q_X7_bad [.inr (.inr (40, 0)), .inl (1), .inl (3), .inl (2)] M1 O = (some (.inl (some (.inl (1))), refM M1 (nI 3) 2, O, 0, 0) : Res) := x7_bad_1 L xs O (by omega) 3 2 (by omega) (by decide) M1 t1
          have p0 := x7_isCell_i L xs O (D := d + 1 + 1) (by omega) (by omega) j1 M1 z0 hj1
          have p1 := x7_isAir_i L xs O (D := d + 1 + 1) (by omega) (by omega) j2 M1 z26 hj2
          have p2 := x7_isHour_o L xs O (D := d + 1 + 1) (by omega) a3 M1 c3
          simp (disch := first | omega | rfl | decide) only [e_X7_at_0, e_X7_at_11, e_X7_at_19, e_X7_at_24, e_X7_at_33, e_X7_at_70, e_X7_at_41, e_X7_at_46, e_X7_at_54, e_X7_at_62, e_X7_at_67, e_X7_at_76, e_X7_at_81, e_X7_at_87, xr_v, xr_n, hl_of, hl_cl, hl_toInt, hl_le, hl_lt, hl_eq, nI_add, hl_sub, pk_mul, hl_div, if_pos, if_neg, ↓reduceIte, Nat.reduceAdd, Nat.reduceSub, Nat.reduceMul, Nat.add_zero, Nat.zero_add, mp_s, mp_k, mp_i, mp_g, mr_s, mr_i, mr_g, zlt_0, zlt_1, zlt_2, zlt_3, zlt_4, zlt_5, zlt_6, zlt_8, zlt_12, zlt_15, zlt_20, zlt_24, zlt_36, zlt_40, zlt_48, zlt_80, zlt_97, zlt_120, zlt_256, zlt_600, zlt_99999999, zadd_1, zadd_2, zadd_5, zadd_6, zadd_8, zadd_20, zadd_24, zeq_0, zeq_1, zeq_2, zeq_3, zeq_4, zeq_5, zeq_6, zeq_7, zeq_8, zeq_13, zeq_14, zeq_20, zeq_32, zeq_59, zeq_60, zeq_80, zmul_2, zmul_4, zmul_6, zmul_8, zmul_10, zmul_24, zsub_1, zsub_2, zsub_10, zsub_48, zsub_97, zle_0, zle_1, zle_2, zle_6, zle_11, zle_200, zle_600, zle_100000000, ylt_0, ylt_1, ylt_2, ylt_3, ylt_6, ylt_9, ylt_20, ylt_24, ylt_57, ylt_60, ylt_99, ylt_120, ylt_122, ylt_999, ylt_9999, yle_0, yle_2, yle_4, yle_5, yle_6, yle_7, yle_8, yle_10, yle_12, yle_13, yle_15, yle_16, yle_20, yle_24, yle_40, yle_60, yle_64, yle_80, yadd_1, yadd_22, ymul_2, ymul_4, ymul_6, ymul_8, ymul_10, ymul_24, ymul_27, ymul_100, ysub_1, ysub_24, zdiv_2, zdiv_4, zdiv_24, e1, b0, b1, p0, p1, p2, z2, z3, s1]
    · refine stp_r L xs O hC 1 2 (by omega) (by omega) (w_at_1 L xs O (nI j1) (a2) (a3) M _ ?_) (b := .inl 0) ?_
      · refine (EX_in mi_X6_at rfl rfl rfl (ls := [some (.inr (.inr (0, 0))), some (.inl (nI j1)), some (.inl (a2)), some (.inl (a3))]) rfl).trans ?_
        have q0 := x6_needCell_in L xs O (D := d + 1) (by omega) v5 j1 M g0 hj1
        have q1 := x6_needAir_out L xs O (D := d + 1) (by omega) (by omega) a2 M g6 c2
        simp (disch := first | omega | rfl | decide) only [e_X6_at_0, e_X6_at_5, e_X6_at_10, e_X6_at_15, e_X6_at_22, xr_v, xr_n, hl_of, hl_cl, hl_toInt, hl_le, hl_lt, hl_eq, nI_add, hl_sub, pk_mul, hl_div, if_pos, if_neg, ↓reduceIte, Nat.reduceAdd, Nat.reduceSub, Nat.reduceMul, Nat.add_zero, Nat.zero_add, mp_s, mp_k, mp_i, mp_g, mr_s, mr_i, mr_g, zlt_0, zlt_1, zlt_2, zlt_3, zlt_4, zlt_5, zlt_6, zlt_8, zlt_12, zlt_15, zlt_20, zlt_24, zlt_36, zlt_40, zlt_48, zlt_80, zlt_97, zlt_120, zlt_256, zlt_600, zlt_99999999, zadd_1, zadd_2, zadd_5, zadd_6, zadd_8, zadd_20, zadd_24, zeq_0, zeq_1, zeq_2, zeq_3, zeq_4, zeq_5, zeq_6, zeq_7, zeq_8, zeq_13, zeq_14, zeq_20, zeq_32, zeq_59, zeq_60, zeq_80, zmul_2, zmul_4, zmul_6, zmul_8, zmul_10, zmul_24, zsub_1, zsub_2, zsub_10, zsub_48, zsub_97, zle_0, zle_1, zle_2, zle_6, zle_11, zle_200, zle_600, zle_100000000, ylt_0, ylt_1, ylt_2, ylt_3, ylt_6, ylt_9, ylt_20, ylt_24, ylt_57, ylt_60, ylt_99, ylt_120, ylt_122, ylt_999, ylt_9999, yle_0, yle_2, yle_4, yle_5, yle_6, yle_7, yle_8, yle_10, yle_12, yle_13, yle_15, yle_16, yle_20, yle_24, yle_40, yle_60, yle_64, yle_80, yadd_1, yadd_22, ymul_2, ymul_4, ymul_6, ymul_8, ymul_10, ymul_24, ymul_27, ymul_100, ysub_1, ysub_24, zdiv_2, zdiv_4, zdiv_24, q0, q1, g4, g8, g13, xr_t]
      · obtain ⟨M1, e1, fr1, hB1, t1⟩ := m_start (MB_ref hC.1 1)
        have z0 := hB1.2.1.1
        have z1 := hB1.2.1.2.1
        have z2 := hB1.2.1.2.2.1
        have z3 := hB1.2.1.2.2.2.1
        have z26 := hB1.2.2.2.2.1
        refine (EX_in mi_X7_at rfl rfl rfl (ls := [some (.inr (.inr (40, 0))), some (.inl (nI j1)), some (.inl (a2)), some (.inl (a3))]) rfl).trans ?_
        have b0 := fun w q => x7_bad_0 L xs O (D := d + 1 + 1) (by omega) w q M1 t1
        have b1 : EX L xs (d + 1 + 1) q_X7_bad [.inr (.inr (40, 0)), .inl (1), .inl (2), .inl (1)] M1 O = (some (.inl (some (.inl (1))), refM M1 (nI 2) 1, O, 0, 0) : Res) := x7_bad_1 L xs O (by omega) 2 1 (by omega) (by decide) M1 t1
        have p0 := x7_isCell_i L xs O (D := d + 1 + 1) (by omega) (by omega) j1 M1 z0 hj1
        have p1 := x7_isAir_o L xs O (D := d + 1 + 1) (by omega) (by omega) a2 M1 z26 c2
        simp (disch := first | omega | rfl | decide) only [e_X7_at_0, e_X7_at_11, e_X7_at_19, e_X7_at_24, e_X7_at_33, e_X7_at_70, e_X7_at_41, e_X7_at_46, e_X7_at_54, e_X7_at_62, e_X7_at_67, e_X7_at_76, e_X7_at_81, e_X7_at_87, xr_v, xr_n, hl_of, hl_cl, hl_toInt, hl_le, hl_lt, hl_eq, nI_add, hl_sub, pk_mul, hl_div, if_pos, if_neg, ↓reduceIte, Nat.reduceAdd, Nat.reduceSub, Nat.reduceMul, Nat.add_zero, Nat.zero_add, mp_s, mp_k, mp_i, mp_g, mr_s, mr_i, mr_g, zlt_0, zlt_1, zlt_2, zlt_3, zlt_4, zlt_5, zlt_6, zlt_8, zlt_12, zlt_15, zlt_20, zlt_24, zlt_36, zlt_40, zlt_48, zlt_80, zlt_97, zlt_120, zlt_256, zlt_600, zlt_99999999, zadd_1, zadd_2, zadd_5, zadd_6, zadd_8, zadd_20, zadd_24, zeq_0, zeq_1, zeq_2, zeq_3, zeq_4, zeq_5, zeq_6, zeq_7, zeq_8, zeq_13, zeq_14, zeq_20, zeq_32, zeq_59, zeq_60, zeq_80, zmul_2, zmul_4, zmul_6, zmul_8, zmul_10, zmul_24, zsub_1, zsub_2, zsub_10, zsub_48, zsub_97, zle_0, zle_1, zle_2, zle_6, zle_11, zle_200, zle_600, zle_100000000, ylt_0, ylt_1, ylt_2, ylt_3, ylt_6, ylt_9, ylt_20, ylt_24, ylt_57, ylt_60, ylt_99, ylt_120, ylt_122, ylt_999, ylt_9999, yle_0, yle_2, yle_4, yle_5, yle_6, yle_7, yle_8, yle_10, yle_12, yle_13, yle_15, yle_16, yle_20, yle_24, yle_40, yle_60, yle_64, yle_80, yadd_1, yadd_22, ymul_2, ymul_4, ymul_6, ymul_8, ymul_10, ymul_24, ymul_27, ymul_100, ysub_1, ysub_24, zdiv_2, zdiv_4, zdiv_24, e1, b0, b1, p0, p1, z2, z3, s1]
  · refine stp_r L xs O hC 0 1 (by omega) (by omega) (w_at_0 L xs O (a1) (a2) (a3) M _ ?_) (b := .inl 0) ?_
    · refine (EX_in mi_X6_at rfl rfl rfl (ls := [some (.inr (.inr (0, 0))), some (.inl (a1)), some (.inl (a2)), some (.inl (a3))]) rfl).trans ?_
      have q0 := x6_needCell_out L xs O (D := d + 1) (by omega) v5 a1 M g0 c1
      simp (disch := first | omega | rfl | decide) only [e_X6_at_0, e_X6_at_5, e_X6_at_10, e_X6_at_15, e_X6_at_22, xr_v, xr_n, hl_of, hl_cl, hl_toInt, hl_le, hl_lt, hl_eq, nI_add, hl_sub, pk_mul, hl_div, if_pos, if_neg, ↓reduceIte, Nat.reduceAdd, Nat.reduceSub, Nat.reduceMul, Nat.add_zero, Nat.zero_add, mp_s, mp_k, mp_i, mp_g, mr_s, mr_i, mr_g, zlt_0, zlt_1, zlt_2, zlt_3, zlt_4, zlt_5, zlt_6, zlt_8, zlt_12, zlt_15, zlt_20, zlt_24, zlt_36, zlt_40, zlt_48, zlt_80, zlt_97, zlt_120, zlt_256, zlt_600, zlt_99999999, zadd_1, zadd_2, zadd_5, zadd_6, zadd_8, zadd_20, zadd_24, zeq_0, zeq_1, zeq_2, zeq_3, zeq_4, zeq_5, zeq_6, zeq_7, zeq_8, zeq_13, zeq_14, zeq_20, zeq_32, zeq_59, zeq_60, zeq_80, zmul_2, zmul_4, zmul_6, zmul_8, zmul_10, zmul_24, zsub_1, zsub_2, zsub_10, zsub_48, zsub_97, zle_0, zle_1, zle_2, zle_6, zle_11, zle_200, zle_600, zle_100000000, ylt_0, ylt_1, ylt_2, ylt_3, ylt_6, ylt_9, ylt_20, ylt_24, ylt_57, ylt_60, ylt_99, ylt_120, ylt_122, ylt_999, ylt_9999, yle_0, yle_2, yle_4, yle_5, yle_6, yle_7, yle_8, yle_10, yle_12, yle_13, yle_15, yle_16, yle_20, yle_24, yle_40, yle_60, yle_64, yle_80, yadd_1, yadd_22, ymul_2, ymul_4, ymul_6, ymul_8, ymul_10, ymul_24, ymul_27, ymul_100, ysub_1, ysub_24, zdiv_2, zdiv_4, zdiv_24, q0, g4, g8, g13, xr_t]
    · obtain ⟨M1, e1, fr1, hB1, t1⟩ := m_start (MB_ref hC.1 0)
      have z0 := hB1.2.1.1
      have z1 := hB1.2.1.2.1
      have z2 := hB1.2.1.2.2.1
      have z3 := hB1.2.1.2.2.2.1
      have z26 := hB1.2.2.2.2.1
      refine (EX_in mi_X7_at rfl rfl rfl (ls := [some (.inr (.inr (40, 0))), some (.inl (a1)), some (.inl (a2)), some (.inl (a3))]) rfl).trans ?_
      have b0 := fun w q => x7_bad_0 L xs O (D := d + 1 + 1) (by omega) w q M1 t1
      have b1 : EX L xs (d + 1 + 1) q_X7_bad [.inr (.inr (40, 0)), .inl (1), .inl (1), .inl (0)] M1 O = (some (.inl (some (.inl (1))), refM M1 (nI 1) 0, O, 0, 0) : Res) := x7_bad_1 L xs O (by omega) 1 0 (by omega) (by decide) M1 t1
      have p0 := x7_isCell_o L xs O (D := d + 1 + 1) (by omega) (by omega) a1 M1 z0 c1
      simp (disch := first | omega | rfl | decide) only [e_X7_at_0, e_X7_at_11, e_X7_at_19, e_X7_at_24, e_X7_at_33, e_X7_at_70, e_X7_at_41, e_X7_at_46, e_X7_at_54, e_X7_at_62, e_X7_at_67, e_X7_at_76, e_X7_at_81, e_X7_at_87, xr_v, xr_n, hl_of, hl_cl, hl_toInt, hl_le, hl_lt, hl_eq, nI_add, hl_sub, pk_mul, hl_div, if_pos, if_neg, ↓reduceIte, Nat.reduceAdd, Nat.reduceSub, Nat.reduceMul, Nat.add_zero, Nat.zero_add, mp_s, mp_k, mp_i, mp_g, mr_s, mr_i, mr_g, zlt_0, zlt_1, zlt_2, zlt_3, zlt_4, zlt_5, zlt_6, zlt_8, zlt_12, zlt_15, zlt_20, zlt_24, zlt_36, zlt_40, zlt_48, zlt_80, zlt_97, zlt_120, zlt_256, zlt_600, zlt_99999999, zadd_1, zadd_2, zadd_5, zadd_6, zadd_8, zadd_20, zadd_24, zeq_0, zeq_1, zeq_2, zeq_3, zeq_4, zeq_5, zeq_6, zeq_7, zeq_8, zeq_13, zeq_14, zeq_20, zeq_32, zeq_59, zeq_60, zeq_80, zmul_2, zmul_4, zmul_6, zmul_8, zmul_10, zmul_24, zsub_1, zsub_2, zsub_10, zsub_48, zsub_97, zle_0, zle_1, zle_2, zle_6, zle_11, zle_200, zle_600, zle_100000000, ylt_0, ylt_1, ylt_2, ylt_3, ylt_6, ylt_9, ylt_20, ylt_24, ylt_57, ylt_60, ylt_99, ylt_120, ylt_122, ylt_999, ylt_9999, yle_0, yle_2, yle_4, yle_5, yle_6, yle_7, yle_8, yle_10, yle_12, yle_13, yle_15, yle_16, yle_20, yle_24, yle_40, yle_60, yle_64, yle_80, yadd_1, yadd_22, ymul_2, ymul_4, ymul_6, ymul_8, ymul_10, ymul_24, ymul_27, ymul_100, ysub_1, ysub_24, zdiv_2, zdiv_4, zdiv_24, e1, b0, b1, p0, z2, z3, s1]
theorem s_hears {d : Nat} (hD : 11 ≤ d) (a1 a2 : Int32) (M : Mem) (hI : INV M) : Stq L xs O (d + 1 + 1 + 1) q_L_hears q_X7_hears [.inl a1, .inl a2] M := by
  obtain ⟨T, As, n, nh, ns, nw, na, md, ia, ni, nt, mds, hC⟩ := hI
  have hM : CQ M (perfL T md.1 md.2.1) As n nh ns nw na M := ⟨Fr_refl, hC.2.1⟩
  have hV := hM.2.1
  have v5 : n ≤ 40 := hV.2.2.2.2.2.1
  have v6 : nh ≤ 8 := hV.2.2.2.2.2.2.1
  have v7 : ns ≤ 6 := hV.2.2.2.2.2.2.2.1
  have v8 : nw ≤ 8 := hV.2.2.2.2.2.2.2.2.1
  have h6 : na ≤ 6 := hM.2.2.2.2.1
  have g0 := (hM.2.2.1 3 0 rfl).trans hV.1
  have g4 := (hM.2.2.1 3 4 rfl).trans hV.2.1
  have g8 := (hM.2.2.1 3 8 rfl).trans hV.2.2.1
  have g13 := (hM.2.2.1 3 13 rfl).trans hV.2.2.2.1
  have g6 := hM.2.2.2.1
  have hp2 := pow_le8 (show ns ≤ 8 by omega)
  have s1 := shl1 ns (by omega)
  by_cases c1 : inN a1 na
  · obtain ⟨j1, hj1, rfl⟩ := c1
    by_cases c2 : inN a2 24
    · obtain ⟨j2, hj2, rfl⟩ := c2
      exact stp_q L xs O hC (c_hears L xs O (D := d + 1 + 1) (by omega) j1 j2 hj1 hj2 M hM) (fun M1 h => w_hears_v L xs O (nI j1) (nI j2) _ M M1 h) (fun M1 O1 hB => m_hears L xs O1 (D := d + 1 + 1 + 1) (by omega) j1 j2 hj1 hj2 M1 hB)
    · refine stp_r L xs O hC 2 2 (by omega) (by omega) (w_hears_2 L xs O (nI j1) (a2) M _ ?_) (b := .inl 0) ?_
      · refine (EX_in mi_X6_hears rfl rfl rfl (ls := [some (.inr (.inr (0, 0))), some (.inl (nI j1)), some (.inl (a2)), none, none]) rfl).trans ?_
        have q0 := x6_needAir_in L xs O (D := d + 1) (by omega) (by omega) j1 M g6 hj1
        have q1 := x6_needHour_out L xs O (D := d + 1) (by omega) a2 M c2
        simp (disch := first | omega | rfl | decide) only [e_X6_hears_0, e_X6_hears_5, e_X6_hears_10, e_X6_hears_15, e_X6_hears_35, e_X6_hears_45, xr_v, xr_n, hl_of, hl_cl, hl_toInt, hl_le, hl_lt, hl_eq, nI_add, hl_sub, pk_mul, hl_div, if_pos, if_neg, ↓reduceIte, Nat.reduceAdd, Nat.reduceSub, Nat.reduceMul, Nat.add_zero, Nat.zero_add, mp_s, mp_k, mp_i, mp_g, mr_s, mr_i, mr_g, zlt_0, zlt_1, zlt_2, zlt_3, zlt_4, zlt_5, zlt_6, zlt_8, zlt_12, zlt_15, zlt_20, zlt_24, zlt_36, zlt_40, zlt_48, zlt_80, zlt_97, zlt_120, zlt_256, zlt_600, zlt_99999999, zadd_1, zadd_2, zadd_5, zadd_6, zadd_8, zadd_20, zadd_24, zeq_0, zeq_1, zeq_2, zeq_3, zeq_4, zeq_5, zeq_6, zeq_7, zeq_8, zeq_13, zeq_14, zeq_20, zeq_32, zeq_59, zeq_60, zeq_80, zmul_2, zmul_4, zmul_6, zmul_8, zmul_10, zmul_24, zsub_1, zsub_2, zsub_10, zsub_48, zsub_97, zle_0, zle_1, zle_2, zle_6, zle_11, zle_200, zle_600, zle_100000000, ylt_0, ylt_1, ylt_2, ylt_3, ylt_6, ylt_9, ylt_20, ylt_24, ylt_57, ylt_60, ylt_99, ylt_120, ylt_122, ylt_999, ylt_9999, yle_0, yle_2, yle_4, yle_5, yle_6, yle_7, yle_8, yle_10, yle_12, yle_13, yle_15, yle_16, yle_20, yle_24, yle_40, yle_60, yle_64, yle_80, yadd_1, yadd_22, ymul_2, ymul_4, ymul_6, ymul_8, ymul_10, ymul_24, ymul_27, ymul_100, ysub_1, ysub_24, zdiv_2, zdiv_4, zdiv_24, q0, q1, g4, g8, g13, xr_t]
      · obtain ⟨M1, e1, fr1, hB1, t1⟩ := m_start (MB_ref hC.1 2)
        have z0 := hB1.2.1.1
        have z1 := hB1.2.1.2.1
        have z2 := hB1.2.1.2.2.1
        have z3 := hB1.2.1.2.2.2.1
        have z26 := hB1.2.2.2.2.1
        refine (EX_in mi_X7_hears rfl rfl rfl (ls := [some (.inr (.inr (40, 0))), some (.inl (nI j1)), some (.inl (a2)), none, none]) rfl).trans ?_
        have b0 := fun w q => x7_bad_0 L xs O (D := d + 1 + 1) (by omega) w q M1 t1
        have b1 : EX L xs (d + 1 + 1) q_X7_bad [.inr (.inr (40, 0)), .inl (1), .inl (2), .inl (2)] M1 O = (some (.inl (some (.inl (1))), refM M1 (nI 2) 2, O, 0, 0) : Res) := x7_bad_1 L xs O (by omega) 2 2 (by omega) (by decide) M1 t1
        have p0 := x7_isAir_i L xs O (D := d + 1 + 1) (by omega) (by omega) j1 M1 z26 hj1
        have p1 := x7_isHour_o L xs O (D := d + 1 + 1) (by omega) a2 M1 c2
        simp (disch := first | omega | rfl | decide) only [e_X7_hears_0, e_X7_hears_11, e_X7_hears_19, e_X7_hears_24, e_X7_hears_32, e_X7_hears_48, e_X7_hears_40, e_X7_hears_45, e_X7_hears_54, e_X7_hears_59, e_X7_hears_64, e_X7_hears_83, e_X7_hears_94, xr_v, xr_n, hl_of, hl_cl, hl_toInt, hl_le, hl_lt, hl_eq, nI_add, hl_sub, pk_mul, hl_div, if_pos, if_neg, ↓reduceIte, Nat.reduceAdd, Nat.reduceSub, Nat.reduceMul, Nat.add_zero, Nat.zero_add, mp_s, mp_k, mp_i, mp_g, mr_s, mr_i, mr_g, zlt_0, zlt_1, zlt_2, zlt_3, zlt_4, zlt_5, zlt_6, zlt_8, zlt_12, zlt_15, zlt_20, zlt_24, zlt_36, zlt_40, zlt_48, zlt_80, zlt_97, zlt_120, zlt_256, zlt_600, zlt_99999999, zadd_1, zadd_2, zadd_5, zadd_6, zadd_8, zadd_20, zadd_24, zeq_0, zeq_1, zeq_2, zeq_3, zeq_4, zeq_5, zeq_6, zeq_7, zeq_8, zeq_13, zeq_14, zeq_20, zeq_32, zeq_59, zeq_60, zeq_80, zmul_2, zmul_4, zmul_6, zmul_8, zmul_10, zmul_24, zsub_1, zsub_2, zsub_10, zsub_48, zsub_97, zle_0, zle_1, zle_2, zle_6, zle_11, zle_200, zle_600, zle_100000000, ylt_0, ylt_1, ylt_2, ylt_3, ylt_6, ylt_9, ylt_20, ylt_24, ylt_57, ylt_60, ylt_99, ylt_120, ylt_122, ylt_999, ylt_9999, yle_0, yle_2, yle_4, yle_5, yle_6, yle_7, yle_8, yle_10, yle_12, yle_13, yle_15, yle_16, yle_20, yle_24, yle_40, yle_60, yle_64, yle_80, yadd_1, yadd_22, ymul_2, ymul_4, ymul_6, ymul_8, ymul_10, ymul_24, ymul_27, ymul_100, ysub_1, ysub_24, zdiv_2, zdiv_4, zdiv_24, e1, b0, b1, p0, p1, z2, z3, s1]
  · refine stp_r L xs O hC 1 1 (by omega) (by omega) (w_hears_1 L xs O (a1) (a2) M _ ?_) (b := .inl 0) ?_
    · refine (EX_in mi_X6_hears rfl rfl rfl (ls := [some (.inr (.inr (0, 0))), some (.inl (a1)), some (.inl (a2)), none, none]) rfl).trans ?_
      have q0 := x6_needAir_out L xs O (D := d + 1) (by omega) (by omega) a1 M g6 c1
      simp (disch := first | omega | rfl | decide) only [e_X6_hears_0, e_X6_hears_5, e_X6_hears_10, e_X6_hears_15, e_X6_hears_35, e_X6_hears_45, xr_v, xr_n, hl_of, hl_cl, hl_toInt, hl_le, hl_lt, hl_eq, nI_add, hl_sub, pk_mul, hl_div, if_pos, if_neg, ↓reduceIte, Nat.reduceAdd, Nat.reduceSub, Nat.reduceMul, Nat.add_zero, Nat.zero_add, mp_s, mp_k, mp_i, mp_g, mr_s, mr_i, mr_g, zlt_0, zlt_1, zlt_2, zlt_3, zlt_4, zlt_5, zlt_6, zlt_8, zlt_12, zlt_15, zlt_20, zlt_24, zlt_36, zlt_40, zlt_48, zlt_80, zlt_97, zlt_120, zlt_256, zlt_600, zlt_99999999, zadd_1, zadd_2, zadd_5, zadd_6, zadd_8, zadd_20, zadd_24, zeq_0, zeq_1, zeq_2, zeq_3, zeq_4, zeq_5, zeq_6, zeq_7, zeq_8, zeq_13, zeq_14, zeq_20, zeq_32, zeq_59, zeq_60, zeq_80, zmul_2, zmul_4, zmul_6, zmul_8, zmul_10, zmul_24, zsub_1, zsub_2, zsub_10, zsub_48, zsub_97, zle_0, zle_1, zle_2, zle_6, zle_11, zle_200, zle_600, zle_100000000, ylt_0, ylt_1, ylt_2, ylt_3, ylt_6, ylt_9, ylt_20, ylt_24, ylt_57, ylt_60, ylt_99, ylt_120, ylt_122, ylt_999, ylt_9999, yle_0, yle_2, yle_4, yle_5, yle_6, yle_7, yle_8, yle_10, yle_12, yle_13, yle_15, yle_16, yle_20, yle_24, yle_40, yle_60, yle_64, yle_80, yadd_1, yadd_22, ymul_2, ymul_4, ymul_6, ymul_8, ymul_10, ymul_24, ymul_27, ymul_100, ysub_1, ysub_24, zdiv_2, zdiv_4, zdiv_24, q0, g4, g8, g13, xr_t]
    · obtain ⟨M1, e1, fr1, hB1, t1⟩ := m_start (MB_ref hC.1 1)
      have z0 := hB1.2.1.1
      have z1 := hB1.2.1.2.1
      have z2 := hB1.2.1.2.2.1
      have z3 := hB1.2.1.2.2.2.1
      have z26 := hB1.2.2.2.2.1
      refine (EX_in mi_X7_hears rfl rfl rfl (ls := [some (.inr (.inr (40, 0))), some (.inl (a1)), some (.inl (a2)), none, none]) rfl).trans ?_
      have b0 := fun w q => x7_bad_0 L xs O (D := d + 1 + 1) (by omega) w q M1 t1
      have b1 : EX L xs (d + 1 + 1) q_X7_bad [.inr (.inr (40, 0)), .inl (1), .inl (1), .inl (1)] M1 O = (some (.inl (some (.inl (1))), refM M1 (nI 1) 1, O, 0, 0) : Res) := x7_bad_1 L xs O (by omega) 1 1 (by omega) (by decide) M1 t1
      have p0 := x7_isAir_o L xs O (D := d + 1 + 1) (by omega) (by omega) a1 M1 z26 c1
      simp (disch := first | omega | rfl | decide) only [e_X7_hears_0, e_X7_hears_11, e_X7_hears_19, e_X7_hears_24, e_X7_hears_32, e_X7_hears_48, e_X7_hears_40, e_X7_hears_45, e_X7_hears_54, e_X7_hears_59, e_X7_hears_64, e_X7_hears_83, e_X7_hears_94, xr_v, xr_n, hl_of, hl_cl, hl_toInt, hl_le, hl_lt, hl_eq, nI_add, hl_sub, pk_mul, hl_div, if_pos, if_neg, ↓reduceIte, Nat.reduceAdd, Nat.reduceSub, Nat.reduceMul, Nat.add_zero, Nat.zero_add, mp_s, mp_k, mp_i, mp_g, mr_s, mr_i, mr_g, zlt_0, zlt_1, zlt_2, zlt_3, zlt_4, zlt_5, zlt_6, zlt_8, zlt_12, zlt_15, zlt_20, zlt_24, zlt_36, zlt_40, zlt_48, zlt_80, zlt_97, zlt_120, zlt_256, zlt_600, zlt_99999999, zadd_1, zadd_2, zadd_5, zadd_6, zadd_8, zadd_20, zadd_24, zeq_0, zeq_1, zeq_2, zeq_3, zeq_4, zeq_5, zeq_6, zeq_7, zeq_8, zeq_13, zeq_14, zeq_20, zeq_32, zeq_59, zeq_60, zeq_80, zmul_2, zmul_4, zmul_6, zmul_8, zmul_10, zmul_24, zsub_1, zsub_2, zsub_10, zsub_48, zsub_97, zle_0, zle_1, zle_2, zle_6, zle_11, zle_200, zle_600, zle_100000000, ylt_0, ylt_1, ylt_2, ylt_3, ylt_6, ylt_9, ylt_20, ylt_24, ylt_57, ylt_60, ylt_99, ylt_120, ylt_122, ylt_999, ylt_9999, yle_0, yle_2, yle_4, yle_5, yle_6, yle_7, yle_8, yle_10, yle_12, yle_13, yle_15, yle_16, yle_20, yle_24, yle_40, yle_60, yle_64, yle_80, yadd_1, yadd_22, ymul_2, ymul_4, ymul_6, ymul_8, ymul_10, ymul_24, ymul_27, ymul_100, ysub_1, ysub_24, zdiv_2, zdiv_4, zdiv_24, e1, b0, b1, p0, z2, z3, s1]
end
