/-! CLICKS, wagons, and what is only told. -/
section
variable (L : Nat) (xs : Nat → Int32) (O : Int64)
variable {T : Vw} {As : Nat → Nat → Int32} {n nh ns nw na : Nat} {md : Md} {ia ni nt : Nat} {mds : Nat → Md} {M : Mem}
def lastI (md : Md) : Int32 := if md.2.2.2.1 = 0 then -1 else nI (md.2.2.2.2 (md.2.2.2.1 - 1))
theorem x2_lastClick {D : Nat} (hD : 2 ≤ D) (hOK : MdOK md nw) (hCm : CMd M 0 md) : EX L xs (D) q_X2_lastClick [.inr (.inr (20, 0))] M O = (some (.inl (some (.inl (lastI md))), M, O, 0, 0) : Res) := by
  have h4 := hCm.2.2.2.1
  have h80 := hOK.2.2.2.2.1
  obtain ⟨d, rfl⟩ : ∃ d, D = d + 2 := ⟨D - 2, by omega⟩
  refine (EX_in mi_X2_lastClick rfl rfl rfl (ls := [some (.inr (.inr (20, 0)))]) rfl).trans ?_
  unfold lastI
  by_cases c : md.2.2.2.1 = 0
  · rw [if_pos c]
    simp (disch := first | omega | rfl | decide) only [e_X2_lastClick_0, e_X2_lastClick_22, xr_v, xr_n, hl_of, hl_cl, hl_toInt, hl_le, hl_lt, hl_eq, nI_add, hl_sub, pk_mul, hl_div, if_pos, if_neg, ↓reduceIte, Nat.reduceAdd, Nat.reduceSub, Nat.reduceMul, Nat.add_zero, Nat.zero_add, mp_s, mp_k, mp_i, mp_g, mr_s, mr_i, mr_g, zlt_0, zlt_1, zlt_2, zlt_3, zlt_4, zlt_5, zlt_6, zlt_8, zlt_12, zlt_15, zlt_20, zlt_24, zlt_36, zlt_40, zlt_48, zlt_80, zlt_97, zlt_120, zlt_256, zlt_600, zlt_99999999, zadd_1, zadd_2, zadd_5, zadd_6, zadd_8, zadd_20, zadd_24, zeq_0, zeq_1, zeq_2, zeq_3, zeq_4, zeq_5, zeq_6, zeq_7, zeq_8, zeq_13, zeq_14, zeq_20, zeq_32, zeq_59, zeq_60, zeq_80, zmul_2, zmul_4, zmul_6, zmul_8, zmul_10, zmul_24, zsub_1, zsub_2, zsub_10, zsub_48, zsub_97, zle_0, zle_1, zle_2, zle_6, zle_11, zle_200, zle_600, zle_100000000, ylt_0, ylt_1, ylt_2, ylt_3, ylt_6, ylt_9, ylt_20, ylt_24, ylt_57, ylt_60, ylt_99, ylt_120, ylt_122, ylt_999, ylt_9999, yle_0, yle_2, yle_4, yle_5, yle_6, yle_7, yle_8, yle_10, yle_12, yle_13, yle_15, yle_16, yle_20, yle_24, yle_40, yle_60, yle_64, yle_80, yadd_1, yadd_22, ymul_2, ymul_4, ymul_6, ymul_8, ymul_10, ymul_24, ymul_27, ymul_100, ysub_1, ysub_24, zdiv_2, zdiv_4, zdiv_24, h4]
  · have h23 := hCm.2.2.2.2 (md.2.2.2.1 - 1) (by omega)
    rw [if_neg c]
    simp (disch := first | omega | rfl | decide) only [e_X2_lastClick_0, e_X2_lastClick_22, xr_v, xr_n, hl_of, hl_cl, hl_toInt, hl_le, hl_lt, hl_eq, nI_add, hl_sub, pk_mul, hl_div, if_pos, if_neg, ↓reduceIte, Nat.reduceAdd, Nat.reduceSub, Nat.reduceMul, Nat.add_zero, Nat.zero_add, mp_s, mp_k, mp_i, mp_g, mr_s, mr_i, mr_g, zlt_0, zlt_1, zlt_2, zlt_3, zlt_4, zlt_5, zlt_6, zlt_8, zlt_12, zlt_15, zlt_20, zlt_24, zlt_36, zlt_40, zlt_48, zlt_80, zlt_97, zlt_120, zlt_256, zlt_600, zlt_99999999, zadd_1, zadd_2, zadd_5, zadd_6, zadd_8, zadd_20, zadd_24, zeq_0, zeq_1, zeq_2, zeq_3, zeq_4, zeq_5, zeq_6, zeq_7, zeq_8, zeq_13, zeq_14, zeq_20, zeq_32, zeq_59, zeq_60, zeq_80, zmul_2, zmul_4, zmul_6, zmul_8, zmul_10, zmul_24, zsub_1, zsub_2, zsub_10, zsub_48, zsub_97, zle_0, zle_1, zle_2, zle_6, zle_11, zle_200, zle_600, zle_100000000, ylt_0, ylt_1, ylt_2, ylt_3, ylt_6, ylt_9, ylt_20, ylt_24, ylt_57, ylt_60, ylt_99, ylt_120, ylt_122, ylt_999, ylt_9999, yle_0, yle_2, yle_4, yle_5, yle_6, yle_7, yle_8, yle_10, yle_12, yle_13, yle_15, yle_16, yle_20, yle_24, yle_40, yle_60, yle_64, yle_80, yadd_1, yadd_22, ymul_2, ymul_4, ymul_6, ymul_8, ymul_10, ymul_24, ymul_27, ymul_100, ysub_1, ysub_24, zdiv_2, zdiv_4, zdiv_24, h4, h23]
theorem CORE_t (h : CORE T As n nh ns nw na md ia ni nt mds M) : CORE T As n nh ns nw na md ia ni nt mds (mput M 40 0 0 0) := by
  refine CORE_X h (Fr_put Fr_refl rfl) (CW_40 h.2.1 (fun g i k hg => mp_g (by omega))) (fun q hq => ?_)
  rw [mp_g (by omega), mp_g (by omega)]
  exact h.2.2.2.2.2.2.2.2 q hq
theorem s_click {d : Nat} (hD : 11 ≤ d) (a1 : Int32) (M : Mem) (hI : INV M) : Stq L xs O (d + 1 + 1 + 1) q_L_click q_X7_click [.inl a1] M := by
  obtain ⟨T, As, n, nh, ns, nw, na, md, ia, ni, nt, mds, hC⟩ := hI
  have hM : CQ M (perfL T md.1 md.2.1) As n nh ns nw na M := ⟨Fr_refl, hC.2.1⟩
  obtain ⟨hOK, hCm, hMm⟩ := hC.2.2.2.2.1
  have ql := x2_lastClick L xs O (D := d + 1) (by omega) hOK hCm
  have q0 := x6_needArg_0 L xs O (D := d + 1) (by omega) M
  have q1 := x6_needArg_1 L xs O (D := d + 1) (by omega) M
  have h80 := hOK.2.2.2.2.1
  have m1 : (-1 : Int32) < 0 := by decide
  have ref : (EX L xs (d + 1 + 1) q_X6_click [.inr (.inr (0, 0)), .inl (a1)] M O = (some (.inr 2, refC M 2, O, 1, 6) : Res)) → (EX L xs (d + 1 + 1 + 1) q_X7_click [.inr (.inr (40, 0)), .inl (a1)] (refC M 2) O = (some (.inl (some (.inl (0))), refM (mput (refC M 2) 40 0 0 0) (nI 1) 2, O, 0, 0) : Res)) → Stq L xs O (d + 1 + 1 + 1) q_L_click q_X7_click [.inl a1] M :=
    fun h1 h2 => stp_r L xs O hC 2 1 (by omega) (by omega) (w_click_2 L xs O a1 M _ h1) (b := .inl 0) h2
  have k30 : ∀ X, mput (refC M X) 40 0 0 0 40 0 30 = nI md.2.2.2.1 := fun X => by
    unfold refC
    rw [mp_k (by omega), mp_g (by omega)]
    exact hMm.2.2.2.1
  have t1 : mput (refC M 2) 40 0 0 0 40 0 0 = 0 := mp_s
  have b1 : EX L xs (d + 1 + 1) q_X7_bad [.inr (.inr (40, 0)), .inl (1), .inl (1), .inl (2)] (mput (refC M 2) 40 0 0 0) O = (some (.inl (some (.inl (1))), refM (mput (refC M 2) 40 0 0 0) (nI 1) 2, O, 0, 0) : Res) := x7_bad_1 L xs O (by omega) 1 2 (by omega) (by decide) _ t1
  by_cases cl : a1 < 0
  · refine ref ?_ ?_
    · refine (EX_in mi_X6_click rfl rfl rfl (ls := [some (.inr (.inr (0, 0))), some (.inl (a1))]) rfl).trans ?_
      simp (disch := first | omega | rfl | decide) only [e_X6_click_0, e_X6_click_27, e_X6_click_20, e_X6_click_28, e_X6_click_31, e_X6_click_53, xr_v, xr_n, hl_of, hl_cl, hl_toInt, hl_le, hl_lt, hl_eq, nI_add, hl_sub, pk_mul, hl_div, if_pos, if_neg, ↓reduceIte, Nat.reduceAdd, Nat.reduceSub, Nat.reduceMul, Nat.add_zero, Nat.zero_add, mp_s, mp_k, mp_i, mp_g, mr_s, mr_i, mr_g, zlt_0, zlt_1, zlt_2, zlt_3, zlt_4, zlt_5, zlt_6, zlt_8, zlt_12, zlt_15, zlt_20, zlt_24, zlt_36, zlt_40, zlt_48, zlt_80, zlt_97, zlt_120, zlt_256, zlt_600, zlt_99999999, zadd_1, zadd_2, zadd_5, zadd_6, zadd_8, zadd_20, zadd_24, zeq_0, zeq_1, zeq_2, zeq_3, zeq_4, zeq_5, zeq_6, zeq_7, zeq_8, zeq_13, zeq_14, zeq_20, zeq_32, zeq_59, zeq_60, zeq_80, zmul_2, zmul_4, zmul_6, zmul_8, zmul_10, zmul_24, zsub_1, zsub_2, zsub_10, zsub_48, zsub_97, zle_0, zle_1, zle_2, zle_6, zle_11, zle_200, zle_600, zle_100000000, ylt_0, ylt_1, ylt_2, ylt_3, ylt_6, ylt_9, ylt_20, ylt_24, ylt_57, ylt_60, ylt_99, ylt_120, ylt_122, ylt_999, ylt_9999, yle_0, yle_2, yle_4, yle_5, yle_6, yle_7, yle_8, yle_10, yle_12, yle_13, yle_15, yle_16, yle_20, yle_24, yle_40, yle_60, yle_64, yle_80, yadd_1, yadd_22, ymul_2, ymul_4, ymul_6, ymul_8, ymul_10, ymul_24, ymul_27, ymul_100, ysub_1, ysub_24, zdiv_2, zdiv_4, zdiv_24, cl, q0, xr_t]
    · refine (EX_in mi_X7_click rfl rfl rfl (ls := [some (.inr (.inr (40, 0))), some (.inl (a1))]) rfl).trans ?_
      have p := x7_r_lo L xs O (D := d + 1 + 1) (by omega) a1 0 9999 (mput (refC M 2) 40 0 0 0) cl
      generalize hM1 : mput (refC M 2) 40 0 0 0 = M1 at *
      simp (disch := first | omega | rfl | decide) only [e_X7_click_0, e_X7_click_14, e_X7_click_39, e_X7_click_43, e_X7_click_44, e_X7_click_49, xr_v, xr_n, hl_of, hl_cl, hl_toInt, hl_le, hl_lt, hl_eq, nI_add, hl_sub, pk_mul, hl_div, if_pos, if_neg, ↓reduceIte, Nat.reduceAdd, Nat.reduceSub, Nat.reduceMul, Nat.add_zero, Nat.zero_add, mp_s, mp_k, mp_i, mp_g, mr_s, mr_i, mr_g, zlt_0, zlt_1, zlt_2, zlt_3, zlt_4, zlt_5, zlt_6, zlt_8, zlt_12, zlt_15, zlt_20, zlt_24, zlt_36, zlt_40, zlt_48, zlt_80, zlt_97, zlt_120, zlt_256, zlt_600, zlt_99999999, zadd_1, zadd_2, zadd_5, zadd_6, zadd_8, zadd_20, zadd_24, zeq_0, zeq_1, zeq_2, zeq_3, zeq_4, zeq_5, zeq_6, zeq_7, zeq_8, zeq_13, zeq_14, zeq_20, zeq_32, zeq_59, zeq_60, zeq_80, zmul_2, zmul_4, zmul_6, zmul_8, zmul_10, zmul_24, zsub_1, zsub_2, zsub_10, zsub_48, zsub_97, zle_0, zle_1, zle_2, zle_6, zle_11, zle_200, zle_600, zle_100000000, ylt_0, ylt_1, ylt_2, ylt_3, ylt_6, ylt_9, ylt_20, ylt_24, ylt_57, ylt_60, ylt_99, ylt_120, ylt_122, ylt_999, ylt_9999, yle_0, yle_2, yle_4, yle_5, yle_6, yle_7, yle_8, yle_10, yle_12, yle_13, yle_15, yle_16, yle_20, yle_24, yle_40, yle_60, yle_64, yle_80, yadd_1, yadd_22, ymul_2, ymul_4, ymul_6, ymul_8, ymul_10, ymul_24, ymul_27, ymul_100, ysub_1, ysub_24, zdiv_2, zdiv_4, zdiv_24, hM1, p, b1]
  · by_cases ch : 9999 < a1
    · refine ref ?_ ?_
      · refine (EX_in mi_X6_click rfl rfl rfl (ls := [some (.inr (.inr (0, 0))), some (.inl (a1))]) rfl).trans ?_
        simp (disch := first | omega | rfl | decide) only [e_X6_click_0, e_X6_click_27, e_X6_click_20, e_X6_click_28, e_X6_click_31, e_X6_click_53, xr_v, xr_n, hl_of, hl_cl, hl_toInt, hl_le, hl_lt, hl_eq, nI_add, hl_sub, pk_mul, hl_div, if_pos, if_neg, ↓reduceIte, Nat.reduceAdd, Nat.reduceSub, Nat.reduceMul, Nat.add_zero, Nat.zero_add, mp_s, mp_k, mp_i, mp_g, mr_s, mr_i, mr_g, zlt_0, zlt_1, zlt_2, zlt_3, zlt_4, zlt_5, zlt_6, zlt_8, zlt_12, zlt_15, zlt_20, zlt_24, zlt_36, zlt_40, zlt_48, zlt_80, zlt_97, zlt_120, zlt_256, zlt_600, zlt_99999999, zadd_1, zadd_2, zadd_5, zadd_6, zadd_8, zadd_20, zadd_24, zeq_0, zeq_1, zeq_2, zeq_3, zeq_4, zeq_5, zeq_6, zeq_7, zeq_8, zeq_13, zeq_14, zeq_20, zeq_32, zeq_59, zeq_60, zeq_80, zmul_2, zmul_4, zmul_6, zmul_8, zmul_10, zmul_24, zsub_1, zsub_2, zsub_10, zsub_48, zsub_97, zle_0, zle_1, zle_2, zle_6, zle_11, zle_200, zle_600, zle_100000000, ylt_0, ylt_1, ylt_2, ylt_3, ylt_6, ylt_9, ylt_20, ylt_24, ylt_57, ylt_60, ylt_99, ylt_120, ylt_122, ylt_999, ylt_9999, yle_0, yle_2, yle_4, yle_5, yle_6, yle_7, yle_8, yle_10, yle_12, yle_13, yle_15, yle_16, yle_20, yle_24, yle_40, yle_60, yle_64, yle_80, yadd_1, yadd_22, ymul_2, ymul_4, ymul_6, ymul_8, ymul_10, ymul_24, ymul_27, ymul_100, ysub_1, ysub_24, zdiv_2, zdiv_4, zdiv_24, cl, ch, q0, xr_t]
      · refine (EX_in mi_X7_click rfl rfl rfl (ls := [some (.inr (.inr (40, 0))), some (.inl (a1))]) rfl).trans ?_
        have p := x7_r_hi L xs O (D := d + 1 + 1) (by omega) a1 0 9999 (mput (refC M 2) 40 0 0 0) ch
        generalize hM1 : mput (refC M 2) 40 0 0 0 = M1 at *
        simp (disch := first | omega | rfl | decide) only [e_X7_click_0, e_X7_click_14, e_X7_click_39, e_X7_click_43, e_X7_click_44, e_X7_click_49, xr_v, xr_n, hl_of, hl_cl, hl_toInt, hl_le, hl_lt, hl_eq, nI_add, hl_sub, pk_mul, hl_div, if_pos, if_neg, ↓reduceIte, Nat.reduceAdd, Nat.reduceSub, Nat.reduceMul, Nat.add_zero, Nat.zero_add, mp_s, mp_k, mp_i, mp_g, mr_s, mr_i, mr_g, zlt_0, zlt_1, zlt_2, zlt_3, zlt_4, zlt_5, zlt_6, zlt_8, zlt_12, zlt_15, zlt_20, zlt_24, zlt_36, zlt_40, zlt_48, zlt_80, zlt_97, zlt_120, zlt_256, zlt_600, zlt_99999999, zadd_1, zadd_2, zadd_5, zadd_6, zadd_8, zadd_20, zadd_24, zeq_0, zeq_1, zeq_2, zeq_3, zeq_4, zeq_5, zeq_6, zeq_7, zeq_8, zeq_13, zeq_14, zeq_20, zeq_32, zeq_59, zeq_60, zeq_80, zmul_2, zmul_4, zmul_6, zmul_8, zmul_10, zmul_24, zsub_1, zsub_2, zsub_10, zsub_48, zsub_97, zle_0, zle_1, zle_2, zle_6, zle_11, zle_200, zle_600, zle_100000000, ylt_0, ylt_1, ylt_2, ylt_3, ylt_6, ylt_9, ylt_20, ylt_24, ylt_57, ylt_60, ylt_99, ylt_120, ylt_122, ylt_999, ylt_9999, yle_0, yle_2, yle_4, yle_5, yle_6, yle_7, yle_8, yle_10, yle_12, yle_13, yle_15, yle_16, yle_20, yle_24, yle_40, yle_60, yle_64, yle_80, yadd_1, yadd_22, ymul_2, ymul_4, ymul_6, ymul_8, ymul_10, ymul_24, ymul_27, ymul_100, ysub_1, ysub_24, zdiv_2, zdiv_4, zdiv_24, hM1, p, b1]
    · obtain ⟨t, hl1, hh1, rfl⟩ := rn_nat 0 9999 (by omega) (by omega) cl ch
      by_cases cc : nI t ≤ lastI md
      · have hn0 : md.2.2.2.1 ≠ 0 := fun e => by
          unfold lastI at cc
          rw [if_pos e] at cc
          exact nlt_le cc (by rw [i_lt, hl_toInt (by omega)]; have : (-1 : Int32).toInt = -1 := by decide
                              omega)
        have ccn : ¬ md.2.2.2.2 (md.2.2.2.1 - 1) < t := by
          have hb := hOK.2.2.2.2.2.1 (md.2.2.2.1 - 1) (by omega)
          unfold lastI at cc
          rw [if_neg hn0, hl_le (by omega) (by omega)] at cc
          omega
        refine ref ?_ ?_
        · refine (EX_in mi_X6_click rfl rfl rfl (ls := [some (.inr (.inr (0, 0))), some (.inl (nI t))]) rfl).trans ?_
          simp (disch := first | omega | rfl | decide) only [e_X6_click_0, e_X6_click_27, e_X6_click_20, e_X6_click_28, e_X6_click_31, e_X6_click_53, xr_v, xr_n, hl_of, hl_cl, hl_toInt, hl_le, hl_lt, hl_eq, nI_add, hl_sub, pk_mul, hl_div, if_pos, if_neg, ↓reduceIte, Nat.reduceAdd, Nat.reduceSub, Nat.reduceMul, Nat.add_zero, Nat.zero_add, mp_s, mp_k, mp_i, mp_g, mr_s, mr_i, mr_g, zlt_0, zlt_1, zlt_2, zlt_3, zlt_4, zlt_5, zlt_6, zlt_8, zlt_12, zlt_15, zlt_20, zlt_24, zlt_36, zlt_40, zlt_48, zlt_80, zlt_97, zlt_120, zlt_256, zlt_600, zlt_99999999, zadd_1, zadd_2, zadd_5, zadd_6, zadd_8, zadd_20, zadd_24, zeq_0, zeq_1, zeq_2, zeq_3, zeq_4, zeq_5, zeq_6, zeq_7, zeq_8, zeq_13, zeq_14, zeq_20, zeq_32, zeq_59, zeq_60, zeq_80, zmul_2, zmul_4, zmul_6, zmul_8, zmul_10, zmul_24, zsub_1, zsub_2, zsub_10, zsub_48, zsub_97, zle_0, zle_1, zle_2, zle_6, zle_11, zle_200, zle_600, zle_100000000, ylt_0, ylt_1, ylt_2, ylt_3, ylt_6, ylt_9, ylt_20, ylt_24, ylt_57, ylt_60, ylt_99, ylt_120, ylt_122, ylt_999, ylt_9999, yle_0, yle_2, yle_4, yle_5, yle_6, yle_7, yle_8, yle_10, yle_12, yle_13, yle_15, yle_16, yle_20, yle_24, yle_40, yle_60, yle_64, yle_80, yadd_1, yadd_22, ymul_2, ymul_4, ymul_6, ymul_8, ymul_10, ymul_24, ymul_27, ymul_100, ysub_1, ysub_24, zdiv_2, zdiv_4, zdiv_24, ql, cc, q0, xr_t]
        · refine (EX_in mi_X7_click rfl rfl rfl (ls := [some (.inr (.inr (40, 0))), some (.inl (nI t))]) rfl).trans ?_
          have p := x7_r_in L xs O (D := d + 1 + 1) (by omega) (nI t) 0 9999 (mput (refC M 2) 40 0 0 0) cl ch
          have hb := hOK.2.2.2.2.2.1 (md.2.2.2.1 - 1) (by omega)
          have g70 : mput (refC M 2) 40 0 0 0 70 0 (md.2.2.2.1 - 1) = nI (md.2.2.2.2 (md.2.2.2.1 - 1)) := by
            unfold refC
            rw [mp_g (by omega), mp_g (by omega)]
            exact hMm.2.2.2.2 _ (by omega)
          have k30' := k30 2
          generalize hM1 : mput (refC M 2) 40 0 0 0 = M1 at *
          simp (disch := first | omega | rfl | decide) only [e_X7_click_0, e_X7_click_14, e_X7_click_39, e_X7_click_43, e_X7_click_44, e_X7_click_49, xr_v, xr_n, hl_of, hl_cl, hl_toInt, hl_le, hl_lt, hl_eq, nI_add, hl_sub, pk_mul, hl_div, if_pos, if_neg, ↓reduceIte, Nat.reduceAdd, Nat.reduceSub, Nat.reduceMul, Nat.add_zero, Nat.zero_add, mp_s, mp_k, mp_i, mp_g, mr_s, mr_i, mr_g, zlt_0, zlt_1, zlt_2, zlt_3, zlt_4, zlt_5, zlt_6, zlt_8, zlt_12, zlt_15, zlt_20, zlt_24, zlt_36, zlt_40, zlt_48, zlt_80, zlt_97, zlt_120, zlt_256, zlt_600, zlt_99999999, zadd_1, zadd_2, zadd_5, zadd_6, zadd_8, zadd_20, zadd_24, zeq_0, zeq_1, zeq_2, zeq_3, zeq_4, zeq_5, zeq_6, zeq_7, zeq_8, zeq_13, zeq_14, zeq_20, zeq_32, zeq_59, zeq_60, zeq_80, zmul_2, zmul_4, zmul_6, zmul_8, zmul_10, zmul_24, zsub_1, zsub_2, zsub_10, zsub_48, zsub_97, zle_0, zle_1, zle_2, zle_6, zle_11, zle_200, zle_600, zle_100000000, ylt_0, ylt_1, ylt_2, ylt_3, ylt_6, ylt_9, ylt_20, ylt_24, ylt_57, ylt_60, ylt_99, ylt_120, ylt_122, ylt_999, ylt_9999, yle_0, yle_2, yle_4, yle_5, yle_6, yle_7, yle_8, yle_10, yle_12, yle_13, yle_15, yle_16, yle_20, yle_24, yle_40, yle_60, yle_64, yle_80, yadd_1, yadd_22, ymul_2, ymul_4, ymul_6, ymul_8, ymul_10, ymul_24, ymul_27, ymul_100, ysub_1, ysub_24, zdiv_2, zdiv_4, zdiv_24, hM1, p, k30', g70, b1]
      · have hok : md.2.2.2.1 = 0 ∨ md.2.2.2.2 (md.2.2.2.1 - 1) < t := by
          by_cases e : md.2.2.2.1 = 0
          · exact Or.inl e
          · have hb := hOK.2.2.2.2.2.1 (md.2.2.2.1 - 1) (by omega)
            unfold lastI at cc
            rw [if_neg e, hl_le (by omega) (by omega)] at cc
            exact Or.inr (by omega)
        have h4 := hCm.2.2.2.1
        have h30 := hMm.2.2.2.1
        by_cases c80 : md.2.2.2.1 = 80
        · -- no more
          have hclass : EX L xs (d + 1 + 1) q_X6_click [.inr (.inr (0, 0)), .inl (nI t)] M O = (some (.inl (some (.inl (-1))), M, O, 0, 0) : Res) := by
            refine (EX_in mi_X6_click rfl rfl rfl (ls := [some (.inr (.inr (0, 0))), some (.inl (nI t))]) rfl).trans ?_
            simp (disch := first | omega | rfl | decide) only [e_X6_click_0, e_X6_click_27, e_X6_click_20, e_X6_click_28, e_X6_click_31, e_X6_click_53, xr_v, xr_n, hl_of, hl_cl, hl_toInt, hl_le, hl_lt, hl_eq, nI_add, hl_sub, pk_mul, hl_div, if_pos, if_neg, ↓reduceIte, Nat.reduceAdd, Nat.reduceSub, Nat.reduceMul, Nat.add_zero, Nat.zero_add, mp_s, mp_k, mp_i, mp_g, mr_s, mr_i, mr_g, zlt_0, zlt_1, zlt_2, zlt_3, zlt_4, zlt_5, zlt_6, zlt_8, zlt_12, zlt_15, zlt_20, zlt_24, zlt_36, zlt_40, zlt_48, zlt_80, zlt_97, zlt_120, zlt_256, zlt_600, zlt_99999999, zadd_1, zadd_2, zadd_5, zadd_6, zadd_8, zadd_20, zadd_24, zeq_0, zeq_1, zeq_2, zeq_3, zeq_4, zeq_5, zeq_6, zeq_7, zeq_8, zeq_13, zeq_14, zeq_20, zeq_32, zeq_59, zeq_60, zeq_80, zmul_2, zmul_4, zmul_6, zmul_8, zmul_10, zmul_24, zsub_1, zsub_2, zsub_10, zsub_48, zsub_97, zle_0, zle_1, zle_2, zle_6, zle_11, zle_200, zle_600, zle_100000000, ylt_0, ylt_1, ylt_2, ylt_3, ylt_6, ylt_9, ylt_20, ylt_24, ylt_57, ylt_60, ylt_99, ylt_120, ylt_122, ylt_999, ylt_9999, yle_0, yle_2, yle_4, yle_5, yle_6, yle_7, yle_8, yle_10, yle_12, yle_13, yle_15, yle_16, yle_20, yle_24, yle_40, yle_60, yle_64, yle_80, yadd_1, yadd_22, ymul_2, ymul_4, ymul_6, ymul_8, ymul_10, ymul_24, ymul_27, ymul_100, ysub_1, ysub_24, zdiv_2, zdiv_4, zdiv_24, ql, cc, q1, h4]
          have hmodel : ∀ O1, EX L xs (d + 1 + 1 + 1) q_X7_click [.inr (.inr (40, 0)), .inl (nI t)] M O1 = (some (.inl (some (.inl (-1))), mput M 40 0 0 0, O1, 0, 0) : Res) := by
            intro O1
            refine (EX_in mi_X7_click rfl rfl rfl (ls := [some (.inr (.inr (40, 0))), some (.inl (nI t))]) rfl).trans ?_
            have p := x7_r_in L xs O1 (D := d + 1 + 1) (by omega) (nI t) 0 9999 (mput M 40 0 0 0) cl ch
            have hb := hOK.2.2.2.2.2.1 (md.2.2.2.1 - 1) (by omega)
            have g70 : mput M 40 0 0 0 70 0 (md.2.2.2.1 - 1) = nI (md.2.2.2.2 (md.2.2.2.1 - 1)) := by
              rw [mp_g (by omega)]
              exact hMm.2.2.2.2 _ (by omega)
            have k30' : mput M 40 0 0 0 40 0 30 = nI md.2.2.2.1 := by
              rw [mp_k (by omega)]
              exact h30
            have t2 : mput M 40 0 0 0 40 0 0 = 0 := mp_s
            have b0 := fun w q => x7_bad_0 L xs O1 (D := d + 1 + 1) (by omega) w q (mput M 40 0 0 0) t2
            generalize hM1 : mput M 40 0 0 0 = M1 at *
            simp (disch := first | omega | rfl | decide) only [e_X7_click_0, e_X7_click_14, e_X7_click_39, e_X7_click_43, e_X7_click_44, e_X7_click_49, xr_v, xr_n, hl_of, hl_cl, hl_toInt, hl_le, hl_lt, hl_eq, nI_add, hl_sub, pk_mul, hl_div, if_pos, if_neg, ↓reduceIte, Nat.reduceAdd, Nat.reduceSub, Nat.reduceMul, Nat.add_zero, Nat.zero_add, mp_s, mp_k, mp_i, mp_g, mr_s, mr_i, mr_g, zlt_0, zlt_1, zlt_2, zlt_3, zlt_4, zlt_5, zlt_6, zlt_8, zlt_12, zlt_15, zlt_20, zlt_24, zlt_36, zlt_40, zlt_48, zlt_80, zlt_97, zlt_120, zlt_256, zlt_600, zlt_99999999, zadd_1, zadd_2, zadd_5, zadd_6, zadd_8, zadd_20, zadd_24, zeq_0, zeq_1, zeq_2, zeq_3, zeq_4, zeq_5, zeq_6, zeq_7, zeq_8, zeq_13, zeq_14, zeq_20, zeq_32, zeq_59, zeq_60, zeq_80, zmul_2, zmul_4, zmul_6, zmul_8, zmul_10, zmul_24, zsub_1, zsub_2, zsub_10, zsub_48, zsub_97, zle_0, zle_1, zle_2, zle_6, zle_11, zle_200, zle_600, zle_100000000, ylt_0, ylt_1, ylt_2, ylt_3, ylt_6, ylt_9, ylt_20, ylt_24, ylt_57, ylt_60, ylt_99, ylt_120, ylt_122, ylt_999, ylt_9999, yle_0, yle_2, yle_4, yle_5, yle_6, yle_7, yle_8, yle_10, yle_12, yle_13, yle_15, yle_16, yle_20, yle_24, yle_40, yle_60, yle_64, yle_80, yadd_1, yadd_22, ymul_2, ymul_4, ymul_6, ymul_8, ymul_10, ymul_24, ymul_27, ymul_100, ysub_1, ysub_24, zdiv_2, zdiv_4, zdiv_24, hM1, p, k30', g70, b0]
          exact ⟨0, _, _, 0, 0, w_click_v L xs O (nI t) _ M _ hclass, by omega, by omega, by omega, .inl (-1), _, 0, 0, hmodel _, by omega, by omega, mp_s, fun _ => rfl, T, As, n, nh, ns, nw, na, md, ia, ni, nt, mds, CORE_t hC⟩
        · have hclass : EX L xs (d + 1 + 1) q_X6_click [.inr (.inr (0, 0)), .inl (nI t)] M O = (some (.inl (some (.inl (nI (md.2.2.2.1 + 1)))), mput (mput M 23 0 md.2.2.2.1 (nI t)) 20 0 4 (nI (md.2.2.2.1 + 1)), O, 0, 0) : Res) := by
            have q4 : EX L xs (d + 1) q_X2_noteClick [.inr (.inr (20, 0)), .inl (nI t)] M O = (some (.inl none, mput (mput M 23 0 md.2.2.2.1 (nI t)) 20 0 4 (nI (md.2.2.2.1 + 1)), O, 0, 0) : Res) := by
              obtain ⟨e, rfl⟩ : ∃ e, d = e + 1 := ⟨d - 1, by omega⟩
              refine (EX_in mi_X2_noteClick rfl rfl rfl (ls := [some (.inr (.inr (20, 0))), some (.inl (nI t))]) rfl).trans ?_
              simp (disch := first | omega | rfl | decide) only [e_X2_noteClick_0, e_X2_noteClick_32, xr_v, xr_n, hl_of, hl_cl, hl_toInt, hl_le, hl_lt, hl_eq, nI_add, hl_sub, pk_mul, hl_div, if_pos, if_neg, ↓reduceIte, Nat.reduceAdd, Nat.reduceSub, Nat.reduceMul, Nat.add_zero, Nat.zero_add, mp_s, mp_k, mp_i, mp_g, mr_s, mr_i, mr_g, zlt_0, zlt_1, zlt_2, zlt_3, zlt_4, zlt_5, zlt_6, zlt_8, zlt_12, zlt_15, zlt_20, zlt_24, zlt_36, zlt_40, zlt_48, zlt_80, zlt_97, zlt_120, zlt_256, zlt_600, zlt_99999999, zadd_1, zadd_2, zadd_5, zadd_6, zadd_8, zadd_20, zadd_24, zeq_0, zeq_1, zeq_2, zeq_3, zeq_4, zeq_5, zeq_6, zeq_7, zeq_8, zeq_13, zeq_14, zeq_20, zeq_32, zeq_59, zeq_60, zeq_80, zmul_2, zmul_4, zmul_6, zmul_8, zmul_10, zmul_24, zsub_1, zsub_2, zsub_10, zsub_48, zsub_97, zle_0, zle_1, zle_2, zle_6, zle_11, zle_200, zle_600, zle_100000000, ylt_0, ylt_1, ylt_2, ylt_3, ylt_6, ylt_9, ylt_20, ylt_24, ylt_57, ylt_60, ylt_99, ylt_120, ylt_122, ylt_999, ylt_9999, yle_0, yle_2, yle_4, yle_5, yle_6, yle_7, yle_8, yle_10, yle_12, yle_13, yle_15, yle_16, yle_20, yle_24, yle_40, yle_60, yle_64, yle_80, yadd_1, yadd_22, ymul_2, ymul_4, ymul_6, ymul_8, ymul_10, ymul_24, ymul_27, ymul_100, ysub_1, ysub_24, zdiv_2, zdiv_4, zdiv_24, h4]
            refine (EX_in mi_X6_click rfl rfl rfl (ls := [some (.inr (.inr (0, 0))), some (.inl (nI t))]) rfl).trans ?_
            simp (disch := first | omega | rfl | decide) only [e_X6_click_0, e_X6_click_27, e_X6_click_20, e_X6_click_28, e_X6_click_31, e_X6_click_53, xr_v, xr_n, hl_of, hl_cl, hl_toInt, hl_le, hl_lt, hl_eq, nI_add, hl_sub, pk_mul, hl_div, if_pos, if_neg, ↓reduceIte, Nat.reduceAdd, Nat.reduceSub, Nat.reduceMul, Nat.add_zero, Nat.zero_add, mp_s, mp_k, mp_i, mp_g, mr_s, mr_i, mr_g, zlt_0, zlt_1, zlt_2, zlt_3, zlt_4, zlt_5, zlt_6, zlt_8, zlt_12, zlt_15, zlt_20, zlt_24, zlt_36, zlt_40, zlt_48, zlt_80, zlt_97, zlt_120, zlt_256, zlt_600, zlt_99999999, zadd_1, zadd_2, zadd_5, zadd_6, zadd_8, zadd_20, zadd_24, zeq_0, zeq_1, zeq_2, zeq_3, zeq_4, zeq_5, zeq_6, zeq_7, zeq_8, zeq_13, zeq_14, zeq_20, zeq_32, zeq_59, zeq_60, zeq_80, zmul_2, zmul_4, zmul_6, zmul_8, zmul_10, zmul_24, zsub_1, zsub_2, zsub_10, zsub_48, zsub_97, zle_0, zle_1, zle_2, zle_6, zle_11, zle_200, zle_600, zle_100000000, ylt_0, ylt_1, ylt_2, ylt_3, ylt_6, ylt_9, ylt_20, ylt_24, ylt_57, ylt_60, ylt_99, ylt_120, ylt_122, ylt_999, ylt_9999, yle_0, yle_2, yle_4, yle_5, yle_6, yle_7, yle_8, yle_10, yle_12, yle_13, yle_15, yle_16, yle_20, yle_24, yle_40, yle_60, yle_64, yle_80, yadd_1, yadd_22, ymul_2, ymul_4, ymul_6, ymul_8, ymul_10, ymul_24, ymul_27, ymul_100, ysub_1, ysub_24, zdiv_2, zdiv_4, zdiv_24, ql, cc, q1, h4, q4]
          generalize hM1 : mput (mput M 23 0 md.2.2.2.1 (nI t)) 20 0 4 (nI (md.2.2.2.1 + 1)) = M1 at hclass
          have f1 : Fr (fun g i k => decide (i = 0 ∧ ((g = 23 ∧ k = md.2.2.2.1) ∨ (g = 20 ∧ k = 4)))) M M1 := hM1 ▸ Fr_put (Fr_put Fr_refl (decide_eq_true (by omega))) (decide_eq_true (by omega))
          have e1 : ∀ g i k, ¬ (i = 0 ∧ ((g = 23 ∧ k = md.2.2.2.1) ∨ (g = 20 ∧ k = 4))) → M1 g i k = M g i k := fun g i k h => f1 g i k (decide_eq_false h)
          have hmodel : ∀ O1, EX L xs (d + 1 + 1 + 1) q_X7_click [.inr (.inr (40, 0)), .inl (nI t)] M1 O1 = (some (.inl (some (.inl (nI (md.2.2.2.1 + 1)))), mput (mput (mput M1 40 0 0 0) 70 0 md.2.2.2.1 (nI t)) 40 0 30 (nI (md.2.2.2.1 + 1)), O1, 0, 0) : Res) := by
            intro O1
            refine (EX_in mi_X7_click rfl rfl rfl (ls := [some (.inr (.inr (40, 0))), some (.inl (nI t))]) rfl).trans ?_
            have p := x7_r_in L xs O1 (D := d + 1 + 1) (by omega) (nI t) 0 9999 (mput M1 40 0 0 0) cl ch
            have k30' : mput M1 40 0 0 0 40 0 30 = nI md.2.2.2.1 := by
              rw [mp_k (by omega), e1 40 0 30 (by omega)]
              exact h30
            have t2 : mput M1 40 0 0 0 40 0 0 = 0 := mp_s
            have b0 := fun w q => x7_bad_0 L xs O1 (D := d + 1 + 1) (by omega) w q (mput M1 40 0 0 0) t2
            by_cases c0 : md.2.2.2.1 = 0
            · generalize hM2 : mput M1 40 0 0 0 = M2 at *
              simp (disch := first | omega | rfl | decide) only [e_X7_click_0, e_X7_click_14, e_X7_click_39, e_X7_click_43, e_X7_click_44, e_X7_click_49, xr_v, xr_n, hl_of, hl_cl, hl_toInt, hl_le, hl_lt, hl_eq, nI_add, hl_sub, pk_mul, hl_div, if_pos, if_neg, ↓reduceIte, Nat.reduceAdd, Nat.reduceSub, Nat.reduceMul, Nat.add_zero, Nat.zero_add, mp_s, mp_k, mp_i, mp_g, mr_s, mr_i, mr_g, zlt_0, zlt_1, zlt_2, zlt_3, zlt_4, zlt_5, zlt_6, zlt_8, zlt_12, zlt_15, zlt_20, zlt_24, zlt_36, zlt_40, zlt_48, zlt_80, zlt_97, zlt_120, zlt_256, zlt_600, zlt_99999999, zadd_1, zadd_2, zadd_5, zadd_6, zadd_8, zadd_20, zadd_24, zeq_0, zeq_1, zeq_2, zeq_3, zeq_4, zeq_5, zeq_6, zeq_7, zeq_8, zeq_13, zeq_14, zeq_20, zeq_32, zeq_59, zeq_60, zeq_80, zmul_2, zmul_4, zmul_6, zmul_8, zmul_10, zmul_24, zsub_1, zsub_2, zsub_10, zsub_48, zsub_97, zle_0, zle_1, zle_2, zle_6, zle_11, zle_200, zle_600, zle_100000000, ylt_0, ylt_1, ylt_2, ylt_3, ylt_6, ylt_9, ylt_20, ylt_24, ylt_57, ylt_60, ylt_99, ylt_120, ylt_122, ylt_999, ylt_9999, yle_0, yle_2, yle_4, yle_5, yle_6, yle_7, yle_8, yle_10, yle_12, yle_13, yle_15, yle_16, yle_20, yle_24, yle_40, yle_60, yle_64, yle_80, yadd_1, yadd_22, ymul_2, ymul_4, ymul_6, ymul_8, ymul_10, ymul_24, ymul_27, ymul_100, ysub_1, ysub_24, zdiv_2, zdiv_4, zdiv_24, hM2, p, k30', b0]
            · have hb := hOK.2.2.2.2.2.1 (md.2.2.2.1 - 1) (by omega)
              have hlt := hok.resolve_left c0
              have g70 : mput M1 40 0 0 0 70 0 (md.2.2.2.1 - 1) = nI (md.2.2.2.2 (md.2.2.2.1 - 1)) := by
                rw [mp_g (by omega), e1 70 0 _ (by omega)]
                exact hMm.2.2.2.2 _ (by omega)
              generalize hM2 : mput M1 40 0 0 0 = M2 at *
              simp (disch := first | omega | rfl | decide) only [e_X7_click_0, e_X7_click_14, e_X7_click_39, e_X7_click_43, e_X7_click_44, e_X7_click_49, xr_v, xr_n, hl_of, hl_cl, hl_toInt, hl_le, hl_lt, hl_eq, nI_add, hl_sub, pk_mul, hl_div, if_pos, if_neg, ↓reduceIte, Nat.reduceAdd, Nat.reduceSub, Nat.reduceMul, Nat.add_zero, Nat.zero_add, mp_s, mp_k, mp_i, mp_g, mr_s, mr_i, mr_g, zlt_0, zlt_1, zlt_2, zlt_3, zlt_4, zlt_5, zlt_6, zlt_8, zlt_12, zlt_15, zlt_20, zlt_24, zlt_36, zlt_40, zlt_48, zlt_80, zlt_97, zlt_120, zlt_256, zlt_600, zlt_99999999, zadd_1, zadd_2, zadd_5, zadd_6, zadd_8, zadd_20, zadd_24, zeq_0, zeq_1, zeq_2, zeq_3, zeq_4, zeq_5, zeq_6, zeq_7, zeq_8, zeq_13, zeq_14, zeq_20, zeq_32, zeq_59, zeq_60, zeq_80, zmul_2, zmul_4, zmul_6, zmul_8, zmul_10, zmul_24, zsub_1, zsub_2, zsub_10, zsub_48, zsub_97, zle_0, zle_1, zle_2, zle_6, zle_11, zle_200, zle_600, zle_100000000, ylt_0, ylt_1, ylt_2, ylt_3, ylt_6, ylt_9, ylt_20, ylt_24, ylt_57, ylt_60, ylt_99, ylt_120, ylt_122, ylt_999, ylt_9999, yle_0, yle_2, yle_4, yle_5, yle_6, yle_7, yle_8, yle_10, yle_12, yle_13, yle_15, yle_16, yle_20, yle_24, yle_40, yle_60, yle_64, yle_80, yadd_1, yadd_22, ymul_2, ymul_4, ymul_6, ymul_8, ymul_10, ymul_24, ymul_27, ymul_100, ysub_1, ysub_24, zdiv_2, zdiv_4, zdiv_24, hM2, p, k30', g70, b0]
          generalize hM2 : mput (mput (mput M1 40 0 0 0) 70 0 md.2.2.2.1 (nI t)) 40 0 30 (nI (md.2.2.2.1 + 1)) = M2 at hmodel
          have f2 : Fr (fun g _ k => decide ((g = 70 ∧ k = md.2.2.2.1) ∨ (g = 40 ∧ (k = 0 ∨ k = 30)))) M1 M2 := hM2 ▸ Fr_put (Fr_put (Fr_put Fr_refl (decide_eq_true (by omega))) (decide_eq_true (by omega))) (decide_eq_true (by omega))
          have e : ∀ g i k, ¬ (i = 0 ∧ ((g = 23 ∧ k = md.2.2.2.1) ∨ (g = 20 ∧ k = 4))) → ¬ ((g = 70 ∧ k = md.2.2.2.1) ∨ (g = 40 ∧ (k = 0 ∨ k = 30))) → M2 g i k = M g i k := fun g i k h1 h2 => (f2 g i k (decide_eq_false h2)).trans (e1 g i k h1)
          have v30 : M2 40 0 30 = nI (md.2.2.2.1 + 1) := by rw [← hM2, mp_s]
          have v70 : M2 70 0 md.2.2.2.1 = nI t := by rw [← hM2, mp_g (by omega), mp_s]
          have v4 : M2 20 0 4 = nI (md.2.2.2.1 + 1) := by rw [f2 20 0 4 rfl, ← hM1, mp_s]
          have v23 : M2 23 0 md.2.2.2.1 = nI t := by rw [f2 23 0 _ rfl, ← hM1, mp_g (by omega), mp_s]
          refine ⟨0, _, _, 0, 0, w_click_v L xs O (nI t) _ M _ hclass, by omega, by omega, by omega, .inl (nI (md.2.2.2.1 + 1)), M2, 0, 0, hmodel _, by omega, by omega, ?_, fun _ => rfl, T, As, n, nh, ns, nw, na, (md.1, md.2.1, md.2.2.1, md.2.2.2.1 + 1, fun i => if i = md.2.2.2.1 then t else md.2.2.2.2 i), ia, ni, nt, mds, ?_⟩
          · rw [← hM2, mp_k (by omega), mp_g (by omega), mp_s]
            rfl
          · refine CORE_md hC (fun g i k h1 h2 h3 => e g i k (by omega) (by omega)) rfl rfl ⟨hOK.1, hOK.2.1, hOK.2.2.1, hOK.2.2.2.1, ?_, fun i hi => ?_, fun i j hij hj => ?_⟩ ⟨?_, fun j hj => ?_, fun k hk' => ?_, v4, fun j hj => ?_⟩ ⟨?_, fun j hj => ?_, fun k hk' => ?_, v30, fun j hj => ?_⟩
            · show md.2.2.2.1 + 1 ≤ 80
              omega
            · show (if i = md.2.2.2.1 then t else md.2.2.2.2 i) ≤ 9999
              have hi' : i < md.2.2.2.1 + 1 := hi
              split
              · exact hh1
              · exact hOK.2.2.2.2.2.1 i (by omega)
            · show (if i = md.2.2.2.1 then t else md.2.2.2.2 i) < (if j = md.2.2.2.1 then t else md.2.2.2.2 j)
              have hj' : j < md.2.2.2.1 + 1 := hj
              rw [if_neg (by omega)]
              by_cases ej : j = md.2.2.2.1
              · rw [if_pos ej]
                have h1 := hok.resolve_left (by omega)
                by_cases ei : i = md.2.2.2.1 - 1
                · rw [ei]
                  exact h1
                · have := hOK.2.2.2.2.2.2 i (md.2.2.2.1 - 1) (by omega) (by omega)
                  omega
              · rw [if_neg ej]
                exact hOK.2.2.2.2.2.2 i j hij (by omega)
            · rw [e 20 0 1 (by omega) (by omega)]
              exact hCm.1
            · rw [e 21 0 j (by omega) (by omega)]
              exact hCm.2.1 j hj
            · rw [e 22 0 k (by omega) (by omega)]
              exact hCm.2.2.1 k hk'
            · show M2 23 0 j = nI (if j = md.2.2.2.1 then t else md.2.2.2.2 j)
              have hj' : j < md.2.2.2.1 + 1 := hj
              by_cases ej : j = md.2.2.2.1
              · rw [if_pos ej, ej]
                exact v23
              · rw [if_neg ej, e 23 0 j (by omega) (by omega)]
                exact hCm.2.2.2.2 j (by omega)
            · rw [e 40 0 29 (by omega) (by omega)]
              exact hMm.1
            · rw [e 68 0 j (by omega) (by omega)]
              exact hMm.2.1 j hj
            · rw [e 69 0 k (by omega) (by omega)]
              exact hMm.2.2.1 k hk'
            · show M2 70 0 j = nI (if j = md.2.2.2.1 then t else md.2.2.2.2 j)
              have hj' : j < md.2.2.2.1 + 1 := hj
              by_cases ej : j = md.2.2.2.1
              · rw [if_pos ej, ej]
                exact v70
              · rw [if_neg ej, e 70 0 j (by omega) (by omega)]
                exact hMm.2.2.2.2 j (by omega)
theorem n_wagons {d : Nat} (hD : 11 ≤ d) (hC : CORE T As n nh ns nw na md ia ni nt mds M) (l w : Nat) (hl1 : 1 ≤ l) (hl : l ≤ 99) (hw : w < 2) : Stq L xs O (d + 1 + 1 + 1) q_L_wagons q_X7_wagons [.inl (nI l), .inl (nI w)] M := by
  obtain ⟨hOK, hCm, hMm⟩ := hC.2.2.2.2.1
  have h80 := hOK.2.2.2.2.1
  have h4 := hCm.2.2.2.1
  have h30 : mput M 40 0 0 0 40 0 30 = nI md.2.2.2.1 := by rw [mp_k (by omega)]; exact hMm.2.2.2.1
  have t1 : mput M 40 0 0 0 40 0 0 = 0 := mp_s
  have em : md.2.2.2.1 - md.2.2.2.1 / 4 * 4 = md.2.2.2.1 % 4 := by omega
  have done : ∀ v, (EX L xs (d + 1 + 1) q_X6_wagons [.inr (.inr (0, 0)), .inl (nI l), .inl (nI w)] M O = (some (.inl (some (.inl (v))), M, O, 0, 0) : Res)) → (∀ O1, EX L xs (d + 1 + 1 + 1) q_X7_wagons [.inr (.inr (40, 0)), .inl (nI l), .inl (nI w)] M O1 = (some (.inl (some (.inl v)), mput M 40 0 0 0, O1, 0, 0) : Res)) → Stq L xs O (d + 1 + 1 + 1) q_L_wagons q_X7_wagons [.inl (nI l), .inl (nI w)] M := by
    intro v hc hm
    exact ⟨0, _, _, 0, 0, w_wagons_v L xs O (nI l) (nI w) v M _ hc, by omega, by omega, by omega, .inl v, _, 0, 0, hm _, by omega, by omega, mp_s, fun _ => rfl, T, As, n, nh, ns, nw, na, md, ia, ni, nt, mds, CORE_t hC⟩
  have q1 := x6_needArg_1 L xs O (D := d + 1) (by omega) M
  have q2 := x6_w2_in L xs O (D := d + 1) (by omega) w M hw
  by_cases c4 : md.2.2.2.1 % 4 = 0
  · by_cases cw : w = 0
    · refine done (nI (md.2.2.2.1 / 4)) ?_ (fun O1 => ?_)
      · refine (EX_in mi_X6_wagons rfl rfl rfl (ls := [some (.inr (.inr (0, 0))), some (.inl (nI l)), some (.inl (nI w)), none]) rfl).trans ?_
        simp (disch := first | omega | rfl | decide) only [e_X6_wagons_0, e_X6_wagons_16, e_X6_wagons_17, e_X6_wagons_20, e_X6_wagons_26, e_X6_wagons_64, xr_v, xr_n, hl_of, hl_cl, hl_toInt, hl_le, hl_lt, hl_eq, nI_add, hl_sub, pk_mul, hl_div, if_pos, if_neg, ↓reduceIte, Nat.reduceAdd, Nat.reduceSub, Nat.reduceMul, Nat.add_zero, Nat.zero_add, mp_s, mp_k, mp_i, mp_g, mr_s, mr_i, mr_g, zlt_0, zlt_1, zlt_2, zlt_3, zlt_4, zlt_5, zlt_6, zlt_8, zlt_12, zlt_15, zlt_20, zlt_24, zlt_36, zlt_40, zlt_48, zlt_80, zlt_97, zlt_120, zlt_256, zlt_600, zlt_99999999, zadd_1, zadd_2, zadd_5, zadd_6, zadd_8, zadd_20, zadd_24, zeq_0, zeq_1, zeq_2, zeq_3, zeq_4, zeq_5, zeq_6, zeq_7, zeq_8, zeq_13, zeq_14, zeq_20, zeq_32, zeq_59, zeq_60, zeq_80, zmul_2, zmul_4, zmul_6, zmul_8, zmul_10, zmul_24, zsub_1, zsub_2, zsub_10, zsub_48, zsub_97, zle_0, zle_1, zle_2, zle_6, zle_11, zle_200, zle_600, zle_100000000, ylt_0, ylt_1, ylt_2, ylt_3, ylt_6, ylt_9, ylt_20, ylt_24, ylt_57, ylt_60, ylt_99, ylt_120, ylt_122, ylt_999, ylt_9999, yle_0, yle_2, yle_4, yle_5, yle_6, yle_7, yle_8, yle_10, yle_12, yle_13, yle_15, yle_16, yle_20, yle_24, yle_40, yle_60, yle_64, yle_80, yadd_1, yadd_22, ymul_2, ymul_4, ymul_6, ymul_8, ymul_10, ymul_24, ymul_27, ymul_100, ysub_1, ysub_24, zdiv_2, zdiv_4, zdiv_24, q1, q2, h4, em]
      · refine (EX_in mi_X7_wagons rfl rfl rfl (ls := [some (.inr (.inr (40, 0))), some (.inl (nI l)), some (.inl (nI w)), none]) rfl).trans ?_
        have p1 := x7_r_in L xs O1 (D := d + 1 + 1) (by omega) (nI l) 1 99 (mput M 40 0 0 0) (by rw [zlt_1 (by omega)]; omega) (by rw [ylt_99 (by omega)]; omega)
        have p2 := x7_i2_in L xs O1 (D := d + 1 + 1) (by omega) w (mput M 40 0 0 0) hw
        have b0 := fun w q => x7_bad_0 L xs O1 (D := d + 1 + 1) (by omega) w q (mput M 40 0 0 0) t1
        generalize hM1 : mput M 40 0 0 0 = M1 at *
        simp (disch := first | omega | rfl | decide) only [e_X7_wagons_0, e_X7_wagons_13, e_X7_wagons_25, e_X7_wagons_22, e_X7_wagons_30, e_X7_wagons_35, e_X7_wagons_59, e_X7_wagons_101, xr_v, xr_n, hl_of, hl_cl, hl_toInt, hl_le, hl_lt, hl_eq, nI_add, hl_sub, pk_mul, hl_div, if_pos, if_neg, ↓reduceIte, Nat.reduceAdd, Nat.reduceSub, Nat.reduceMul, Nat.add_zero, Nat.zero_add, mp_s, mp_k, mp_i, mp_g, mr_s, mr_i, mr_g, zlt_0, zlt_1, zlt_2, zlt_3, zlt_4, zlt_5, zlt_6, zlt_8, zlt_12, zlt_15, zlt_20, zlt_24, zlt_36, zlt_40, zlt_48, zlt_80, zlt_97, zlt_120, zlt_256, zlt_600, zlt_99999999, zadd_1, zadd_2, zadd_5, zadd_6, zadd_8, zadd_20, zadd_24, zeq_0, zeq_1, zeq_2, zeq_3, zeq_4, zeq_5, zeq_6, zeq_7, zeq_8, zeq_13, zeq_14, zeq_20, zeq_32, zeq_59, zeq_60, zeq_80, zmul_2, zmul_4, zmul_6, zmul_8, zmul_10, zmul_24, zsub_1, zsub_2, zsub_10, zsub_48, zsub_97, zle_0, zle_1, zle_2, zle_6, zle_11, zle_200, zle_600, zle_100000000, ylt_0, ylt_1, ylt_2, ylt_3, ylt_6, ylt_9, ylt_20, ylt_24, ylt_57, ylt_60, ylt_99, ylt_120, ylt_122, ylt_999, ylt_9999, yle_0, yle_2, yle_4, yle_5, yle_6, yle_7, yle_8, yle_10, yle_12, yle_13, yle_15, yle_16, yle_20, yle_24, yle_40, yle_60, yle_64, yle_80, yadd_1, yadd_22, ymul_2, ymul_4, ymul_6, ymul_8, ymul_10, ymul_24, ymul_27, ymul_100, ysub_1, ysub_24, zdiv_2, zdiv_4, zdiv_24, hM1, p1, p2, b0, h30, em]
    · by_cases c2 : 2 ≤ md.2.2.2.1 / 4
      · have hlt := hOK.2.2.2.2.2.2 0 (4 * (md.2.2.2.1 / 4 - 1)) (by omega) (by omega)
        have hb := hOK.2.2.2.2.2.1 (4 * (md.2.2.2.1 / 4 - 1)) (by omega)
        have g23 := hCm.2.2.2.2 (4 * (md.2.2.2.1 / 4 - 1)) (by omega)
        have g23' := hCm.2.2.2.2 0 (by omega)
        have g70 : mput M 40 0 0 0 70 0 (4 * (md.2.2.2.1 / 4 - 1)) = nI (md.2.2.2.2 (4 * (md.2.2.2.1 / 4 - 1))) := by
          rw [mp_g (by omega)]
          exact hMm.2.2.2.2 _ (by omega)
        have g70' : mput M 40 0 0 0 70 0 0 = nI (md.2.2.2.2 0) := by
          rw [mp_g (by omega)]
          exact hMm.2.2.2.2 _ (by omega)
        have hmul : 100 * l * (md.2.2.2.1 / 4 - 1) ≤ 9900 * 20 := Nat.mul_le_mul (by omega) (by omega)
        refine done (nI (100 * l * (md.2.2.2.1 / 4 - 1) / (md.2.2.2.2 (4 * (md.2.2.2.1 / 4 - 1)) - md.2.2.2.2 0))) ?_ (fun O1 => ?_)
        · have q3 : EX L xs (d + 1) q_X6_pace [.inr (.inr (0, 0)), .inl (nI l), .inl (nI (md.2.2.2.1 / 4))] M O = (some (.inl (some (.inl (nI (100 * l * (md.2.2.2.1 / 4 - 1) / (md.2.2.2.2 (4 * (md.2.2.2.1 / 4 - 1)) - md.2.2.2.2 0))))), M, O, 0, 0) : Res) := by
            obtain ⟨e, rfl⟩ : ∃ e, d = e + 1 := ⟨d - 1, by omega⟩
            refine (EX_in mi_X6_pace rfl rfl rfl (ls := [some (.inr (.inr (0, 0))), some (.inl (nI l)), some (.inl (nI (md.2.2.2.1 / 4))), none]) rfl).trans ?_
            simp (disch := first | omega | rfl | decide) only [e_X6_pace_0, e_X6_pace_49, xr_v, xr_n, hl_of, hl_cl, hl_toInt, hl_le, hl_lt, hl_eq, nI_add, hl_sub, pk_mul, hl_div, if_pos, if_neg, ↓reduceIte, Nat.reduceAdd, Nat.reduceSub, Nat.reduceMul, Nat.add_zero, Nat.zero_add, mp_s, mp_k, mp_i, mp_g, mr_s, mr_i, mr_g, zlt_0, zlt_1, zlt_2, zlt_3, zlt_4, zlt_5, zlt_6, zlt_8, zlt_12, zlt_15, zlt_20, zlt_24, zlt_36, zlt_40, zlt_48, zlt_80, zlt_97, zlt_120, zlt_256, zlt_600, zlt_99999999, zadd_1, zadd_2, zadd_5, zadd_6, zadd_8, zadd_20, zadd_24, zeq_0, zeq_1, zeq_2, zeq_3, zeq_4, zeq_5, zeq_6, zeq_7, zeq_8, zeq_13, zeq_14, zeq_20, zeq_32, zeq_59, zeq_60, zeq_80, zmul_2, zmul_4, zmul_6, zmul_8, zmul_10, zmul_24, zsub_1, zsub_2, zsub_10, zsub_48, zsub_97, zle_0, zle_1, zle_2, zle_6, zle_11, zle_200, zle_600, zle_100000000, ylt_0, ylt_1, ylt_2, ylt_3, ylt_6, ylt_9, ylt_20, ylt_24, ylt_57, ylt_60, ylt_99, ylt_120, ylt_122, ylt_999, ylt_9999, yle_0, yle_2, yle_4, yle_5, yle_6, yle_7, yle_8, yle_10, yle_12, yle_13, yle_15, yle_16, yle_20, yle_24, yle_40, yle_60, yle_64, yle_80, yadd_1, yadd_22, ymul_2, ymul_4, ymul_6, ymul_8, ymul_10, ymul_24, ymul_27, ymul_100, ysub_1, ysub_24, zdiv_2, zdiv_4, zdiv_24, g23, g23']
          refine (EX_in mi_X6_wagons rfl rfl rfl (ls := [some (.inr (.inr (0, 0))), some (.inl (nI l)), some (.inl (nI w)), none]) rfl).trans ?_
          simp (disch := first | omega | rfl | decide) only [e_X6_wagons_0, e_X6_wagons_16, e_X6_wagons_17, e_X6_wagons_20, e_X6_wagons_26, e_X6_wagons_64, xr_v, xr_n, hl_of, hl_cl, hl_toInt, hl_le, hl_lt, hl_eq, nI_add, hl_sub, pk_mul, hl_div, if_pos, if_neg, ↓reduceIte, Nat.reduceAdd, Nat.reduceSub, Nat.reduceMul, Nat.add_zero, Nat.zero_add, mp_s, mp_k, mp_i, mp_g, mr_s, mr_i, mr_g, zlt_0, zlt_1, zlt_2, zlt_3, zlt_4, zlt_5, zlt_6, zlt_8, zlt_12, zlt_15, zlt_20, zlt_24, zlt_36, zlt_40, zlt_48, zlt_80, zlt_97, zlt_120, zlt_256, zlt_600, zlt_99999999, zadd_1, zadd_2, zadd_5, zadd_6, zadd_8, zadd_20, zadd_24, zeq_0, zeq_1, zeq_2, zeq_3, zeq_4, zeq_5, zeq_6, zeq_7, zeq_8, zeq_13, zeq_14, zeq_20, zeq_32, zeq_59, zeq_60, zeq_80, zmul_2, zmul_4, zmul_6, zmul_8, zmul_10, zmul_24, zsub_1, zsub_2, zsub_10, zsub_48, zsub_97, zle_0, zle_1, zle_2, zle_6, zle_11, zle_200, zle_600, zle_100000000, ylt_0, ylt_1, ylt_2, ylt_3, ylt_6, ylt_9, ylt_20, ylt_24, ylt_57, ylt_60, ylt_99, ylt_120, ylt_122, ylt_999, ylt_9999, yle_0, yle_2, yle_4, yle_5, yle_6, yle_7, yle_8, yle_10, yle_12, yle_13, yle_15, yle_16, yle_20, yle_24, yle_40, yle_60, yle_64, yle_80, yadd_1, yadd_22, ymul_2, ymul_4, ymul_6, ymul_8, ymul_10, ymul_24, ymul_27, ymul_100, ysub_1, ysub_24, zdiv_2, zdiv_4, zdiv_24, q1, q2, h4, em, q3]
        · refine (EX_in mi_X7_wagons rfl rfl rfl (ls := [some (.inr (.inr (40, 0))), some (.inl (nI l)), some (.inl (nI w)), none]) rfl).trans ?_
          have p1 := x7_r_in L xs O1 (D := d + 1 + 1) (by omega) (nI l) 1 99 (mput M 40 0 0 0) (by rw [zlt_1 (by omega)]; omega) (by rw [ylt_99 (by omega)]; omega)
          have p2 := x7_i2_in L xs O1 (D := d + 1 + 1) (by omega) w (mput M 40 0 0 0) hw
          have b0 := fun w q => x7_bad_0 L xs O1 (D := d + 1 + 1) (by omega) w q (mput M 40 0 0 0) t1
          generalize hM1 : mput M 40 0 0 0 = M1 at *
          simp (disch := first | omega | rfl | decide) only [e_X7_wagons_0, e_X7_wagons_13, e_X7_wagons_25, e_X7_wagons_22, e_X7_wagons_30, e_X7_wagons_35, e_X7_wagons_59, e_X7_wagons_101, xr_v, xr_n, hl_of, hl_cl, hl_toInt, hl_le, hl_lt, hl_eq, nI_add, hl_sub, pk_mul, hl_div, if_pos, if_neg, ↓reduceIte, Nat.reduceAdd, Nat.reduceSub, Nat.reduceMul, Nat.add_zero, Nat.zero_add, mp_s, mp_k, mp_i, mp_g, mr_s, mr_i, mr_g, zlt_0, zlt_1, zlt_2, zlt_3, zlt_4, zlt_5, zlt_6, zlt_8, zlt_12, zlt_15, zlt_20, zlt_24, zlt_36, zlt_40, zlt_48, zlt_80, zlt_97, zlt_120, zlt_256, zlt_600, zlt_99999999, zadd_1, zadd_2, zadd_5, zadd_6, zadd_8, zadd_20, zadd_24, zeq_0, zeq_1, zeq_2, zeq_3, zeq_4, zeq_5, zeq_6, zeq_7, zeq_8, zeq_13, zeq_14, zeq_20, zeq_32, zeq_59, zeq_60, zeq_80, zmul_2, zmul_4, zmul_6, zmul_8, zmul_10, zmul_24, zsub_1, zsub_2, zsub_10, zsub_48, zsub_97, zle_0, zle_1, zle_2, zle_6, zle_11, zle_200, zle_600, zle_100000000, ylt_0, ylt_1, ylt_2, ylt_3, ylt_6, ylt_9, ylt_20, ylt_24, ylt_57, ylt_60, ylt_99, ylt_120, ylt_122, ylt_999, ylt_9999, yle_0, yle_2, yle_4, yle_5, yle_6, yle_7, yle_8, yle_10, yle_12, yle_13, yle_15, yle_16, yle_20, yle_24, yle_40, yle_60, yle_64, yle_80, yadd_1, yadd_22, ymul_2, ymul_4, ymul_6, ymul_8, ymul_10, ymul_24, ymul_27, ymul_100, ysub_1, ysub_24, zdiv_2, zdiv_4, zdiv_24, hM1, p1, p2, b0, h30, em, g70, g70']
      · refine done (-1) ?_ (fun O1 => ?_)
        · have q3 : EX L xs (d + 1) q_X6_pace [.inr (.inr (0, 0)), .inl (nI l), .inl (nI (md.2.2.2.1 / 4))] M O = (some (.inl (some (.inl (-1))), M, O, 0, 0) : Res) := by
            obtain ⟨e, rfl⟩ : ∃ e, d = e + 1 := ⟨d - 1, by omega⟩
            refine (EX_in mi_X6_pace rfl rfl rfl (ls := [some (.inr (.inr (0, 0))), some (.inl (nI l)), some (.inl (nI (md.2.2.2.1 / 4))), none]) rfl).trans ?_
            simp (disch := first | omega | rfl | decide) only [e_X6_pace_0, e_X6_pace_49, xr_v, xr_n, hl_of, hl_cl, hl_toInt, hl_le, hl_lt, hl_eq, nI_add, hl_sub, pk_mul, hl_div, if_pos, if_neg, ↓reduceIte, Nat.reduceAdd, Nat.reduceSub, Nat.reduceMul, Nat.add_zero, Nat.zero_add, mp_s, mp_k, mp_i, mp_g, mr_s, mr_i, mr_g, zlt_0, zlt_1, zlt_2, zlt_3, zlt_4, zlt_5, zlt_6, zlt_8, zlt_12, zlt_15, zlt_20, zlt_24, zlt_36, zlt_40, zlt_48, zlt_80, zlt_97, zlt_120, zlt_256, zlt_600, zlt_99999999, zadd_1, zadd_2, zadd_5, zadd_6, zadd_8, zadd_20, zadd_24, zeq_0, zeq_1, zeq_2, zeq_3, zeq_4, zeq_5, zeq_6, zeq_7, zeq_8, zeq_13, zeq_14, zeq_20, zeq_32, zeq_59, zeq_60, zeq_80, zmul_2, zmul_4, zmul_6, zmul_8, zmul_10, zmul_24, zsub_1, zsub_2, zsub_10, zsub_48, zsub_97, zle_0, zle_1, zle_2, zle_6, zle_11, zle_200, zle_600, zle_100000000, ylt_0, ylt_1, ylt_2, ylt_3, ylt_6, ylt_9, ylt_20, ylt_24, ylt_57, ylt_60, ylt_99, ylt_120, ylt_122, ylt_999, ylt_9999, yle_0, yle_2, yle_4, yle_5, yle_6, yle_7, yle_8, yle_10, yle_12, yle_13, yle_15, yle_16, yle_20, yle_24, yle_40, yle_60, yle_64, yle_80, yadd_1, yadd_22, ymul_2, ymul_4, ymul_6, ymul_8, ymul_10, ymul_24, ymul_27, ymul_100, ysub_1, ysub_24, zdiv_2, zdiv_4, zdiv_24]
          refine (EX_in mi_X6_wagons rfl rfl rfl (ls := [some (.inr (.inr (0, 0))), some (.inl (nI l)), some (.inl (nI w)), none]) rfl).trans ?_
          simp (disch := first | omega | rfl | decide) only [e_X6_wagons_0, e_X6_wagons_16, e_X6_wagons_17, e_X6_wagons_20, e_X6_wagons_26, e_X6_wagons_64, xr_v, xr_n, hl_of, hl_cl, hl_toInt, hl_le, hl_lt, hl_eq, nI_add, hl_sub, pk_mul, hl_div, if_pos, if_neg, ↓reduceIte, Nat.reduceAdd, Nat.reduceSub, Nat.reduceMul, Nat.add_zero, Nat.zero_add, mp_s, mp_k, mp_i, mp_g, mr_s, mr_i, mr_g, zlt_0, zlt_1, zlt_2, zlt_3, zlt_4, zlt_5, zlt_6, zlt_8, zlt_12, zlt_15, zlt_20, zlt_24, zlt_36, zlt_40, zlt_48, zlt_80, zlt_97, zlt_120, zlt_256, zlt_600, zlt_99999999, zadd_1, zadd_2, zadd_5, zadd_6, zadd_8, zadd_20, zadd_24, zeq_0, zeq_1, zeq_2, zeq_3, zeq_4, zeq_5, zeq_6, zeq_7, zeq_8, zeq_13, zeq_14, zeq_20, zeq_32, zeq_59, zeq_60, zeq_80, zmul_2, zmul_4, zmul_6, zmul_8, zmul_10, zmul_24, zsub_1, zsub_2, zsub_10, zsub_48, zsub_97, zle_0, zle_1, zle_2, zle_6, zle_11, zle_200, zle_600, zle_100000000, ylt_0, ylt_1, ylt_2, ylt_3, ylt_6, ylt_9, ylt_20, ylt_24, ylt_57, ylt_60, ylt_99, ylt_120, ylt_122, ylt_999, ylt_9999, yle_0, yle_2, yle_4, yle_5, yle_6, yle_7, yle_8, yle_10, yle_12, yle_13, yle_15, yle_16, yle_20, yle_24, yle_40, yle_60, yle_64, yle_80, yadd_1, yadd_22, ymul_2, ymul_4, ymul_6, ymul_8, ymul_10, ymul_24, ymul_27, ymul_100, ysub_1, ysub_24, zdiv_2, zdiv_4, zdiv_24, q1, q2, h4, em, q3]
        · refine (EX_in mi_X7_wagons rfl rfl rfl (ls := [some (.inr (.inr (40, 0))), some (.inl (nI l)), some (.inl (nI w)), none]) rfl).trans ?_
          have p1 := x7_r_in L xs O1 (D := d + 1 + 1) (by omega) (nI l) 1 99 (mput M 40 0 0 0) (by rw [zlt_1 (by omega)]; omega) (by rw [ylt_99 (by omega)]; omega)
          have p2 := x7_i2_in L xs O1 (D := d + 1 + 1) (by omega) w (mput M 40 0 0 0) hw
          have b0 := fun w q => x7_bad_0 L xs O1 (D := d + 1 + 1) (by omega) w q (mput M 40 0 0 0) t1
          generalize hM1 : mput M 40 0 0 0 = M1 at *
          simp (disch := first | omega | rfl | decide) only [e_X7_wagons_0, e_X7_wagons_13, e_X7_wagons_25, e_X7_wagons_22, e_X7_wagons_30, e_X7_wagons_35, e_X7_wagons_59, e_X7_wagons_101, xr_v, xr_n, hl_of, hl_cl, hl_toInt, hl_le, hl_lt, hl_eq, nI_add, hl_sub, pk_mul, hl_div, if_pos, if_neg, ↓reduceIte, Nat.reduceAdd, Nat.reduceSub, Nat.reduceMul, Nat.add_zero, Nat.zero_add, mp_s, mp_k, mp_i, mp_g, mr_s, mr_i, mr_g, zlt_0, zlt_1, zlt_2, zlt_3, zlt_4, zlt_5, zlt_6, zlt_8, zlt_12, zlt_15, zlt_20, zlt_24, zlt_36, zlt_40, zlt_48, zlt_80, zlt_97, zlt_120, zlt_256, zlt_600, zlt_99999999, zadd_1, zadd_2, zadd_5, zadd_6, zadd_8, zadd_20, zadd_24, zeq_0, zeq_1, zeq_2, zeq_3, zeq_4, zeq_5, zeq_6, zeq_7, zeq_8, zeq_13, zeq_14, zeq_20, zeq_32, zeq_59, zeq_60, zeq_80, zmul_2, zmul_4, zmul_6, zmul_8, zmul_10, zmul_24, zsub_1, zsub_2, zsub_10, zsub_48, zsub_97, zle_0, zle_1, zle_2, zle_6, zle_11, zle_200, zle_600, zle_100000000, ylt_0, ylt_1, ylt_2, ylt_3, ylt_6, ylt_9, ylt_20, ylt_24, ylt_57, ylt_60, ylt_99, ylt_120, ylt_122, ylt_999, ylt_9999, yle_0, yle_2, yle_4, yle_5, yle_6, yle_7, yle_8, yle_10, yle_12, yle_13, yle_15, yle_16, yle_20, yle_24, yle_40, yle_60, yle_64, yle_80, yadd_1, yadd_22, ymul_2, ymul_4, ymul_6, ymul_8, ymul_10, ymul_24, ymul_27, ymul_100, ysub_1, ysub_24, zdiv_2, zdiv_4, zdiv_24, hM1, p1, p2, b0, h30, em]
  · refine done (-1) ?_ (fun O1 => ?_)
    · refine (EX_in mi_X6_wagons rfl rfl rfl (ls := [some (.inr (.inr (0, 0))), some (.inl (nI l)), some (.inl (nI w)), none]) rfl).trans ?_
      simp (disch := first | omega | rfl | decide) only [e_X6_wagons_0, e_X6_wagons_16, e_X6_wagons_17, e_X6_wagons_20, e_X6_wagons_26, e_X6_wagons_64, xr_v, xr_n, hl_of, hl_cl, hl_toInt, hl_le, hl_lt, hl_eq, nI_add, hl_sub, pk_mul, hl_div, if_pos, if_neg, ↓reduceIte, Nat.reduceAdd, Nat.reduceSub, Nat.reduceMul, Nat.add_zero, Nat.zero_add, mp_s, mp_k, mp_i, mp_g, mr_s, mr_i, mr_g, zlt_0, zlt_1, zlt_2, zlt_3, zlt_4, zlt_5, zlt_6, zlt_8, zlt_12, zlt_15, zlt_20, zlt_24, zlt_36, zlt_40, zlt_48, zlt_80, zlt_97, zlt_120, zlt_256, zlt_600, zlt_99999999, zadd_1, zadd_2, zadd_5, zadd_6, zadd_8, zadd_20, zadd_24, zeq_0, zeq_1, zeq_2, zeq_3, zeq_4, zeq_5, zeq_6, zeq_7, zeq_8, zeq_13, zeq_14, zeq_20, zeq_32, zeq_59, zeq_60, zeq_80, zmul_2, zmul_4, zmul_6, zmul_8, zmul_10, zmul_24, zsub_1, zsub_2, zsub_10, zsub_48, zsub_97, zle_0, zle_1, zle_2, zle_6, zle_11, zle_200, zle_600, zle_100000000, ylt_0, ylt_1, ylt_2, ylt_3, ylt_6, ylt_9, ylt_20, ylt_24, ylt_57, ylt_60, ylt_99, ylt_120, ylt_122, ylt_999, ylt_9999, yle_0, yle_2, yle_4, yle_5, yle_6, yle_7, yle_8, yle_10, yle_12, yle_13, yle_15, yle_16, yle_20, yle_24, yle_40, yle_60, yle_64, yle_80, yadd_1, yadd_22, ymul_2, ymul_4, ymul_6, ymul_8, ymul_10, ymul_24, ymul_27, ymul_100, ysub_1, ysub_24, zdiv_2, zdiv_4, zdiv_24, q1, q2, h4, em]
    · refine (EX_in mi_X7_wagons rfl rfl rfl (ls := [some (.inr (.inr (40, 0))), some (.inl (nI l)), some (.inl (nI w)), none]) rfl).trans ?_
      have p1 := x7_r_in L xs O1 (D := d + 1 + 1) (by omega) (nI l) 1 99 (mput M 40 0 0 0) (by rw [zlt_1 (by omega)]; omega) (by rw [ylt_99 (by omega)]; omega)
      have p2 := x7_i2_in L xs O1 (D := d + 1 + 1) (by omega) w (mput M 40 0 0 0) hw
      have b0 := fun w q => x7_bad_0 L xs O1 (D := d + 1 + 1) (by omega) w q (mput M 40 0 0 0) t1
      have n2 : ¬ (2 : Int32) ≤ -1 := by decide
      generalize hM1 : mput M 40 0 0 0 = M1 at *
      by_cases cw : w = 0
      · simp (disch := first | omega | rfl | decide) only [e_X7_wagons_0, e_X7_wagons_13, e_X7_wagons_25, e_X7_wagons_22, e_X7_wagons_30, e_X7_wagons_35, e_X7_wagons_59, e_X7_wagons_101, xr_v, xr_n, hl_of, hl_cl, hl_toInt, hl_le, hl_lt, hl_eq, nI_add, hl_sub, pk_mul, hl_div, if_pos, if_neg, ↓reduceIte, Nat.reduceAdd, Nat.reduceSub, Nat.reduceMul, Nat.add_zero, Nat.zero_add, mp_s, mp_k, mp_i, mp_g, mr_s, mr_i, mr_g, zlt_0, zlt_1, zlt_2, zlt_3, zlt_4, zlt_5, zlt_6, zlt_8, zlt_12, zlt_15, zlt_20, zlt_24, zlt_36, zlt_40, zlt_48, zlt_80, zlt_97, zlt_120, zlt_256, zlt_600, zlt_99999999, zadd_1, zadd_2, zadd_5, zadd_6, zadd_8, zadd_20, zadd_24, zeq_0, zeq_1, zeq_2, zeq_3, zeq_4, zeq_5, zeq_6, zeq_7, zeq_8, zeq_13, zeq_14, zeq_20, zeq_32, zeq_59, zeq_60, zeq_80, zmul_2, zmul_4, zmul_6, zmul_8, zmul_10, zmul_24, zsub_1, zsub_2, zsub_10, zsub_48, zsub_97, zle_0, zle_1, zle_2, zle_6, zle_11, zle_200, zle_600, zle_100000000, ylt_0, ylt_1, ylt_2, ylt_3, ylt_6, ylt_9, ylt_20, ylt_24, ylt_57, ylt_60, ylt_99, ylt_120, ylt_122, ylt_999, ylt_9999, yle_0, yle_2, yle_4, yle_5, yle_6, yle_7, yle_8, yle_10, yle_12, yle_13, yle_15, yle_16, yle_20, yle_24, yle_40, yle_60, yle_64, yle_80, yadd_1, yadd_22, ymul_2, ymul_4, ymul_6, ymul_8, ymul_10, ymul_24, ymul_27, ymul_100, ysub_1, ysub_24, zdiv_2, zdiv_4, zdiv_24, hM1, p1, p2, b0, h30, em]
      · simp (disch := first | omega | rfl | decide) only [e_X7_wagons_0, e_X7_wagons_13, e_X7_wagons_25, e_X7_wagons_22, e_X7_wagons_30, e_X7_wagons_35, e_X7_wagons_59, e_X7_wagons_101, xr_v, xr_n, hl_of, hl_cl, hl_toInt, hl_le, hl_lt, hl_eq, nI_add, hl_sub, pk_mul, hl_div, if_pos, if_neg, ↓reduceIte, Nat.reduceAdd, Nat.reduceSub, Nat.reduceMul, Nat.add_zero, Nat.zero_add, mp_s, mp_k, mp_i, mp_g, mr_s, mr_i, mr_g, zlt_0, zlt_1, zlt_2, zlt_3, zlt_4, zlt_5, zlt_6, zlt_8, zlt_12, zlt_15, zlt_20, zlt_24, zlt_36, zlt_40, zlt_48, zlt_80, zlt_97, zlt_120, zlt_256, zlt_600, zlt_99999999, zadd_1, zadd_2, zadd_5, zadd_6, zadd_8, zadd_20, zadd_24, zeq_0, zeq_1, zeq_2, zeq_3, zeq_4, zeq_5, zeq_6, zeq_7, zeq_8, zeq_13, zeq_14, zeq_20, zeq_32, zeq_59, zeq_60, zeq_80, zmul_2, zmul_4, zmul_6, zmul_8, zmul_10, zmul_24, zsub_1, zsub_2, zsub_10, zsub_48, zsub_97, zle_0, zle_1, zle_2, zle_6, zle_11, zle_200, zle_600, zle_100000000, ylt_0, ylt_1, ylt_2, ylt_3, ylt_6, ylt_9, ylt_20, ylt_24, ylt_57, ylt_60, ylt_99, ylt_120, ylt_122, ylt_999, ylt_9999, yle_0, yle_2, yle_4, yle_5, yle_6, yle_7, yle_8, yle_10, yle_12, yle_13, yle_15, yle_16, yle_20, yle_24, yle_40, yle_60, yle_64, yle_80, yadd_1, yadd_22, ymul_2, ymul_4, ymul_6, ymul_8, ymul_10, ymul_24, ymul_27, ymul_100, ysub_1, ysub_24, zdiv_2, zdiv_4, zdiv_24, hM1, p1, p2, b0, h30, em, n2]
end
