/-! What is asked without refusals. -/
section
variable (L : Nat) (xs : Nat → Int32) (O : Int64)
theorem s_fault {d : Nat} (M : Mem) (hI : INV M) : StpD L xs O (d + 1 + 1) q_X6_fault q_X7_fault [] M := by
  obtain ⟨T, As, n, nh, ns, nw, na, md, ia, ni, nt, mds, hC⟩ := hI
  refine ⟨M 1 0 5, M, ?_, mput M 40 0 0 0, ?_, T, As, n, nh, ns, nw, na, md, ia, ni, nt, mds, CORE_t hC⟩
  · refine (EX_in mi_X6_fault rfl rfl rfl (ls := [some (.inr (.inr (0, 0)))]) rfl).trans ?_
    rw [e_X6_fault_0]
  · refine (EX_in mi_X7_fault rfl rfl rfl (ls := [some (.inr (.inr (40, 0)))]) rfl).trans ?_
    rw [e_X7_fault_0, hC.2.2.2.2.2.2.2.1]
theorem s_forget {d : Nat} (M : Mem) (hI : INV M) : StpD L xs O (d + 1 + 1) q_X6_forget q_X7_forget [] M := by
  obtain ⟨T, As, n, nh, ns, nw, na, md, ia, ni, nt, mds, hC⟩ := hI
  obtain ⟨hOK, hCm, hMm⟩ := hC.2.2.2.2.1
  refine ⟨nI md.2.2.2.1, mput M 20 0 4 0, ?_, mput (mput (mput M 20 0 4 0) 40 0 0 0) 40 0 30 0, ?_, T, As, n, nh, ns, nw, na, (md.1, md.2.1, md.2.2.1, 0, md.2.2.2.2), ia, ni, nt, mds, ?_⟩
  · refine (EX_in mi_X6_forget rfl rfl rfl (ls := [some (.inr (.inr (0, 0))), none]) rfl).trans ?_
    rw [e_X6_forget_0, hCm.2.2.2.1]
  · refine (EX_in mi_X7_forget rfl rfl rfl (ls := [some (.inr (.inr (40, 0))), none]) rfl).trans ?_
    rw [e_X7_forget_0, mp_g (by omega), hMm.2.2.2.1]
  · generalize hM2 : mput (mput (mput M 20 0 4 0) 40 0 0 0) 40 0 30 0 = M2
    have fr : Fr (fun g i k => decide ((g = 20 ∧ i = 0 ∧ k = 4) ∨ (g = 40 ∧ (k = 0 ∨ k = 30)))) M M2 := hM2 ▸ Fr_put (Fr_put (Fr_put Fr_refl (decide_eq_true (by omega))) (decide_eq_true (by omega))) (decide_eq_true (by omega))
    have e : ∀ g i k, ¬ ((g = 20 ∧ i = 0 ∧ k = 4) ∨ (g = 40 ∧ (k = 0 ∨ k = 30))) → M2 g i k = M g i k := fun g i k h => fr g i k (decide_eq_false h)
    refine CORE_md hC (fun g i k h1 h2 h3 => e g i k (by omega)) rfl rfl ⟨hOK.1, hOK.2.1, hOK.2.2.1, hOK.2.2.2.1, by show 0 ≤ 80; omega, fun i hi => absurd hi (Nat.not_lt_zero i), fun i j _ hj => absurd hj (Nat.not_lt_zero j)⟩ ⟨?_, fun j hj => ?_, fun k hk' => ?_, ?_, fun j hj => absurd hj (Nat.not_lt_zero j)⟩ ⟨?_, fun j hj => ?_, fun k hk' => ?_, ?_, fun j hj => absurd hj (Nat.not_lt_zero j)⟩
    · rw [e 20 0 1 (by omega)]
      exact hCm.1
    · rw [e 21 0 j (by omega)]
      exact hCm.2.1 j hj
    · rw [e 22 0 k (by omega)]
      exact hCm.2.2.1 k hk'
    · rw [← hM2, mp_g (by omega), mp_g (by omega), mp_s]
      rfl
    · rw [e 40 0 29 (by omega)]
      exact hMm.1
    · rw [e 68 0 j (by omega)]
      exact hMm.2.1 j hj
    · rw [e 69 0 k (by omega)]
      exact hMm.2.2.1 k hk'
    · rw [← hM2, mp_s]
      rfl
theorem s_status {d : Nat} (hD : 1 ≤ d) (a1 : Int32) (M : Mem) (hI : INV M) : StpD L xs O (d + 1 + 1) q_X6_status q_X7_status [.inl a1] M := by
  obtain ⟨T, As, n, nh, ns, nw, na, md, ia, ni, nt, mds, hC⟩ := hI
  by_cases c : inN a1 3
  · obtain ⟨j, hj, rfl⟩ := c
    refine ⟨M 34 0 j, M, ?_, mput M 40 0 0 0, ?_, T, As, n, nh, ns, nw, na, md, ia, ni, nt, mds, CORE_t hC⟩
    · refine (EX_in mi_X6_status rfl rfl rfl (ls := [some (.inr (.inr (0, 0))), some (.inl (nI j))]) rfl).trans ?_
      simp (disch := first | omega | rfl | decide) only [e_X6_status_0, e_X6_status_22, e_X6_status_23, xr_v, xr_n, hl_of, hl_cl, hl_toInt, hl_le, hl_lt, hl_eq, nI_add, hl_sub, pk_mul, hl_div, if_pos, if_neg, ↓reduceIte, Nat.reduceAdd, Nat.reduceSub, Nat.reduceMul, Nat.add_zero, Nat.zero_add, mp_s, mp_k, mp_i, mp_g, mr_s, mr_i, mr_g, zlt_0, zlt_1, zlt_2, zlt_3, zlt_4, zlt_5, zlt_6, zlt_8, zlt_12, zlt_15, zlt_20, zlt_24, zlt_36, zlt_40, zlt_48, zlt_80, zlt_97, zlt_120, zlt_256, zlt_600, zlt_99999999, zadd_1, zadd_2, zadd_5, zadd_6, zadd_8, zadd_20, zadd_24, zeq_0, zeq_1, zeq_2, zeq_3, zeq_4, zeq_5, zeq_6, zeq_7, zeq_8, zeq_13, zeq_14, zeq_20, zeq_32, zeq_59, zeq_60, zeq_80, zmul_2, zmul_4, zmul_6, zmul_8, zmul_10, zmul_24, zsub_1, zsub_2, zsub_10, zsub_48, zsub_97, zle_0, zle_1, zle_2, zle_6, zle_11, zle_200, zle_600, zle_100000000, ylt_0, ylt_1, ylt_2, ylt_3, ylt_6, ylt_9, ylt_20, ylt_24, ylt_57, ylt_60, ylt_99, ylt_120, ylt_122, ylt_999, ylt_9999, yle_0, yle_2, yle_4, yle_5, yle_6, yle_7, yle_8, yle_10, yle_12, yle_13, yle_15, yle_16, yle_20, yle_24, yle_40, yle_60, yle_64, yle_80, yadd_1, yadd_22, ymul_2, ymul_4, ymul_6, ymul_8, ymul_10, ymul_24, ymul_27, ymul_100, ysub_1, ysub_24, zdiv_2, zdiv_4, zdiv_24]
    · refine (EX_in mi_X7_status rfl rfl rfl (ls := [some (.inr (.inr (40, 0))), some (.inl (nI j))]) rfl).trans ?_
      have p := x7_i3_in L xs O (D := d + 1) (by omega) j (mput M 40 0 0 0) hj
      have hr : M 34 0 j = mput M 40 0 0 0 42 0 j := by rw [mp_g (by omega)]; exact hC.2.2.2.2.2.2.2.2 j hj
      generalize hM1 : mput M 40 0 0 0 = M1 at *
      simp (disch := first | omega | rfl | decide) only [e_X7_status_0, e_X7_status_11, e_X7_status_24, xr_v, xr_n, hl_of, hl_cl, hl_toInt, hl_le, hl_lt, hl_eq, nI_add, hl_sub, pk_mul, hl_div, if_pos, if_neg, ↓reduceIte, Nat.reduceAdd, Nat.reduceSub, Nat.reduceMul, Nat.add_zero, Nat.zero_add, mp_s, mp_k, mp_i, mp_g, mr_s, mr_i, mr_g, zlt_0, zlt_1, zlt_2, zlt_3, zlt_4, zlt_5, zlt_6, zlt_8, zlt_12, zlt_15, zlt_20, zlt_24, zlt_36, zlt_40, zlt_48, zlt_80, zlt_97, zlt_120, zlt_256, zlt_600, zlt_99999999, zadd_1, zadd_2, zadd_5, zadd_6, zadd_8, zadd_20, zadd_24, zeq_0, zeq_1, zeq_2, zeq_3, zeq_4, zeq_5, zeq_6, zeq_7, zeq_8, zeq_13, zeq_14, zeq_20, zeq_32, zeq_59, zeq_60, zeq_80, zmul_2, zmul_4, zmul_6, zmul_8, zmul_10, zmul_24, zsub_1, zsub_2, zsub_10, zsub_48, zsub_97, zle_0, zle_1, zle_2, zle_6, zle_11, zle_200, zle_600, zle_100000000, ylt_0, ylt_1, ylt_2, ylt_3, ylt_6, ylt_9, ylt_20, ylt_24, ylt_57, ylt_60, ylt_99, ylt_120, ylt_122, ylt_999, ylt_9999, yle_0, yle_2, yle_4, yle_5, yle_6, yle_7, yle_8, yle_10, yle_12, yle_13, yle_15, yle_16, yle_20, yle_24, yle_40, yle_60, yle_64, yle_80, yadd_1, yadd_22, ymul_2, ymul_4, ymul_6, ymul_8, ymul_10, ymul_24, ymul_27, ymul_100, ysub_1, ysub_24, zdiv_2, zdiv_4, zdiv_24, hM1, p, hr]
  · refine ⟨-1, M, ?_, mput M 40 0 0 0, ?_, T, As, n, nh, ns, nw, na, md, ia, ni, nt, mds, CORE_t hC⟩
    · refine (EX_in mi_X6_status rfl rfl rfl (ls := [some (.inr (.inr (0, 0))), some (.inl (a1))]) rfl).trans ?_
      rcases nin (by omega) c with h | h
      · simp (disch := first | omega | rfl | decide) only [e_X6_status_0, e_X6_status_22, e_X6_status_23, xr_v, xr_n, hl_of, hl_cl, hl_toInt, hl_le, hl_lt, hl_eq, nI_add, hl_sub, pk_mul, hl_div, if_pos, if_neg, ↓reduceIte, Nat.reduceAdd, Nat.reduceSub, Nat.reduceMul, Nat.add_zero, Nat.zero_add, mp_s, mp_k, mp_i, mp_g, mr_s, mr_i, mr_g, zlt_0, zlt_1, zlt_2, zlt_3, zlt_4, zlt_5, zlt_6, zlt_8, zlt_12, zlt_15, zlt_20, zlt_24, zlt_36, zlt_40, zlt_48, zlt_80, zlt_97, zlt_120, zlt_256, zlt_600, zlt_99999999, zadd_1, zadd_2, zadd_5, zadd_6, zadd_8, zadd_20, zadd_24, zeq_0, zeq_1, zeq_2, zeq_3, zeq_4, zeq_5, zeq_6, zeq_7, zeq_8, zeq_13, zeq_14, zeq_20, zeq_32, zeq_59, zeq_60, zeq_80, zmul_2, zmul_4, zmul_6, zmul_8, zmul_10, zmul_24, zsub_1, zsub_2, zsub_10, zsub_48, zsub_97, zle_0, zle_1, zle_2, zle_6, zle_11, zle_200, zle_600, zle_100000000, ylt_0, ylt_1, ylt_2, ylt_3, ylt_6, ylt_9, ylt_20, ylt_24, ylt_57, ylt_60, ylt_99, ylt_120, ylt_122, ylt_999, ylt_9999, yle_0, yle_2, yle_4, yle_5, yle_6, yle_7, yle_8, yle_10, yle_12, yle_13, yle_15, yle_16, yle_20, yle_24, yle_40, yle_60, yle_64, yle_80, yadd_1, yadd_22, ymul_2, ymul_4, ymul_6, ymul_8, ymul_10, ymul_24, ymul_27, ymul_100, ysub_1, ysub_24, zdiv_2, zdiv_4, zdiv_24, h]
      · have h' := le_nlt h
        by_cases h0 : a1 < 0
        · simp (disch := first | omega | rfl | decide) only [e_X6_status_0, e_X6_status_22, e_X6_status_23, xr_v, xr_n, hl_of, hl_cl, hl_toInt, hl_le, hl_lt, hl_eq, nI_add, hl_sub, pk_mul, hl_div, if_pos, if_neg, ↓reduceIte, Nat.reduceAdd, Nat.reduceSub, Nat.reduceMul, Nat.add_zero, Nat.zero_add, mp_s, mp_k, mp_i, mp_g, mr_s, mr_i, mr_g, zlt_0, zlt_1, zlt_2, zlt_3, zlt_4, zlt_5, zlt_6, zlt_8, zlt_12, zlt_15, zlt_20, zlt_24, zlt_36, zlt_40, zlt_48, zlt_80, zlt_97, zlt_120, zlt_256, zlt_600, zlt_99999999, zadd_1, zadd_2, zadd_5, zadd_6, zadd_8, zadd_20, zadd_24, zeq_0, zeq_1, zeq_2, zeq_3, zeq_4, zeq_5, zeq_6, zeq_7, zeq_8, zeq_13, zeq_14, zeq_20, zeq_32, zeq_59, zeq_60, zeq_80, zmul_2, zmul_4, zmul_6, zmul_8, zmul_10, zmul_24, zsub_1, zsub_2, zsub_10, zsub_48, zsub_97, zle_0, zle_1, zle_2, zle_6, zle_11, zle_200, zle_600, zle_100000000, ylt_0, ylt_1, ylt_2, ylt_3, ylt_6, ylt_9, ylt_20, ylt_24, ylt_57, ylt_60, ylt_99, ylt_120, ylt_122, ylt_999, ylt_9999, yle_0, yle_2, yle_4, yle_5, yle_6, yle_7, yle_8, yle_10, yle_12, yle_13, yle_15, yle_16, yle_20, yle_24, yle_40, yle_60, yle_64, yle_80, yadd_1, yadd_22, ymul_2, ymul_4, ymul_6, ymul_8, ymul_10, ymul_24, ymul_27, ymul_100, ysub_1, ysub_24, zdiv_2, zdiv_4, zdiv_24, h0]
        · simp (disch := first | omega | rfl | decide) only [e_X6_status_0, e_X6_status_22, e_X6_status_23, xr_v, xr_n, hl_of, hl_cl, hl_toInt, hl_le, hl_lt, hl_eq, nI_add, hl_sub, pk_mul, hl_div, if_pos, if_neg, ↓reduceIte, Nat.reduceAdd, Nat.reduceSub, Nat.reduceMul, Nat.add_zero, Nat.zero_add, mp_s, mp_k, mp_i, mp_g, mr_s, mr_i, mr_g, zlt_0, zlt_1, zlt_2, zlt_3, zlt_4, zlt_5, zlt_6, zlt_8, zlt_12, zlt_15, zlt_20, zlt_24, zlt_36, zlt_40, zlt_48, zlt_80, zlt_97, zlt_120, zlt_256, zlt_600, zlt_99999999, zadd_1, zadd_2, zadd_5, zadd_6, zadd_8, zadd_20, zadd_24, zeq_0, zeq_1, zeq_2, zeq_3, zeq_4, zeq_5, zeq_6, zeq_7, zeq_8, zeq_13, zeq_14, zeq_20, zeq_32, zeq_59, zeq_60, zeq_80, zmul_2, zmul_4, zmul_6, zmul_8, zmul_10, zmul_24, zsub_1, zsub_2, zsub_10, zsub_48, zsub_97, zle_0, zle_1, zle_2, zle_6, zle_11, zle_200, zle_600, zle_100000000, ylt_0, ylt_1, ylt_2, ylt_3, ylt_6, ylt_9, ylt_20, ylt_24, ylt_57, ylt_60, ylt_99, ylt_120, ylt_122, ylt_999, ylt_9999, yle_0, yle_2, yle_4, yle_5, yle_6, yle_7, yle_8, yle_10, yle_12, yle_13, yle_15, yle_16, yle_20, yle_24, yle_40, yle_60, yle_64, yle_80, yadd_1, yadd_22, ymul_2, ymul_4, ymul_6, ymul_8, ymul_10, ymul_24, ymul_27, ymul_100, ysub_1, ysub_24, zdiv_2, zdiv_4, zdiv_24, h0, h']
    · refine (EX_in mi_X7_status rfl rfl rfl (ls := [some (.inr (.inr (40, 0))), some (.inl (a1))]) rfl).trans ?_
      have p := x7_i3_out L xs O (D := d + 1) (by omega) a1 (mput M 40 0 0 0) c
      generalize hM1 : mput M 40 0 0 0 = M1 at *
      simp (disch := first | omega | rfl | decide) only [e_X7_status_0, e_X7_status_11, e_X7_status_24, xr_v, xr_n, hl_of, hl_cl, hl_toInt, hl_le, hl_lt, hl_eq, nI_add, hl_sub, pk_mul, hl_div, if_pos, if_neg, ↓reduceIte, Nat.reduceAdd, Nat.reduceSub, Nat.reduceMul, Nat.add_zero, Nat.zero_add, mp_s, mp_k, mp_i, mp_g, mr_s, mr_i, mr_g, zlt_0, zlt_1, zlt_2, zlt_3, zlt_4, zlt_5, zlt_6, zlt_8, zlt_12, zlt_15, zlt_20, zlt_24, zlt_36, zlt_40, zlt_48, zlt_80, zlt_97, zlt_120, zlt_256, zlt_600, zlt_99999999, zadd_1, zadd_2, zadd_5, zadd_6, zadd_8, zadd_20, zadd_24, zeq_0, zeq_1, zeq_2, zeq_3, zeq_4, zeq_5, zeq_6, zeq_7, zeq_8, zeq_13, zeq_14, zeq_20, zeq_32, zeq_59, zeq_60, zeq_80, zmul_2, zmul_4, zmul_6, zmul_8, zmul_10, zmul_24, zsub_1, zsub_2, zsub_10, zsub_48, zsub_97, zle_0, zle_1, zle_2, zle_6, zle_11, zle_200, zle_600, zle_100000000, ylt_0, ylt_1, ylt_2, ylt_3, ylt_6, ylt_9, ylt_20, ylt_24, ylt_57, ylt_60, ylt_99, ylt_120, ylt_122, ylt_999, ylt_9999, yle_0, yle_2, yle_4, yle_5, yle_6, yle_7, yle_8, yle_10, yle_12, yle_13, yle_15, yle_16, yle_20, yle_24, yle_40, yle_60, yle_64, yle_80, yadd_1, yadd_22, ymul_2, ymul_4, ymul_6, ymul_8, ymul_10, ymul_24, ymul_27, ymul_100, ysub_1, ysub_24, zdiv_2, zdiv_4, zdiv_24, hM1, p]
theorem out4 {a : Int32} (h : ¬ inN a 4) : a.toInt < 0 ∨ 3 < a.toInt := by
  rcases nin (by omega) h with h | h
  · rw [i_lt] at h
    have e0 : (0 : Int32).toInt = 0 := by decide
    exact Or.inl (by omega)
  · rw [i_lt, hl_toInt (by omega)] at h
    exact Or.inr (by omega)
theorem s_count {d : Nat} (a1 : Int32) (M : Mem) (hI : INV M) : StpD L xs O (d + 1 + 1) q_X6_count q_X7_count [.inl a1] M := by
  obtain ⟨T, As, n, nh, ns, nw, na, md, ia, ni, nt, mds, hC⟩ := hI
  obtain ⟨hOK, hCm, hMm⟩ := hC.2.2.2.2.1
  have hImg := hC.2.2.2.2.2.1
  have hTap := hC.2.2.2.2.2.2.1
  by_cases c : inN a1 4
  · obtain ⟨j, hj, rfl⟩ := c
    obtain rfl | rfl | rfl | rfl : j = 0 ∨ j = 1 ∨ j = 2 ∨ j = 3 := by omega
    · refine ⟨nI md.2.1, M, ?_, mput M 40 0 0 0, ?_, T, As, n, nh, ns, nw, na, md, ia, ni, nt, mds, CORE_t hC⟩
      · refine (EX_in mi_X6_count rfl rfl rfl (ls := [some (.inr (.inr (0, 0))), some (.inl (nI 0))]) rfl).trans ?_
        rw [e_X6_count_0, show nI 0 = (0 : Int32) from rfl, e_X6_count_1_c0, e_X6_count_32, hCm.1]
      · refine (EX_in mi_X7_count rfl rfl rfl (ls := [some (.inr (.inr (40, 0))), some (.inl (nI 0))]) rfl).trans ?_
        rw [e_X7_count_0, show nI 0 = (0 : Int32) from rfl, e_X7_count_6_c0, e_X7_count_36, mp_k (by omega), hMm.1]
    · refine ⟨nI md.2.2.2.1, M, ?_, mput M 40 0 0 0, ?_, T, As, n, nh, ns, nw, na, md, ia, ni, nt, mds, CORE_t hC⟩
      · refine (EX_in mi_X6_count rfl rfl rfl (ls := [some (.inr (.inr (0, 0))), some (.inl (nI 1))]) rfl).trans ?_
        rw [e_X6_count_0, show nI 1 = (1 : Int32) from rfl, e_X6_count_1_c1, e_X6_count_40, hCm.2.2.2.1]
      · refine (EX_in mi_X7_count rfl rfl rfl (ls := [some (.inr (.inr (40, 0))), some (.inl (nI 1))]) rfl).trans ?_
        rw [e_X7_count_0, show nI 1 = (1 : Int32) from rfl, e_X7_count_6_c1, e_X7_count_41, mp_k (by omega), hMm.2.2.2.1]
    · refine ⟨nI ni, M, ?_, mput M 40 0 0 0, ?_, T, As, n, nh, ns, nw, na, md, ia, ni, nt, mds, CORE_t hC⟩
      · refine (EX_in mi_X6_count rfl rfl rfl (ls := [some (.inr (.inr (0, 0))), some (.inl (nI 2))]) rfl).trans ?_
        rw [e_X6_count_0, show nI 2 = (2 : Int32) from rfl, e_X6_count_1_c2, e_X6_count_48, hImg.1]
      · refine (EX_in mi_X7_count rfl rfl rfl (ls := [some (.inr (.inr (40, 0))), some (.inl (nI 2))]) rfl).trans ?_
        rw [e_X7_count_0, show nI 2 = (2 : Int32) from rfl, e_X7_count_6_c2, e_X7_count_46, mp_k (by omega), hImg.2.1]
    · refine ⟨nI nt, M, ?_, mput M 40 0 0 0, ?_, T, As, n, nh, ns, nw, na, md, ia, ni, nt, mds, CORE_t hC⟩
      · refine (EX_in mi_X6_count rfl rfl rfl (ls := [some (.inr (.inr (0, 0))), some (.inl (nI 3))]) rfl).trans ?_
        rw [e_X6_count_0, show nI 3 = (3 : Int32) from rfl, e_X6_count_1_c3, e_X6_count_53, hTap.1]
      · refine (EX_in mi_X7_count rfl rfl rfl (ls := [some (.inr (.inr (40, 0))), some (.inl (nI 3))]) rfl).trans ?_
        rw [e_X7_count_0, show nI 3 = (3 : Int32) from rfl, e_X7_count_6_c3, e_X7_count_51, mp_k (by omega), hTap.2.1]
  · refine ⟨-1, M, ?_, mput M 40 0 0 0, ?_, T, As, n, nh, ns, nw, na, md, ia, ni, nt, mds, CORE_t hC⟩
    · refine (EX_in mi_X6_count rfl rfl rfl (ls := [some (.inr (.inr (0, 0))), some (.inl (a1))]) rfl).trans ?_
      rw [e_X6_count_0, e_X6_count_1_d _ _ _ _ _ _ _ _ _ _ _ a1 (out4 c), e_X6_count_61]
    · refine (EX_in mi_X7_count rfl rfl rfl (ls := [some (.inr (.inr (40, 0))), some (.inl (a1))]) rfl).trans ?_
      rw [e_X7_count_0, e_X7_count_6_d _ _ _ _ _ _ _ _ _ _ _ a1 (out4 c), e_X7_count_56]
end
