/-! Questions on zones and LEAST: the reference. -/
theorem src_at {V : Vw} {A : Nat → Int32} {n s : Nat} : srcF V A n s (vN V 10 s) = V 11 s := if_pos rfl
theorem src_nn {V : Vw} {A : Nat → Int32} {n nh ns nw s : Nat} (hV : VOK V n nh ns nw) (hs : s < ns) (y : Nat) : ¬ srcF V A n s y < 0 := by
  by_cases e : y = vN V 10 s
  · rw [e, src_at, (hV.2.2.2.2.2.2.2.2.2.2.2.2.2.2.1 s hs).1]
    exact nn_n _ (by have := (hV.2.2.2.2.2.2.2.2.2.2.2.2.2.2.1 s hs).2; omega)
  · exact row_nn e
theorem src_z {V : Vw} {A : Nat → Int32} {n s : Nat} (h : ¬ 0 < srcF V A n s (vN V 10 s)) (h0 : ¬ srcF V A n s (vN V 10 s) < 0) (y : Nat) : srcF V A n s y = 0 := by
  rw [src_at] at h h0
  by_cases e : y = vN V 10 s
  · rw [e, src_at]
    rw [i_lt] at h h0
    have e0 : (0 : Int32).toInt = 0 := by decide
    exact i_eq (by omega)
  · unfold srcF loudF rowF
    rw [if_neg e, loud_0 h]
theorem fl_n {R : Nat → Int32} (h : ∀ y, R y = 0) : ∀ j, flF R j = j ∧ llF R j = 0 := by
  intro j
  induction j with
  | zero => exact ⟨rfl, rfl⟩
  | succ j ih =>
    unfold flF llF
    rw [h j, ih.1, ih.2, if_neg (by omega), if_neg (by decide), if_neg (by decide)]
    exact ⟨rfl, rfl⟩
section
variable (L : Nat) (xs : Nat → Int32) (O : Int64) {T : Vw} {f : Nat → Nat} {As : Nat → Nat → Int32} {n nh ns nw na nd : Nat}
theorem m_zones {D : Nat} (hD : 11 ≤ D) (a s w : Nat) (ha : a < na) (hs : s < ns) (hw : w < 2) (M : Mem) (hB : MB M T f As n nh ns nw na nd) : isI (EX L xs (D) q_X7_zones [.inr (.inr (40, 0)), .inl (nI a), .inl (nI s), .inl (nI w)] M O) O (zoneF (srcF (perfL T f nd) (As a) n s) n w) (MP M) := by
  obtain ⟨d, rfl⟩ : ∃ d, D = d + 2 := ⟨D - 2, by omega⟩
  refine isI_e (EX_in mi_X7_zones rfl rfl rfl (ls := [some (.inr (.inr (40, 0))), some (.inl (nI a)), some (.inl (nI s)), some (.inl (nI w)), none, none, none, none, none, none]) rfl) ?_
  obtain ⟨M1, e1, fr1, hB1, t1⟩ := m_start hB
  have v4 : 8 ≤ n := hB1.1.2.2.2.2.1
  have v5 : n ≤ 40 := hB1.1.2.2.2.2.2.1
  have v6 : nh ≤ 8 := hB1.1.2.2.2.2.2.2.1
  have v7 : ns ≤ 6 := hB1.1.2.2.2.2.2.2.2.1
  have v8 : nw ≤ 8 := hB1.1.2.2.2.2.2.2.2.2.1
  have h6 : na ≤ 6 := hB1.2.2.2.2.2.1
  have z0 := hB1.2.1.1
  have z1 := hB1.2.1.2.1
  have z2 := hB1.2.1.2.2.1
  have z3 := hB1.2.1.2.2.2.1
  have z26 := hB1.2.2.2.2.1
  have b0 := fun w q => x7_bad_0 L xs O (D := d + 1) (by omega) w q M1 t1
  obtain ⟨M2, ql, h2⟩ := x7_laidR L xs O (D := d + 1) (by omega) hB fr1 hB1 t1
  have p1 := x7_isAir_i L xs O (D := d + 1) (by omega) (by omega) a M1 z26 ha
  have p2 := x7_isSource_i L xs O (D := d + 1) (by omega) (by omega) s M1 z2 hs
  have p3 := x7_i2_in L xs O (D := d + 1) (by omega) w M1 hw
  obtain ⟨M3, q3, h3, -, l3⟩ := x7_ofR L xs O (D := d + 1) (by omega) a s ha hs M2 h2
  have hV := h3.2.1.1
  have vs := hV.2.2.2.2.2.2.2.2.2.2.2.2.2.1 s hs
  have g60 := (h3.2.1.2.1.2.2.2.2.2.2.2.1 s hs).1.trans vs.1
  have k0 := h3.2.1.2.1.1
  have hnn := src_nn (A := As a) hV hs
  have hz := src_z (V := (perfL T f nd)) (A := As a) (n := n) (s := s)
  have vs2 := vs.2
  generalize srcF (perfL T f nd) (As a) n s = R at *
  generalize vN (perfL T f nd) 10 s = x0 at *
  simp (disch := first | omega | rfl | decide) only [e_X7_zones_0, e_X7_zones_11, e_X7_zones_22, e_X7_zones_19, e_X7_zones_27, e_X7_zones_32, e_X7_zones_42, e_X7_zones_58, e_X7_zones_50, e_X7_zones_55, e_X7_zones_64, e_X7_zones_70, e_X7_zones_163, e_X7_zones_153, e_X7_zones_135, e_X7_zones_225, e_X7_zones_208, e_X7_zones_203, e_X7_zones_151, xr_v, xr_n, hl_of, hl_cl, hl_toInt, hl_le, hl_lt, hl_eq, nI_add, hl_sub, pk_mul, hl_div, if_pos, if_neg, ↓reduceIte, Nat.reduceAdd, Nat.reduceSub, Nat.reduceMul, Nat.add_zero, Nat.zero_add, mp_s, mp_k, mp_i, mp_g, mr_s, mr_i, mr_g, zlt_0, zlt_1, zlt_2, zlt_3, zlt_4, zlt_5, zlt_6, zlt_8, zlt_12, zlt_15, zlt_20, zlt_24, zlt_36, zlt_40, zlt_48, zlt_80, zlt_97, zlt_120, zlt_256, zlt_600, zlt_99999999, zadd_1, zadd_2, zadd_5, zadd_6, zadd_8, zadd_20, zadd_24, zeq_0, zeq_1, zeq_2, zeq_3, zeq_4, zeq_5, zeq_6, zeq_7, zeq_8, zeq_13, zeq_14, zeq_20, zeq_32, zeq_59, zeq_60, zeq_80, zmul_2, zmul_4, zmul_6, zmul_8, zmul_10, zmul_24, zsub_1, zsub_2, zsub_10, zsub_48, zsub_97, zle_0, zle_1, zle_2, zle_6, zle_11, zle_200, zle_600, zle_100000000, ylt_0, ylt_1, ylt_2, ylt_3, ylt_6, ylt_9, ylt_20, ylt_24, ylt_57, ylt_60, ylt_99, ylt_120, ylt_122, ylt_999, ylt_9999, yle_0, yle_2, yle_4, yle_5, yle_6, yle_7, yle_8, yle_10, yle_12, yle_13, yle_15, yle_16, yle_20, yle_24, yle_40, yle_60, yle_64, yle_80, yadd_1, yadd_22, ymul_2, ymul_4, ymul_6, ymul_8, ymul_10, ymul_24, ymul_27, ymul_100, ysub_1, ysub_24, zdiv_2, zdiv_4, zdiv_24, e1, p1, p2, p3, b0, ql, q3, g60]
  refine loopC L xs O (P := fun r => isI r O _ (MP M)) (fun j ls M' => ∃ l r, ls = [some (.inr (.inr (40, 0))), some (.inl (nI a)), some (.inl (nI s)), some (.inl (nI w)), some (.inl (nI x0)), some (.inl (nI l)), some (.inl (nI r)), some (.inl (0)), some (.inl ((-1))), some (.inl (nI j))] ∧ l ≤ x0 ∧ x0 ≤ r ∧ r < n ∧ (l = x0 ∨ 0 < R l) ∧ (r = x0 ∨ 0 < R r) ∧ (∀ y, y < j → 0 < R y → l ≤ y ∧ y ≤ r) ∧ M' = M3) n 400 (by omega) ?_ ?_ (Nat.le_of_lt (FU (by omega))) ⟨x0, x0, rfl, Nat.le_refl _, Nat.le_refl _, vs2, Or.inl rfl, Or.inl rfl, fun y hy => absurd hy (by omega), rfl⟩
  · rintro fu k j _ M' hj ⟨l, r, rfl, hl, hr, hrn, hl2, hr2, hb, e⟩ ih
    rw [e]
    have g79 := l3 j hj
    by_cases c : R j = 0
    · simp (disch := first | omega | rfl | decide) only [e_X7_zones_0, e_X7_zones_11, e_X7_zones_22, e_X7_zones_19, e_X7_zones_27, e_X7_zones_32, e_X7_zones_42, e_X7_zones_58, e_X7_zones_50, e_X7_zones_55, e_X7_zones_64, e_X7_zones_70, e_X7_zones_97, e_X7_zones_163, e_X7_zones_153, e_X7_zones_135, e_X7_zones_225, e_X7_zones_208, e_X7_zones_203, e_X7_zones_151, xr_v, xr_n, hl_of, hl_cl, hl_toInt, hl_le, hl_lt, hl_eq, nI_add, hl_sub, pk_mul, hl_div, if_pos, if_neg, ↓reduceIte, Nat.reduceAdd, Nat.reduceSub, Nat.reduceMul, Nat.add_zero, Nat.zero_add, mp_s, mp_k, mp_i, mp_g, mr_s, mr_i, mr_g, zlt_0, zlt_1, zlt_2, zlt_3, zlt_4, zlt_5, zlt_6, zlt_8, zlt_12, zlt_15, zlt_20, zlt_24, zlt_36, zlt_40, zlt_48, zlt_80, zlt_97, zlt_120, zlt_256, zlt_600, zlt_99999999, zadd_1, zadd_2, zadd_5, zadd_6, zadd_8, zadd_20, zadd_24, zeq_0, zeq_1, zeq_2, zeq_3, zeq_4, zeq_5, zeq_6, zeq_7, zeq_8, zeq_13, zeq_14, zeq_20, zeq_32, zeq_59, zeq_60, zeq_80, zmul_2, zmul_4, zmul_6, zmul_8, zmul_10, zmul_24, zsub_1, zsub_2, zsub_10, zsub_48, zsub_97, zle_0, zle_1, zle_2, zle_6, zle_11, zle_200, zle_600, zle_100000000, ylt_0, ylt_1, ylt_2, ylt_3, ylt_6, ylt_9, ylt_20, ylt_24, ylt_57, ylt_60, ylt_99, ylt_120, ylt_122, ylt_999, ylt_9999, yle_0, yle_2, yle_4, yle_5, yle_6, yle_7, yle_8, yle_10, yle_12, yle_13, yle_15, yle_16, yle_20, yle_24, yle_40, yle_60, yle_64, yle_80, yadd_1, yadd_22, ymul_2, ymul_4, ymul_6, ymul_8, ymul_10, ymul_24, ymul_27, ymul_100, ysub_1, ysub_24, zdiv_2, zdiv_4, zdiv_24, k0, g79, c]
      refine ih _ _ ⟨l, r, rfl, hl, hr, hrn, hl2, hr2, fun y hy hy2 => ?_, rfl⟩
      by_cases ey : y = j
      · rw [ey, c] at hy2
        exact absurd hy2 (by decide)
      · exact hb y (by omega) hy2
    · have hpos : 0 < R j := by
        have h0 := hnn j
        rw [i_lt] at h0 ⊢
        have e0 : (0 : Int32).toInt = 0 := by decide
        have : (R j).toInt ≠ 0 := fun e => c (i_eq (by omega))
        omega
      by_cases c1 : l ≤ j
      · by_cases c2 : j ≤ r
        · simp (disch := first | omega | rfl | decide) only [e_X7_zones_0, e_X7_zones_11, e_X7_zones_22, e_X7_zones_19, e_X7_zones_27, e_X7_zones_32, e_X7_zones_42, e_X7_zones_58, e_X7_zones_50, e_X7_zones_55, e_X7_zones_64, e_X7_zones_70, e_X7_zones_97, e_X7_zones_163, e_X7_zones_153, e_X7_zones_135, e_X7_zones_225, e_X7_zones_208, e_X7_zones_203, e_X7_zones_151, xr_v, xr_n, hl_of, hl_cl, hl_toInt, hl_le, hl_lt, hl_eq, nI_add, hl_sub, pk_mul, hl_div, if_pos, if_neg, ↓reduceIte, Nat.reduceAdd, Nat.reduceSub, Nat.reduceMul, Nat.add_zero, Nat.zero_add, mp_s, mp_k, mp_i, mp_g, mr_s, mr_i, mr_g, zlt_0, zlt_1, zlt_2, zlt_3, zlt_4, zlt_5, zlt_6, zlt_8, zlt_12, zlt_15, zlt_20, zlt_24, zlt_36, zlt_40, zlt_48, zlt_80, zlt_97, zlt_120, zlt_256, zlt_600, zlt_99999999, zadd_1, zadd_2, zadd_5, zadd_6, zadd_8, zadd_20, zadd_24, zeq_0, zeq_1, zeq_2, zeq_3, zeq_4, zeq_5, zeq_6, zeq_7, zeq_8, zeq_13, zeq_14, zeq_20, zeq_32, zeq_59, zeq_60, zeq_80, zmul_2, zmul_4, zmul_6, zmul_8, zmul_10, zmul_24, zsub_1, zsub_2, zsub_10, zsub_48, zsub_97, zle_0, zle_1, zle_2, zle_6, zle_11, zle_200, zle_600, zle_100000000, ylt_0, ylt_1, ylt_2, ylt_3, ylt_6, ylt_9, ylt_20, ylt_24, ylt_57, ylt_60, ylt_99, ylt_120, ylt_122, ylt_999, ylt_9999, yle_0, yle_2, yle_4, yle_5, yle_6, yle_7, yle_8, yle_10, yle_12, yle_13, yle_15, yle_16, yle_20, yle_24, yle_40, yle_60, yle_64, yle_80, yadd_1, yadd_22, ymul_2, ymul_4, ymul_6, ymul_8, ymul_10, ymul_24, ymul_27, ymul_100, ysub_1, ysub_24, zdiv_2, zdiv_4, zdiv_24, k0, g79, c, c1, c2]
          refine ih _ _ ⟨l, r, rfl, hl, hr, hrn, hl2, hr2, fun y hy hy2 => ?_, rfl⟩
          by_cases ey : y = j
          · omega
          · exact hb y (by omega) hy2
        · simp (disch := first | omega | rfl | decide) only [e_X7_zones_0, e_X7_zones_11, e_X7_zones_22, e_X7_zones_19, e_X7_zones_27, e_X7_zones_32, e_X7_zones_42, e_X7_zones_58, e_X7_zones_50, e_X7_zones_55, e_X7_zones_64, e_X7_zones_70, e_X7_zones_97, e_X7_zones_163, e_X7_zones_153, e_X7_zones_135, e_X7_zones_225, e_X7_zones_208, e_X7_zones_203, e_X7_zones_151, xr_v, xr_n, hl_of, hl_cl, hl_toInt, hl_le, hl_lt, hl_eq, nI_add, hl_sub, pk_mul, hl_div, if_pos, if_neg, ↓reduceIte, Nat.reduceAdd, Nat.reduceSub, Nat.reduceMul, Nat.add_zero, Nat.zero_add, mp_s, mp_k, mp_i, mp_g, mr_s, mr_i, mr_g, zlt_0, zlt_1, zlt_2, zlt_3, zlt_4, zlt_5, zlt_6, zlt_8, zlt_12, zlt_15, zlt_20, zlt_24, zlt_36, zlt_40, zlt_48, zlt_80, zlt_97, zlt_120, zlt_256, zlt_600, zlt_99999999, zadd_1, zadd_2, zadd_5, zadd_6, zadd_8, zadd_20, zadd_24, zeq_0, zeq_1, zeq_2, zeq_3, zeq_4, zeq_5, zeq_6, zeq_7, zeq_8, zeq_13, zeq_14, zeq_20, zeq_32, zeq_59, zeq_60, zeq_80, zmul_2, zmul_4, zmul_6, zmul_8, zmul_10, zmul_24, zsub_1, zsub_2, zsub_10, zsub_48, zsub_97, zle_0, zle_1, zle_2, zle_6, zle_11, zle_200, zle_600, zle_100000000, ylt_0, ylt_1, ylt_2, ylt_3, ylt_6, ylt_9, ylt_20, ylt_24, ylt_57, ylt_60, ylt_99, ylt_120, ylt_122, ylt_999, ylt_9999, yle_0, yle_2, yle_4, yle_5, yle_6, yle_7, yle_8, yle_10, yle_12, yle_13, yle_15, yle_16, yle_20, yle_24, yle_40, yle_60, yle_64, yle_80, yadd_1, yadd_22, ymul_2, ymul_4, ymul_6, ymul_8, ymul_10, ymul_24, ymul_27, ymul_100, ysub_1, ysub_24, zdiv_2, zdiv_4, zdiv_24, k0, g79, c, c1, c2]
          refine ih _ _ ⟨l, j, rfl, hl, by omega, hj, hl2, Or.inr hpos, fun y hy hy2 => ?_, rfl⟩
          by_cases ey : y = j
          · omega
          · have := hb y (by omega) hy2
            omega
      · by_cases c2 : j ≤ r
        · simp (disch := first | omega | rfl | decide) only [e_X7_zones_0, e_X7_zones_11, e_X7_zones_22, e_X7_zones_19, e_X7_zones_27, e_X7_zones_32, e_X7_zones_42, e_X7_zones_58, e_X7_zones_50, e_X7_zones_55, e_X7_zones_64, e_X7_zones_70, e_X7_zones_97, e_X7_zones_163, e_X7_zones_153, e_X7_zones_135, e_X7_zones_225, e_X7_zones_208, e_X7_zones_203, e_X7_zones_151, xr_v, xr_n, hl_of, hl_cl, hl_toInt, hl_le, hl_lt, hl_eq, nI_add, hl_sub, pk_mul, hl_div, if_pos, if_neg, ↓reduceIte, Nat.reduceAdd, Nat.reduceSub, Nat.reduceMul, Nat.add_zero, Nat.zero_add, mp_s, mp_k, mp_i, mp_g, mr_s, mr_i, mr_g, zlt_0, zlt_1, zlt_2, zlt_3, zlt_4, zlt_5, zlt_6, zlt_8, zlt_12, zlt_15, zlt_20, zlt_24, zlt_36, zlt_40, zlt_48, zlt_80, zlt_97, zlt_120, zlt_256, zlt_600, zlt_99999999, zadd_1, zadd_2, zadd_5, zadd_6, zadd_8, zadd_20, zadd_24, zeq_0, zeq_1, zeq_2, zeq_3, zeq_4, zeq_5, zeq_6, zeq_7, zeq_8, zeq_13, zeq_14, zeq_20, zeq_32, zeq_59, zeq_60, zeq_80, zmul_2, zmul_4, zmul_6, zmul_8, zmul_10, zmul_24, zsub_1, zsub_2, zsub_10, zsub_48, zsub_97, zle_0, zle_1, zle_2, zle_6, zle_11, zle_200, zle_600, zle_100000000, ylt_0, ylt_1, ylt_2, ylt_3, ylt_6, ylt_9, ylt_20, ylt_24, ylt_57, ylt_60, ylt_99, ylt_120, ylt_122, ylt_999, ylt_9999, yle_0, yle_2, yle_4, yle_5, yle_6, yle_7, yle_8, yle_10, yle_12, yle_13, yle_15, yle_16, yle_20, yle_24, yle_40, yle_60, yle_64, yle_80, yadd_1, yadd_22, ymul_2, ymul_4, ymul_6, ymul_8, ymul_10, ymul_24, ymul_27, ymul_100, ysub_1, ysub_24, zdiv_2, zdiv_4, zdiv_24, k0, g79, c, c1, c2]
          refine ih _ _ ⟨j, r, rfl, by omega, hr, hrn, Or.inr hpos, hr2, fun y hy hy2 => ?_, rfl⟩
          by_cases ey : y = j
          · omega
          · have := hb y (by omega) hy2
            omega
        · omega
  · rintro fu k _ M' hf ⟨l, r, rfl, hl, hr, hrn, hl2, hr2, hb, e⟩
    have hf' : 999999 ≤ fu + n := hf
    rw [e, e_X7_zones_97, k0, if_pos (by rw [hl_le (by omega) (by omega)]; omega)]
    have fin : ∀ fu k zc zf, (zoneF R n w = if w = 0 then zc else zf) → isI (BK L xs (EX L xs (d + 1)) mi_X7_zones (RN L xs (d) mi_X7_zones fu) (k + 100) 163 [some (.inr (.inr (40, 0))), some (.inl (nI a)), some (.inl (nI s)), some (.inl (nI w)), some (.inl (nI x0)), some (.inl (nI l)), some (.inl (nI r)), some (.inl (zc)), some (.inl (zf)), some (.inl (nI (r + 1)))] [] M3 O none 0 0) O (zoneF R n w) (MP M) := by
      intro fu k zc zf hzz
      rw [hzz]
      by_cases c : w = 0
      · simp (disch := first | omega | rfl | decide) only [e_X7_zones_0, e_X7_zones_11, e_X7_zones_22, e_X7_zones_19, e_X7_zones_27, e_X7_zones_32, e_X7_zones_42, e_X7_zones_58, e_X7_zones_50, e_X7_zones_55, e_X7_zones_64, e_X7_zones_70, e_X7_zones_97, e_X7_zones_163, e_X7_zones_153, e_X7_zones_135, e_X7_zones_225, e_X7_zones_208, e_X7_zones_203, e_X7_zones_151, xr_v, xr_n, hl_of, hl_cl, hl_toInt, hl_le, hl_lt, hl_eq, nI_add, hl_sub, pk_mul, hl_div, if_pos, if_neg, ↓reduceIte, Nat.reduceAdd, Nat.reduceSub, Nat.reduceMul, Nat.add_zero, Nat.zero_add, mp_s, mp_k, mp_i, mp_g, mr_s, mr_i, mr_g, zlt_0, zlt_1, zlt_2, zlt_3, zlt_4, zlt_5, zlt_6, zlt_8, zlt_12, zlt_15, zlt_20, zlt_24, zlt_36, zlt_40, zlt_48, zlt_80, zlt_97, zlt_120, zlt_256, zlt_600, zlt_99999999, zadd_1, zadd_2, zadd_5, zadd_6, zadd_8, zadd_20, zadd_24, zeq_0, zeq_1, zeq_2, zeq_3, zeq_4, zeq_5, zeq_6, zeq_7, zeq_8, zeq_13, zeq_14, zeq_20, zeq_32, zeq_59, zeq_60, zeq_80, zmul_2, zmul_4, zmul_6, zmul_8, zmul_10, zmul_24, zsub_1, zsub_2, zsub_10, zsub_48, zsub_97, zle_0, zle_1, zle_2, zle_6, zle_11, zle_200, zle_600, zle_100000000, ylt_0, ylt_1, ylt_2, ylt_3, ylt_6, ylt_9, ylt_20, ylt_24, ylt_57, ylt_60, ylt_99, ylt_120, ylt_122, ylt_999, ylt_9999, yle_0, yle_2, yle_4, yle_5, yle_6, yle_7, yle_8, yle_10, yle_12, yle_13, yle_15, yle_16, yle_20, yle_24, yle_40, yle_60, yle_64, yle_80, yadd_1, yadd_22, ymul_2, ymul_4, ymul_6, ymul_8, ymul_10, ymul_24, ymul_27, ymul_100, ysub_1, ysub_24, zdiv_2, zdiv_4, zdiv_24]
        exact isI_i (MR_P h3)
      · simp (disch := first | omega | rfl | decide) only [e_X7_zones_0, e_X7_zones_11, e_X7_zones_22, e_X7_zones_19, e_X7_zones_27, e_X7_zones_32, e_X7_zones_42, e_X7_zones_58, e_X7_zones_50, e_X7_zones_55, e_X7_zones_64, e_X7_zones_70, e_X7_zones_97, e_X7_zones_163, e_X7_zones_153, e_X7_zones_135, e_X7_zones_225, e_X7_zones_208, e_X7_zones_203, e_X7_zones_151, xr_v, xr_n, hl_of, hl_cl, hl_toInt, hl_le, hl_lt, hl_eq, nI_add, hl_sub, pk_mul, hl_div, if_pos, if_neg, ↓reduceIte, Nat.reduceAdd, Nat.reduceSub, Nat.reduceMul, Nat.add_zero, Nat.zero_add, mp_s, mp_k, mp_i, mp_g, mr_s, mr_i, mr_g, zlt_0, zlt_1, zlt_2, zlt_3, zlt_4, zlt_5, zlt_6, zlt_8, zlt_12, zlt_15, zlt_20, zlt_24, zlt_36, zlt_40, zlt_48, zlt_80, zlt_97, zlt_120, zlt_256, zlt_600, zlt_99999999, zadd_1, zadd_2, zadd_5, zadd_6, zadd_8, zadd_20, zadd_24, zeq_0, zeq_1, zeq_2, zeq_3, zeq_4, zeq_5, zeq_6, zeq_7, zeq_8, zeq_13, zeq_14, zeq_20, zeq_32, zeq_59, zeq_60, zeq_80, zmul_2, zmul_4, zmul_6, zmul_8, zmul_10, zmul_24, zsub_1, zsub_2, zsub_10, zsub_48, zsub_97, zle_0, zle_1, zle_2, zle_6, zle_11, zle_200, zle_600, zle_100000000, ylt_0, ylt_1, ylt_2, ylt_3, ylt_6, ylt_9, ylt_20, ylt_24, ylt_57, ylt_60, ylt_99, ylt_120, ylt_122, ylt_999, ylt_9999, yle_0, yle_2, yle_4, yle_5, yle_6, yle_7, yle_8, yle_10, yle_12, yle_13, yle_15, yle_16, yle_20, yle_24, yle_40, yle_60, yle_64, yle_80, yadd_1, yadd_22, ymul_2, ymul_4, ymul_6, ymul_8, ymul_10, ymul_24, ymul_27, ymul_100, ysub_1, ysub_24, zdiv_2, zdiv_4, zdiv_24]
        exact isI_i (MR_P h3)
    by_cases cx : 0 < R x0
    · have hl3 : 0 < R l := hl2.elim (fun e => e ▸ cx) id
      have hr3 : 0 < R r := hr2.elim (fun e => e ▸ cx) id
      have efl : flF R n = l := by
        have h1 := fl_ex (R := R) (j := n) (x := l) (by omega) hl3
        have h2 := hb (flF R n) (by omega) (fl_is (by omega))
        omega
      have ell : llF R n = r + 1 := by
        have h1 := ll_ex (R := R) (j := n) (x := r) (by omega) hr3
        have h2 := ll_le R n
        have h3 := hb (llF R n - 1) (by omega) (ll_is (by omega))
        omega
      have hrz : ¬ R r = 0 := fun e => by rw [e] at hr3; exact absurd hr3 (by decide)
      have hxz : ∀ y, y < n → (0 < R y → ¬ R y = 0) ∧ (¬ 0 < R y → R y = 0 ∧ ¬ y = x0) := by
        intro y hy
        refine ⟨fun h e => by rw [e] at h; exact absurd h (by decide), fun h => ⟨?_, fun e => h (e ▸ cx)⟩⟩
        have h0 := hnn y
        rw [i_lt] at h0 h
        have e0 : (0 : Int32).toInt = 0 := by decide
        exact i_eq (by omega)
      refine loopA L xs O (P := fun r => isI r O _ (MP M)) (fun j ls M' => ∃ v v2, v = nI (zcF R l j) ∧ v2 = zfF R l j ∧ ls = [some (.inr (.inr (40, 0))), some (.inl (nI a)), some (.inl (nI s)), some (.inl (nI w)), some (.inl (nI x0)), some (.inl (nI l)), some (.inl (nI r)), some (.inl (v)), some (.inl (v2)), some (.inl (nI (l + j)))] ∧ M' = M3) (r + 1 - l) 100 (by omega) ?_ ?_ (by omega) ⟨_, _, rfl, rfl, rfl, rfl⟩
      · rintro fu k j _ M' hj ⟨_, _, rfl, rfl, rfl, e⟩ ih
        rw [e]
        have g79 := l3 (l + j) (by omega)
        have ea : l + j + 1 = l + (j + 1) := by omega
        by_cases c : 0 < R (l + j)
        · simp (disch := first | omega | rfl | decide) only [e_X7_zones_0, e_X7_zones_11, e_X7_zones_22, e_X7_zones_19, e_X7_zones_27, e_X7_zones_32, e_X7_zones_42, e_X7_zones_58, e_X7_zones_50, e_X7_zones_55, e_X7_zones_64, e_X7_zones_70, e_X7_zones_97, e_X7_zones_163, e_X7_zones_153, e_X7_zones_135, e_X7_zones_225, e_X7_zones_208, e_X7_zones_203, e_X7_zones_151, xr_v, xr_n, hl_of, hl_cl, hl_toInt, hl_le, hl_lt, hl_eq, nI_add, hl_sub, pk_mul, hl_div, if_pos, if_neg, ↓reduceIte, Nat.reduceAdd, Nat.reduceSub, Nat.reduceMul, Nat.add_zero, Nat.zero_add, mp_s, mp_k, mp_i, mp_g, mr_s, mr_i, mr_g, zlt_0, zlt_1, zlt_2, zlt_3, zlt_4, zlt_5, zlt_6, zlt_8, zlt_12, zlt_15, zlt_20, zlt_24, zlt_36, zlt_40, zlt_48, zlt_80, zlt_97, zlt_120, zlt_256, zlt_600, zlt_99999999, zadd_1, zadd_2, zadd_5, zadd_6, zadd_8, zadd_20, zadd_24, zeq_0, zeq_1, zeq_2, zeq_3, zeq_4, zeq_5, zeq_6, zeq_7, zeq_8, zeq_13, zeq_14, zeq_20, zeq_32, zeq_59, zeq_60, zeq_80, zmul_2, zmul_4, zmul_6, zmul_8, zmul_10, zmul_24, zsub_1, zsub_2, zsub_10, zsub_48, zsub_97, zle_0, zle_1, zle_2, zle_6, zle_11, zle_200, zle_600, zle_100000000, ylt_0, ylt_1, ylt_2, ylt_3, ylt_6, ylt_9, ylt_20, ylt_24, ylt_57, ylt_60, ylt_99, ylt_120, ylt_122, ylt_999, ylt_9999, yle_0, yle_2, yle_4, yle_5, yle_6, yle_7, yle_8, yle_10, yle_12, yle_13, yle_15, yle_16, yle_20, yle_24, yle_40, yle_60, yle_64, yle_80, yadd_1, yadd_22, ymul_2, ymul_4, ymul_6, ymul_8, ymul_10, ymul_24, ymul_27, ymul_100, ysub_1, ysub_24, zdiv_2, zdiv_4, zdiv_24, g79, c, ea]
          refine ih _ _ ⟨_, _, ?_, ?_, rfl, rfl⟩
          · rw [zc_dec, if_neg ((hxz (l + j) (by omega)).1 c)]
          · rw [zf_dec, if_neg ((hxz (l + j) (by omega)).1 c)]
        · obtain ⟨c1, c2⟩ := (hxz (l + j) (by omega)).2 c
          by_cases c3 : zfF R l j = -1
          · simp (disch := first | omega | rfl | decide) only [e_X7_zones_0, e_X7_zones_11, e_X7_zones_22, e_X7_zones_19, e_X7_zones_27, e_X7_zones_32, e_X7_zones_42, e_X7_zones_58, e_X7_zones_50, e_X7_zones_55, e_X7_zones_64, e_X7_zones_70, e_X7_zones_97, e_X7_zones_163, e_X7_zones_153, e_X7_zones_135, e_X7_zones_225, e_X7_zones_208, e_X7_zones_203, e_X7_zones_151, xr_v, xr_n, hl_of, hl_cl, hl_toInt, hl_le, hl_lt, hl_eq, nI_add, hl_sub, pk_mul, hl_div, if_pos, if_neg, ↓reduceIte, Nat.reduceAdd, Nat.reduceSub, Nat.reduceMul, Nat.add_zero, Nat.zero_add, mp_s, mp_k, mp_i, mp_g, mr_s, mr_i, mr_g, zlt_0, zlt_1, zlt_2, zlt_3, zlt_4, zlt_5, zlt_6, zlt_8, zlt_12, zlt_15, zlt_20, zlt_24, zlt_36, zlt_40, zlt_48, zlt_80, zlt_97, zlt_120, zlt_256, zlt_600, zlt_99999999, zadd_1, zadd_2, zadd_5, zadd_6, zadd_8, zadd_20, zadd_24, zeq_0, zeq_1, zeq_2, zeq_3, zeq_4, zeq_5, zeq_6, zeq_7, zeq_8, zeq_13, zeq_14, zeq_20, zeq_32, zeq_59, zeq_60, zeq_80, zmul_2, zmul_4, zmul_6, zmul_8, zmul_10, zmul_24, zsub_1, zsub_2, zsub_10, zsub_48, zsub_97, zle_0, zle_1, zle_2, zle_6, zle_11, zle_200, zle_600, zle_100000000, ylt_0, ylt_1, ylt_2, ylt_3, ylt_6, ylt_9, ylt_20, ylt_24, ylt_57, ylt_60, ylt_99, ylt_120, ylt_122, ylt_999, ylt_9999, yle_0, yle_2, yle_4, yle_5, yle_6, yle_7, yle_8, yle_10, yle_12, yle_13, yle_15, yle_16, yle_20, yle_24, yle_40, yle_60, yle_64, yle_80, yadd_1, yadd_22, ymul_2, ymul_4, ymul_6, ymul_8, ymul_10, ymul_24, ymul_27, ymul_100, ysub_1, ysub_24, zdiv_2, zdiv_4, zdiv_24, g79, c, c2, c3, ea]
            refine ih _ _ ⟨_, _, ?_, ?_, rfl, rfl⟩
            · rw [zc_dec, if_pos c1]
            · rw [zf_dec, if_pos c1, if_pos c3]
          · simp (disch := first | omega | rfl | decide) only [e_X7_zones_0, e_X7_zones_11, e_X7_zones_22, e_X7_zones_19, e_X7_zones_27, e_X7_zones_32, e_X7_zones_42, e_X7_zones_58, e_X7_zones_50, e_X7_zones_55, e_X7_zones_64, e_X7_zones_70, e_X7_zones_97, e_X7_zones_163, e_X7_zones_153, e_X7_zones_135, e_X7_zones_225, e_X7_zones_208, e_X7_zones_203, e_X7_zones_151, xr_v, xr_n, hl_of, hl_cl, hl_toInt, hl_le, hl_lt, hl_eq, nI_add, hl_sub, pk_mul, hl_div, if_pos, if_neg, ↓reduceIte, Nat.reduceAdd, Nat.reduceSub, Nat.reduceMul, Nat.add_zero, Nat.zero_add, mp_s, mp_k, mp_i, mp_g, mr_s, mr_i, mr_g, zlt_0, zlt_1, zlt_2, zlt_3, zlt_4, zlt_5, zlt_6, zlt_8, zlt_12, zlt_15, zlt_20, zlt_24, zlt_36, zlt_40, zlt_48, zlt_80, zlt_97, zlt_120, zlt_256, zlt_600, zlt_99999999, zadd_1, zadd_2, zadd_5, zadd_6, zadd_8, zadd_20, zadd_24, zeq_0, zeq_1, zeq_2, zeq_3, zeq_4, zeq_5, zeq_6, zeq_7, zeq_8, zeq_13, zeq_14, zeq_20, zeq_32, zeq_59, zeq_60, zeq_80, zmul_2, zmul_4, zmul_6, zmul_8, zmul_10, zmul_24, zsub_1, zsub_2, zsub_10, zsub_48, zsub_97, zle_0, zle_1, zle_2, zle_6, zle_11, zle_200, zle_600, zle_100000000, ylt_0, ylt_1, ylt_2, ylt_3, ylt_6, ylt_9, ylt_20, ylt_24, ylt_57, ylt_60, ylt_99, ylt_120, ylt_122, ylt_999, ylt_9999, yle_0, yle_2, yle_4, yle_5, yle_6, yle_7, yle_8, yle_10, yle_12, yle_13, yle_15, yle_16, yle_20, yle_24, yle_40, yle_60, yle_64, yle_80, yadd_1, yadd_22, ymul_2, ymul_4, ymul_6, ymul_8, ymul_10, ymul_24, ymul_27, ymul_100, ysub_1, ysub_24, zdiv_2, zdiv_4, zdiv_24, g79, c, c2, c3, ea]
            refine ih _ _ ⟨_, _, ?_, ?_, rfl, rfl⟩
            · rw [zc_dec, if_pos c1]
            · rw [zf_dec, if_pos c1, if_neg c3]
      · rintro fu k _ M' ⟨_, _, rfl, rfl, rfl, e⟩
        rw [e, show l + (r + 1 - l) = r + 1 by omega]
        refine fin fu k _ _ ?_
        unfold zoneF
        rw [efl, ell, show r + 1 - 1 - l = r - l by omega, show r + 1 - l = r - l + 1 by omega, zc_dec, zf_dec, show l + (r - l) = r by omega, if_neg hrz, if_neg hrz]
    · have hR0 := hz cx (hnn x0)
      have el : l = x0 := hl2.elim id (fun h => by rw [hR0 l] at h; exact absurd h (by decide))
      have er : r = x0 := hr2.elim id (fun h => by rw [hR0 r] at h; exact absurd h (by decide))
      obtain ⟨f', rfl⟩ : ∃ f', fu = f' + 1 := ⟨fu - 1, by omega⟩
      subst el
      have g79 := l3 l (by omega)
      simp (disch := first | omega | rfl | decide) only [e_X7_zones_0, e_X7_zones_11, e_X7_zones_22, e_X7_zones_19, e_X7_zones_27, e_X7_zones_32, e_X7_zones_42, e_X7_zones_58, e_X7_zones_50, e_X7_zones_55, e_X7_zones_64, e_X7_zones_70, e_X7_zones_97, e_X7_zones_163, e_X7_zones_153, e_X7_zones_135, e_X7_zones_225, e_X7_zones_208, e_X7_zones_203, e_X7_zones_151, xr_v, xr_n, hl_of, hl_cl, hl_toInt, hl_le, hl_lt, hl_eq, nI_add, hl_sub, pk_mul, hl_div, if_pos, if_neg, ↓reduceIte, Nat.reduceAdd, Nat.reduceSub, Nat.reduceMul, Nat.add_zero, Nat.zero_add, mp_s, mp_k, mp_i, mp_g, mr_s, mr_i, mr_g, zlt_0, zlt_1, zlt_2, zlt_3, zlt_4, zlt_5, zlt_6, zlt_8, zlt_12, zlt_15, zlt_20, zlt_24, zlt_36, zlt_40, zlt_48, zlt_80, zlt_97, zlt_120, zlt_256, zlt_600, zlt_99999999, zadd_1, zadd_2, zadd_5, zadd_6, zadd_8, zadd_20, zadd_24, zeq_0, zeq_1, zeq_2, zeq_3, zeq_4, zeq_5, zeq_6, zeq_7, zeq_8, zeq_13, zeq_14, zeq_20, zeq_32, zeq_59, zeq_60, zeq_80, zmul_2, zmul_4, zmul_6, zmul_8, zmul_10, zmul_24, zsub_1, zsub_2, zsub_10, zsub_48, zsub_97, zle_0, zle_1, zle_2, zle_6, zle_11, zle_200, zle_600, zle_100000000, ylt_0, ylt_1, ylt_2, ylt_3, ylt_6, ylt_9, ylt_20, ylt_24, ylt_57, ylt_60, ylt_99, ylt_120, ylt_122, ylt_999, ylt_9999, yle_0, yle_2, yle_4, yle_5, yle_6, yle_7, yle_8, yle_10, yle_12, yle_13, yle_15, yle_16, yle_20, yle_24, yle_40, yle_60, yle_64, yle_80, yadd_1, yadd_22, ymul_2, ymul_4, ymul_6, ymul_8, ymul_10, ymul_24, ymul_27, ymul_100, ysub_1, ysub_24, zdiv_2, zdiv_4, zdiv_24, g79, cx]
      refine isI_e (RN_s _ _ _ _ _ _ _ _ _ _ _ _) ?_
      rw [show l + 1 = r + 1 by omega]
      refine fin f' 2900 0 (-1) ?_
      unfold zoneF
      rw [(fl_n hR0 n).1, (fl_n hR0 n).2, show 0 - 1 - n = 0 by omega]
      rfl
theorem m_least {D : Nat} (hD : 11 ≤ D) (a h w : Nat) (hs : Int32) (ha : a < na) (hh : h < 24) (hb : inN hs (2 ^ nh)) (hw : w < 2) (M : Mem) (hB : MB M T f As n nh ns nw na nd) : isI (EX L xs (D) q_X7_least [.inr (.inr (40, 0)), .inl (nI a), .inl (nI h), .inl (hs), .inl (nI w)] M O) O (if w = 1 then bI (lF (perfL T f nd) (As a) f n nh ns nw nd h hs (2 ^ nw)) else mI (perfL T f nd) nw (lF (perfL T f nd) (As a) f n nh ns nw nd h hs (2 ^ nw))) (MP M) := by
  obtain ⟨d, rfl⟩ : ∃ d, D = d + 2 := ⟨D - 2, by omega⟩
  refine isI_e (EX_in mi_X7_least rfl rfl rfl (ls := [some (.inr (.inr (40, 0))), some (.inl (nI a)), some (.inl (nI h)), some (.inl (hs)), some (.inl (nI w))]) rfl) ?_
  obtain ⟨M1, e1, fr1, hB1, t1⟩ := m_start hB
  have v4 : 8 ≤ n := hB1.1.2.2.2.2.1
  have v5 : n ≤ 40 := hB1.1.2.2.2.2.2.1
  have v6 : nh ≤ 8 := hB1.1.2.2.2.2.2.2.1
  have v7 : ns ≤ 6 := hB1.1.2.2.2.2.2.2.2.1
  have v8 : nw ≤ 8 := hB1.1.2.2.2.2.2.2.2.2.1
  have h6 : na ≤ 6 := hB1.2.2.2.2.2.1
  have z0 := hB1.2.1.1
  have z1 := hB1.2.1.2.1
  have z2 := hB1.2.1.2.2.1
  have z3 := hB1.2.1.2.2.2.1
  have z26 := hB1.2.2.2.2.1
  have b0 := fun w q => x7_bad_0 L xs O (D := d + 1) (by omega) w q M1 t1
  have p1 := x7_isAir_i L xs O (D := d + 1) (by omega) (by omega) a M1 z26 ha
  have p2 := x7_isHour_i L xs O (D := d + 1) (by omega) h M1 hh
  have p3 := x7_bits_i L xs O (D := d + 1) (by omega) v6 hs M1 z1 hb
  have p4 := x7_i2_in L xs O (D := d + 1) (by omega) w M1 hw
  obtain ⟨M2, q2, f2, r46, r47⟩ := x7_findLeast L xs O (D := d + 1) (by omega) a h ha hh hs M1 hB1
  have hP : MP M M2 := ⟨Fr_trans fr1 (Fr_mono (fun _ _ _ => sNt_N) f2), (f2 40 0 0 rfl).trans t1⟩
  by_cases c : w = 0
  · rw [if_neg (by omega)]
    simp (disch := first | omega | rfl | decide) only [e_X7_least_0, e_X7_least_11, e_X7_least_19, e_X7_least_24, e_X7_least_32, e_X7_least_66, e_X7_least_53, e_X7_least_40, e_X7_least_58, e_X7_least_50, e_X7_least_63, e_X7_least_75, e_X7_least_91, xr_v, xr_n, hl_of, hl_cl, hl_toInt, hl_le, hl_lt, hl_eq, nI_add, hl_sub, pk_mul, hl_div, if_pos, if_neg, ↓reduceIte, Nat.reduceAdd, Nat.reduceSub, Nat.reduceMul, Nat.add_zero, Nat.zero_add, mp_s, mp_k, mp_i, mp_g, mr_s, mr_i, mr_g, zlt_0, zlt_1, zlt_2, zlt_3, zlt_4, zlt_5, zlt_6, zlt_8, zlt_12, zlt_15, zlt_20, zlt_24, zlt_36, zlt_40, zlt_48, zlt_80, zlt_97, zlt_120, zlt_256, zlt_600, zlt_99999999, zadd_1, zadd_2, zadd_5, zadd_6, zadd_8, zadd_20, zadd_24, zeq_0, zeq_1, zeq_2, zeq_3, zeq_4, zeq_5, zeq_6, zeq_7, zeq_8, zeq_13, zeq_14, zeq_20, zeq_32, zeq_59, zeq_60, zeq_80, zmul_2, zmul_4, zmul_6, zmul_8, zmul_10, zmul_24, zsub_1, zsub_2, zsub_10, zsub_48, zsub_97, zle_0, zle_1, zle_2, zle_6, zle_11, zle_200, zle_600, zle_100000000, ylt_0, ylt_1, ylt_2, ylt_3, ylt_6, ylt_9, ylt_20, ylt_24, ylt_57, ylt_60, ylt_99, ylt_120, ylt_122, ylt_999, ylt_9999, yle_0, yle_2, yle_4, yle_5, yle_6, yle_7, yle_8, yle_10, yle_12, yle_13, yle_15, yle_16, yle_20, yle_24, yle_40, yle_60, yle_64, yle_80, yadd_1, yadd_22, ymul_2, ymul_4, ymul_6, ymul_8, ymul_10, ymul_24, ymul_27, ymul_100, ysub_1, ysub_24, zdiv_2, zdiv_4, zdiv_24, e1, p1, p2, p3, p4, b0, q2, r46]
    exact isI_i hP
  · rw [if_pos (by omega)]
    simp (disch := first | omega | rfl | decide) only [e_X7_least_0, e_X7_least_11, e_X7_least_19, e_X7_least_24, e_X7_least_32, e_X7_least_66, e_X7_least_53, e_X7_least_40, e_X7_least_58, e_X7_least_50, e_X7_least_63, e_X7_least_75, e_X7_least_91, xr_v, xr_n, hl_of, hl_cl, hl_toInt, hl_le, hl_lt, hl_eq, nI_add, hl_sub, pk_mul, hl_div, if_pos, if_neg, ↓reduceIte, Nat.reduceAdd, Nat.reduceSub, Nat.reduceMul, Nat.add_zero, Nat.zero_add, mp_s, mp_k, mp_i, mp_g, mr_s, mr_i, mr_g, zlt_0, zlt_1, zlt_2, zlt_3, zlt_4, zlt_5, zlt_6, zlt_8, zlt_12, zlt_15, zlt_20, zlt_24, zlt_36, zlt_40, zlt_48, zlt_80, zlt_97, zlt_120, zlt_256, zlt_600, zlt_99999999, zadd_1, zadd_2, zadd_5, zadd_6, zadd_8, zadd_20, zadd_24, zeq_0, zeq_1, zeq_2, zeq_3, zeq_4, zeq_5, zeq_6, zeq_7, zeq_8, zeq_13, zeq_14, zeq_20, zeq_32, zeq_59, zeq_60, zeq_80, zmul_2, zmul_4, zmul_6, zmul_8, zmul_10, zmul_24, zsub_1, zsub_2, zsub_10, zsub_48, zsub_97, zle_0, zle_1, zle_2, zle_6, zle_11, zle_200, zle_600, zle_100000000, ylt_0, ylt_1, ylt_2, ylt_3, ylt_6, ylt_9, ylt_20, ylt_24, ylt_57, ylt_60, ylt_99, ylt_120, ylt_122, ylt_999, ylt_9999, yle_0, yle_2, yle_4, yle_5, yle_6, yle_7, yle_8, yle_10, yle_12, yle_13, yle_15, yle_16, yle_20, yle_24, yle_40, yle_60, yle_64, yle_80, yadd_1, yadd_22, ymul_2, ymul_4, ymul_6, ymul_8, ymul_10, ymul_24, ymul_27, ymul_100, ysub_1, ysub_24, zdiv_2, zdiv_4, zdiv_24, e1, p1, p2, p3, p4, b0, q2, r47]
    exact isI_i hP
theorem m_bound {D : Nat} (hD : 11 ≤ D) (a h : Nat) (hs : Int32) (ha : a < na) (hh : h < 24) (hb : inN hs (2 ^ nh)) (M : Mem) (hB : MB M T f As n nh ns nw na nd) : isI (EX L xs (D) q_X7_bound [.inr (.inr (40, 0)), .inl (nI a), .inl (nI h), .inl (hs)] M O) O (oI (bndF (perfL T f nd) (As a) f n nh ns nw nd h hs nh)) (MP M) := by
  obtain ⟨d, rfl⟩ : ∃ d, D = d + 2 := ⟨D - 2, by omega⟩
  refine isI_e (EX_in mi_X7_bound rfl rfl rfl (ls := [some (.inr (.inr (40, 0))), some (.inl (nI a)), some (.inl (nI h)), some (.inl (hs)), none, none]) rfl) ?_
  obtain ⟨M1, e1, fr1, hB1, t1⟩ := m_start hB
  have v4 : 8 ≤ n := hB1.1.2.2.2.2.1
  have v5 : n ≤ 40 := hB1.1.2.2.2.2.2.1
  have v6 : nh ≤ 8 := hB1.1.2.2.2.2.2.2.1
  have v7 : ns ≤ 6 := hB1.1.2.2.2.2.2.2.2.1
  have v8 : nw ≤ 8 := hB1.1.2.2.2.2.2.2.2.2.1
  have h6 : na ≤ 6 := hB1.2.2.2.2.2.1
  have z0 := hB1.2.1.1
  have z1 := hB1.2.1.2.1
  have z2 := hB1.2.1.2.2.1
  have z3 := hB1.2.1.2.2.2.1
  have z26 := hB1.2.2.2.2.1
  have b0 := fun w q => x7_bad_0 L xs O (D := d + 1) (by omega) w q M1 t1
  have p1 := x7_isAir_i L xs O (D := d + 1) (by omega) (by omega) a M1 z26 ha
  have p2 := x7_isHour_i L xs O (D := d + 1) (by omega) h M1 hh
  have p3 := x7_bits_i L xs O (D := d + 1) (by omega) v6 hs M1 z1 hb
  have hVd := perfL_ok hB1.1 f nd (fun i hi => (hB1.2.2.2.1.2.2 i hi).2)
  simp (disch := first | omega | rfl | decide) only [e_X7_bound_0, e_X7_bound_11, e_X7_bound_19, e_X7_bound_24, e_X7_bound_32, e_X7_bound_56, e_X7_bound_43, e_X7_bound_40, e_X7_bound_48, e_X7_bound_53, e_X7_bound_127, e_X7_bound_97, e_X7_bound_125, xr_v, xr_n, hl_of, hl_cl, hl_toInt, hl_le, hl_lt, hl_eq, nI_add, hl_sub, pk_mul, hl_div, if_pos, if_neg, ↓reduceIte, Nat.reduceAdd, Nat.reduceSub, Nat.reduceMul, Nat.add_zero, Nat.zero_add, mp_s, mp_k, mp_i, mp_g, mr_s, mr_i, mr_g, zlt_0, zlt_1, zlt_2, zlt_3, zlt_4, zlt_5, zlt_6, zlt_8, zlt_12, zlt_15, zlt_20, zlt_24, zlt_36, zlt_40, zlt_48, zlt_80, zlt_97, zlt_120, zlt_256, zlt_600, zlt_99999999, zadd_1, zadd_2, zadd_5, zadd_6, zadd_8, zadd_20, zadd_24, zeq_0, zeq_1, zeq_2, zeq_3, zeq_4, zeq_5, zeq_6, zeq_7, zeq_8, zeq_13, zeq_14, zeq_20, zeq_32, zeq_59, zeq_60, zeq_80, zmul_2, zmul_4, zmul_6, zmul_8, zmul_10, zmul_24, zsub_1, zsub_2, zsub_10, zsub_48, zsub_97, zle_0, zle_1, zle_2, zle_6, zle_11, zle_200, zle_600, zle_100000000, ylt_0, ylt_1, ylt_2, ylt_3, ylt_6, ylt_9, ylt_20, ylt_24, ylt_57, ylt_60, ylt_99, ylt_120, ylt_122, ylt_999, ylt_9999, yle_0, yle_2, yle_4, yle_5, yle_6, yle_7, yle_8, yle_10, yle_12, yle_13, yle_15, yle_16, yle_20, yle_24, yle_40, yle_60, yle_64, yle_80, yadd_1, yadd_22, ymul_2, ymul_4, ymul_6, ymul_8, ymul_10, ymul_24, ymul_27, ymul_100, ysub_1, ysub_24, zdiv_2, zdiv_4, zdiv_24, e1, p1, p2, p3, b0]
  refine loopA L xs O (P := fun r => isI r O _ (MP M)) (fun j ls M' => ∃ m, bndF (perfL T f nd) (As a) f n nh ns nw nd h hs j = some m ∧ ls = [some (.inr (.inr (40, 0))), some (.inl (nI a)), some (.inl (nI h)), some (.inl (hs)), some (.inl (nI m)), some (.inl (nI j))] ∧ MB M' T f As n nh ns nw na nd ∧ MP M M') nh 100 (by omega) ?_ ?_ (Nat.le_of_lt (FU (by omega))) ⟨_, rfl, rfl, hB1, fr1, t1⟩
  · rintro fu k j _ M' hj ⟨m, hm, rfl, hB', hP⟩ ih
    have z1 := hB'.2.1.2.1
    have hmle := bnd_le hVd.2.2.2.2.2.2.2.2.2.2.2.2.2.2.2.2 j m hm
    have hz := bit_z hs (show j < 32 by omega)
    have hs1 : bndF (perfL T f nd) (As a) f n nh ns nw nd h hs (j + 1) = if bitB hs j = true then (match lF (perfL T f nd) (As a) f n nh ns nw nd h (1 <<< (nI j &&& 31)) (2 ^ nw) with
      | none => none
      | some b => some (if m < coinN (perfL T f nd) (nI b) nw then coinN (perfL T f nd) (nI b) nw else m)) else some m := by
      show (match bndF (perfL T f nd) (As a) f n nh ns nw nd h hs j with
        | none => none
        | some m => _) = _
      rw [hm]
      rfl
    cases c : bitB hs j with
    | false =>
      rw [c, if_neg Bool.false_ne_true] at hs1
      have hz' := hz.mpr c
      simp (disch := first | omega | rfl | decide) only [e_X7_bound_0, e_X7_bound_11, e_X7_bound_19, e_X7_bound_24, e_X7_bound_32, e_X7_bound_56, e_X7_bound_43, e_X7_bound_40, e_X7_bound_48, e_X7_bound_53, e_X7_bound_64, e_X7_bound_127, e_X7_bound_97, e_X7_bound_125, xr_v, xr_n, hl_of, hl_cl, hl_toInt, hl_le, hl_lt, hl_eq, nI_add, hl_sub, pk_mul, hl_div, if_pos, if_neg, ↓reduceIte, Nat.reduceAdd, Nat.reduceSub, Nat.reduceMul, Nat.add_zero, Nat.zero_add, mp_s, mp_k, mp_i, mp_g, mr_s, mr_i, mr_g, zlt_0, zlt_1, zlt_2, zlt_3, zlt_4, zlt_5, zlt_6, zlt_8, zlt_12, zlt_15, zlt_20, zlt_24, zlt_36, zlt_40, zlt_48, zlt_80, zlt_97, zlt_120, zlt_256, zlt_600, zlt_99999999, zadd_1, zadd_2, zadd_5, zadd_6, zadd_8, zadd_20, zadd_24, zeq_0, zeq_1, zeq_2, zeq_3, zeq_4, zeq_5, zeq_6, zeq_7, zeq_8, zeq_13, zeq_14, zeq_20, zeq_32, zeq_59, zeq_60, zeq_80, zmul_2, zmul_4, zmul_6, zmul_8, zmul_10, zmul_24, zsub_1, zsub_2, zsub_10, zsub_48, zsub_97, zle_0, zle_1, zle_2, zle_6, zle_11, zle_200, zle_600, zle_100000000, ylt_0, ylt_1, ylt_2, ylt_3, ylt_6, ylt_9, ylt_20, ylt_24, ylt_57, ylt_60, ylt_99, ylt_120, ylt_122, ylt_999, ylt_9999, yle_0, yle_2, yle_4, yle_5, yle_6, yle_7, yle_8, yle_10, yle_12, yle_13, yle_15, yle_16, yle_20, yle_24, yle_40, yle_60, yle_64, yle_80, yadd_1, yadd_22, ymul_2, ymul_4, ymul_6, ymul_8, ymul_10, ymul_24, ymul_27, ymul_100, ysub_1, ysub_24, zdiv_2, zdiv_4, zdiv_24, z1, hz']
      exact ih _ _ ⟨_, hs1, rfl, hB', hP⟩
    | true =>
      rw [c, if_pos rfl] at hs1
      have hz' : ¬ (hs >>> (nI j &&& 31)) &&& 1 = 0 := fun e => by rw [hz.mp e] at c; cases c
      obtain ⟨M2, q2, f2, r46, r47⟩ := x7_findLeast L xs O (D := d + 1) (by omega) a h ha hh (1 <<< (nI j &&& 31)) M' hB'
      have hP2 : MP M M2 := ⟨Fr_trans hP.1 (Fr_mono (fun _ _ _ => sNt_N) f2), (f2 40 0 0 rfl).trans hP.2⟩
      have hB2 := MB_fr hB' f2
      generalize lF (perfL T f nd) (As a) f n nh ns nw nd h (1 <<< (nI j &&& 31)) (2 ^ nw) = st at *
      cases st with
      | none =>
        rw [show mI (perfL T f nd) nw none = (-1 : Int32) from rfl] at r46
        have hs2 := bnd_none hs1 (nh - (j + 1))
        rw [show j + 1 + (nh - (j + 1)) = nh by omega] at hs2
        rw [hs2]
        simp (disch := first | omega | rfl | decide) only [e_X7_bound_0, e_X7_bound_11, e_X7_bound_19, e_X7_bound_24, e_X7_bound_32, e_X7_bound_56, e_X7_bound_43, e_X7_bound_40, e_X7_bound_48, e_X7_bound_53, e_X7_bound_64, e_X7_bound_127, e_X7_bound_97, e_X7_bound_125, xr_v, xr_n, hl_of, hl_cl, hl_toInt, hl_le, hl_lt, hl_eq, nI_add, hl_sub, pk_mul, hl_div, if_pos, if_neg, ↓reduceIte, Nat.reduceAdd, Nat.reduceSub, Nat.reduceMul, Nat.add_zero, Nat.zero_add, mp_s, mp_k, mp_i, mp_g, mr_s, mr_i, mr_g, zlt_0, zlt_1, zlt_2, zlt_3, zlt_4, zlt_5, zlt_6, zlt_8, zlt_12, zlt_15, zlt_20, zlt_24, zlt_36, zlt_40, zlt_48, zlt_80, zlt_97, zlt_120, zlt_256, zlt_600, zlt_99999999, zadd_1, zadd_2, zadd_5, zadd_6, zadd_8, zadd_20, zadd_24, zeq_0, zeq_1, zeq_2, zeq_3, zeq_4, zeq_5, zeq_6, zeq_7, zeq_8, zeq_13, zeq_14, zeq_20, zeq_32, zeq_59, zeq_60, zeq_80, zmul_2, zmul_4, zmul_6, zmul_8, zmul_10, zmul_24, zsub_1, zsub_2, zsub_10, zsub_48, zsub_97, zle_0, zle_1, zle_2, zle_6, zle_11, zle_200, zle_600, zle_100000000, ylt_0, ylt_1, ylt_2, ylt_3, ylt_6, ylt_9, ylt_20, ylt_24, ylt_57, ylt_60, ylt_99, ylt_120, ylt_122, ylt_999, ylt_9999, yle_0, yle_2, yle_4, yle_5, yle_6, yle_7, yle_8, yle_10, yle_12, yle_13, yle_15, yle_16, yle_20, yle_24, yle_40, yle_60, yle_64, yle_80, yadd_1, yadd_22, ymul_2, ymul_4, ymul_6, ymul_8, ymul_10, ymul_24, ymul_27, ymul_100, ysub_1, ysub_24, zdiv_2, zdiv_4, zdiv_24, z1, hz', q2, r46]
        exact isI_i hP2
      | some b =>
        have cle := coin_le hVd.2.2.2.2.2.2.2.2.2.2.2.2.2.2.2.2 (nI b) nw (Nat.le_refl _)
        rw [show mI (perfL T f nd) nw (some b) = nI (coinN (perfL T f nd) (nI b) nw) from rfl] at r46
        have hnn : ¬ nI (coinN (perfL T f nd) (nI b) nw) = -1 := fun e => nn_n (coinN (perfL T f nd) (nI b) nw) (by omega) (by rw [e]; decide)
        by_cases c2 : m < coinN (perfL T f nd) (nI b) nw
        · have c3 : ¬ coinN (perfL T f nd) (nI b) nw ≤ m := by omega
          simp (disch := first | omega | rfl | decide) only [e_X7_bound_0, e_X7_bound_11, e_X7_bound_19, e_X7_bound_24, e_X7_bound_32, e_X7_bound_56, e_X7_bound_43, e_X7_bound_40, e_X7_bound_48, e_X7_bound_53, e_X7_bound_64, e_X7_bound_127, e_X7_bound_97, e_X7_bound_125, xr_v, xr_n, hl_of, hl_cl, hl_toInt, hl_le, hl_lt, hl_eq, nI_add, hl_sub, pk_mul, hl_div, if_pos, if_neg, ↓reduceIte, Nat.reduceAdd, Nat.reduceSub, Nat.reduceMul, Nat.add_zero, Nat.zero_add, mp_s, mp_k, mp_i, mp_g, mr_s, mr_i, mr_g, zlt_0, zlt_1, zlt_2, zlt_3, zlt_4, zlt_5, zlt_6, zlt_8, zlt_12, zlt_15, zlt_20, zlt_24, zlt_36, zlt_40, zlt_48, zlt_80, zlt_97, zlt_120, zlt_256, zlt_600, zlt_99999999, zadd_1, zadd_2, zadd_5, zadd_6, zadd_8, zadd_20, zadd_24, zeq_0, zeq_1, zeq_2, zeq_3, zeq_4, zeq_5, zeq_6, zeq_7, zeq_8, zeq_13, zeq_14, zeq_20, zeq_32, zeq_59, zeq_60, zeq_80, zmul_2, zmul_4, zmul_6, zmul_8, zmul_10, zmul_24, zsub_1, zsub_2, zsub_10, zsub_48, zsub_97, zle_0, zle_1, zle_2, zle_6, zle_11, zle_200, zle_600, zle_100000000, ylt_0, ylt_1, ylt_2, ylt_3, ylt_6, ylt_9, ylt_20, ylt_24, ylt_57, ylt_60, ylt_99, ylt_120, ylt_122, ylt_999, ylt_9999, yle_0, yle_2, yle_4, yle_5, yle_6, yle_7, yle_8, yle_10, yle_12, yle_13, yle_15, yle_16, yle_20, yle_24, yle_40, yle_60, yle_64, yle_80, yadd_1, yadd_22, ymul_2, ymul_4, ymul_6, ymul_8, ymul_10, ymul_24, ymul_27, ymul_100, ysub_1, ysub_24, zdiv_2, zdiv_4, zdiv_24, z1, hz', q2, r46, hnn, c3]
          exact ih _ _ ⟨_, hs1.trans (congrArg some (if_pos c2)), rfl, hB2, hP2⟩
        · have c3 : coinN (perfL T f nd) (nI b) nw ≤ m := by omega
          simp (disch := first | omega | rfl | decide) only [e_X7_bound_0, e_X7_bound_11, e_X7_bound_19, e_X7_bound_24, e_X7_bound_32, e_X7_bound_56, e_X7_bound_43, e_X7_bound_40, e_X7_bound_48, e_X7_bound_53, e_X7_bound_64, e_X7_bound_127, e_X7_bound_97, e_X7_bound_125, xr_v, xr_n, hl_of, hl_cl, hl_toInt, hl_le, hl_lt, hl_eq, nI_add, hl_sub, pk_mul, hl_div, if_pos, if_neg, ↓reduceIte, Nat.reduceAdd, Nat.reduceSub, Nat.reduceMul, Nat.add_zero, Nat.zero_add, mp_s, mp_k, mp_i, mp_g, mr_s, mr_i, mr_g, zlt_0, zlt_1, zlt_2, zlt_3, zlt_4, zlt_5, zlt_6, zlt_8, zlt_12, zlt_15, zlt_20, zlt_24, zlt_36, zlt_40, zlt_48, zlt_80, zlt_97, zlt_120, zlt_256, zlt_600, zlt_99999999, zadd_1, zadd_2, zadd_5, zadd_6, zadd_8, zadd_20, zadd_24, zeq_0, zeq_1, zeq_2, zeq_3, zeq_4, zeq_5, zeq_6, zeq_7, zeq_8, zeq_13, zeq_14, zeq_20, zeq_32, zeq_59, zeq_60, zeq_80, zmul_2, zmul_4, zmul_6, zmul_8, zmul_10, zmul_24, zsub_1, zsub_2, zsub_10, zsub_48, zsub_97, zle_0, zle_1, zle_2, zle_6, zle_11, zle_200, zle_600, zle_100000000, ylt_0, ylt_1, ylt_2, ylt_3, ylt_6, ylt_9, ylt_20, ylt_24, ylt_57, ylt_60, ylt_99, ylt_120, ylt_122, ylt_999, ylt_9999, yle_0, yle_2, yle_4, yle_5, yle_6, yle_7, yle_8, yle_10, yle_12, yle_13, yle_15, yle_16, yle_20, yle_24, yle_40, yle_60, yle_64, yle_80, yadd_1, yadd_22, ymul_2, ymul_4, ymul_6, ymul_8, ymul_10, ymul_24, ymul_27, ymul_100, ysub_1, ysub_24, zdiv_2, zdiv_4, zdiv_24, z1, hz', q2, r46, hnn, c3]
          exact ih _ _ ⟨_, hs1.trans (congrArg some (if_neg c2)), rfl, hB2, hP2⟩
  · rintro fu k _ M' ⟨m, hm, rfl, hB', hP⟩
    have z1 := hB'.2.1.2.1
    rw [hm]
    simp (disch := first | omega | rfl | decide) only [e_X7_bound_0, e_X7_bound_11, e_X7_bound_19, e_X7_bound_24, e_X7_bound_32, e_X7_bound_56, e_X7_bound_43, e_X7_bound_40, e_X7_bound_48, e_X7_bound_53, e_X7_bound_64, e_X7_bound_127, e_X7_bound_97, e_X7_bound_125, xr_v, xr_n, hl_of, hl_cl, hl_toInt, hl_le, hl_lt, hl_eq, nI_add, hl_sub, pk_mul, hl_div, if_pos, if_neg, ↓reduceIte, Nat.reduceAdd, Nat.reduceSub, Nat.reduceMul, Nat.add_zero, Nat.zero_add, mp_s, mp_k, mp_i, mp_g, mr_s, mr_i, mr_g, zlt_0, zlt_1, zlt_2, zlt_3, zlt_4, zlt_5, zlt_6, zlt_8, zlt_12, zlt_15, zlt_20, zlt_24, zlt_36, zlt_40, zlt_48, zlt_80, zlt_97, zlt_120, zlt_256, zlt_600, zlt_99999999, zadd_1, zadd_2, zadd_5, zadd_6, zadd_8, zadd_20, zadd_24, zeq_0, zeq_1, zeq_2, zeq_3, zeq_4, zeq_5, zeq_6, zeq_7, zeq_8, zeq_13, zeq_14, zeq_20, zeq_32, zeq_59, zeq_60, zeq_80, zmul_2, zmul_4, zmul_6, zmul_8, zmul_10, zmul_24, zsub_1, zsub_2, zsub_10, zsub_48, zsub_97, zle_0, zle_1, zle_2, zle_6, zle_11, zle_200, zle_600, zle_100000000, ylt_0, ylt_1, ylt_2, ylt_3, ylt_6, ylt_9, ylt_20, ylt_24, ylt_57, ylt_60, ylt_99, ylt_120, ylt_122, ylt_999, ylt_9999, yle_0, yle_2, yle_4, yle_5, yle_6, yle_7, yle_8, yle_10, yle_12, yle_13, yle_15, yle_16, yle_20, yle_24, yle_40, yle_60, yle_64, yle_80, yadd_1, yadd_22, ymul_2, ymul_4, ymul_6, ymul_8, ymul_10, ymul_24, ymul_27, ymul_100, ysub_1, ysub_24, zdiv_2, zdiv_4, zdiv_24, z1]
    exact isI_i hP
end
