/-! Questions: the reference's answers. -/
section
variable (L : Nat) (xs : Nat → Int32) (O : Int64) {T : Vw} {f : Nat → Nat} {As : Nat → Nat → Int32} {n nh ns nw na nd : Nat}
theorem m_hears {D : Nat} (hD : 11 ≤ D) (a h : Nat) (ha : a < na) (hh : h < 24) (M : Mem) (hB : MB M T f As n nh ns nw na nd) : isI (EX L xs (D) q_X7_hears [.inr (.inr (40, 0)), .inl (nI a), .inl (nI h)] M O) O (bitsF (fun k => hearF (perfL T f nd) (As a) n ns h k) nh) (MP M) := by
  obtain ⟨d, rfl⟩ : ∃ d, D = d + 2 := ⟨D - 2, by omega⟩
  refine isI_e (EX_in mi_X7_hears rfl rfl rfl (ls := [some (.inr (.inr (40, 0))), some (.inl (nI a)), some (.inl (nI h)), none, none]) rfl) ?_
  obtain ⟨M1, e1, fr1, hB1, t1⟩ := m_start hB
  have v4 : 8 ≤ n := hB1.1.2.2.2.2.1
  have v5 : n ≤ 40 := hB1.1.2.2.2.2.2.1
  have v6 : nh ≤ 8 := hB1.1.2.2.2.2.2.2.1
  have v7 : ns ≤ 6 := hB1.1.2.2.2.2.2.2.2.1
  have v8 : nw ≤ 8 := hB1.1.2.2.2.2.2.2.2.2.1
  have h6 : na ≤ 6 := hB1.2.2.2.2.2.1
  have z0 := hB1.2.1.1
  have z1 := hB1.2.1.2.1
  have z2 := hB1.2.1.2.2.1
  have z3 := hB1.2.1.2.2.2.1
  have z26 := hB1.2.2.2.2.1
  have b0 := fun w q => x7_bad_0 L xs O (D := d + 1) (by omega) w q M1 t1
  obtain ⟨M2, ql, h2⟩ := x7_laidR L xs O (D := d + 1) (by omega) hB fr1 hB1 t1
  have p1 := x7_isAir_i L xs O (D := d + 1) (by omega) (by omega) a M1 z26 ha
  have p2 := x7_isHour_i L xs O (D := d + 1) (by omega) h M1 hh
  obtain ⟨M3, q3, h3, l3⟩ := x7_loudR L xs O (D := d + 1) (by omega) a ha M2 h2
  simp (disch := first | omega | rfl | decide) only [e_X7_hears_0, e_X7_hears_11, e_X7_hears_19, e_X7_hears_24, e_X7_hears_32, e_X7_hears_48, e_X7_hears_40, e_X7_hears_45, e_X7_hears_54, e_X7_hears_59, e_X7_hears_83, e_X7_hears_94, xr_v, xr_n, hl_of, hl_cl, hl_toInt, hl_le, hl_lt, hl_eq, nI_add, hl_sub, pk_mul, hl_div, if_pos, if_neg, ↓reduceIte, Nat.reduceAdd, Nat.reduceSub, Nat.reduceMul, Nat.add_zero, Nat.zero_add, mp_s, mp_k, mp_i, mp_g, mr_s, mr_i, mr_g, zlt_0, zlt_1, zlt_2, zlt_3, zlt_4, zlt_5, zlt_6, zlt_8, zlt_12, zlt_15, zlt_20, zlt_24, zlt_36, zlt_40, zlt_48, zlt_80, zlt_97, zlt_120, zlt_256, zlt_600, zlt_99999999, zadd_1, zadd_2, zadd_5, zadd_6, zadd_8, zadd_20, zadd_24, zeq_0, zeq_1, zeq_2, zeq_3, zeq_4, zeq_5, zeq_6, zeq_7, zeq_8, zeq_13, zeq_14, zeq_20, zeq_32, zeq_59, zeq_60, zeq_80, zmul_2, zmul_4, zmul_6, zmul_8, zmul_10, zmul_24, zsub_1, zsub_2, zsub_10, zsub_48, zsub_97, zle_0, zle_1, zle_2, zle_6, zle_11, zle_200, zle_600, zle_100000000, ylt_0, ylt_1, ylt_2, ylt_3, ylt_6, ylt_9, ylt_20, ylt_24, ylt_57, ylt_60, ylt_99, ylt_120, ylt_122, ylt_999, ylt_9999, yle_0, yle_2, yle_4, yle_5, yle_6, yle_7, yle_8, yle_10, yle_12, yle_13, yle_15, yle_16, yle_20, yle_24, yle_40, yle_60, yle_64, yle_80, yadd_1, yadd_22, ymul_2, ymul_4, ymul_6, ymul_8, ymul_10, ymul_24, ymul_27, ymul_100, ysub_1, ysub_24, zdiv_2, zdiv_4, zdiv_24, e1, p1, p2, b0, ql, q3]
  refine loopA L xs O (P := fun r => isI r O _ (MP M)) (fun j ls M' => ∃ v, v = bitsF (fun k => hearF (perfL T f nd) (As a) n ns h k) j ∧ ls = [some (.inr (.inr (40, 0))), some (.inl (nI a)), some (.inl (nI h)), some (.inl (v)), some (.inl (nI j))] ∧ MR T f As n nh ns nw na nd M M' ∧ LL M' (perfL T f nd) (As a) n ns) nh 100 (by omega) ?_ ?_ (Nat.le_of_lt (FU (by omega))) ⟨_, rfl, rfl, h3, l3⟩
  · rintro fu k j _ M' hj ⟨_, rfl, rfl, h3, l3⟩ ih
    have k1 := h3.2.1.2.1.2.1
    have q4 := x7_hearsAny L xs O (D := d + 1) (by omega) (As a) j h hj hh M' h3.2.1 l3
    cases c : hearF (perfL T f nd) (As a) n ns h j with
    | false =>
      rw [c, b2i_f] at q4
      simp (disch := first | omega | rfl | decide) only [e_X7_hears_0, e_X7_hears_11, e_X7_hears_19, e_X7_hears_24, e_X7_hears_32, e_X7_hears_48, e_X7_hears_40, e_X7_hears_45, e_X7_hears_54, e_X7_hears_59, e_X7_hears_64, e_X7_hears_83, e_X7_hears_94, xr_v, xr_n, hl_of, hl_cl, hl_toInt, hl_le, hl_lt, hl_eq, nI_add, hl_sub, pk_mul, hl_div, if_pos, if_neg, ↓reduceIte, Nat.reduceAdd, Nat.reduceSub, Nat.reduceMul, Nat.add_zero, Nat.zero_add, mp_s, mp_k, mp_i, mp_g, mr_s, mr_i, mr_g, zlt_0, zlt_1, zlt_2, zlt_3, zlt_4, zlt_5, zlt_6, zlt_8, zlt_12, zlt_15, zlt_20, zlt_24, zlt_36, zlt_40, zlt_48, zlt_80, zlt_97, zlt_120, zlt_256, zlt_600, zlt_99999999, zadd_1, zadd_2, zadd_5, zadd_6, zadd_8, zadd_20, zadd_24, zeq_0, zeq_1, zeq_2, zeq_3, zeq_4, zeq_5, zeq_6, zeq_7, zeq_8, zeq_13, zeq_14, zeq_20, zeq_32, zeq_59, zeq_60, zeq_80, zmul_2, zmul_4, zmul_6, zmul_8, zmul_10, zmul_24, zsub_1, zsub_2, zsub_10, zsub_48, zsub_97, zle_0, zle_1, zle_2, zle_6, zle_11, zle_200, zle_600, zle_100000000, ylt_0, ylt_1, ylt_2, ylt_3, ylt_6, ylt_9, ylt_20, ylt_24, ylt_57, ylt_60, ylt_99, ylt_120, ylt_122, ylt_999, ylt_9999, yle_0, yle_2, yle_4, yle_5, yle_6, yle_7, yle_8, yle_10, yle_12, yle_13, yle_15, yle_16, yle_20, yle_24, yle_40, yle_60, yle_64, yle_80, yadd_1, yadd_22, ymul_2, ymul_4, ymul_6, ymul_8, ymul_10, ymul_24, ymul_27, ymul_100, ysub_1, ysub_24, zdiv_2, zdiv_4, zdiv_24, k1, q4, Int32.or_zero]
      exact ih _ _ ⟨_, bits_f c, rfl, h3, l3⟩
    | true =>
      rw [c, b2i_t] at q4
      simp (disch := first | omega | rfl | decide) only [e_X7_hears_0, e_X7_hears_11, e_X7_hears_19, e_X7_hears_24, e_X7_hears_32, e_X7_hears_48, e_X7_hears_40, e_X7_hears_45, e_X7_hears_54, e_X7_hears_59, e_X7_hears_64, e_X7_hears_83, e_X7_hears_94, xr_v, xr_n, hl_of, hl_cl, hl_toInt, hl_le, hl_lt, hl_eq, nI_add, hl_sub, pk_mul, hl_div, if_pos, if_neg, ↓reduceIte, Nat.reduceAdd, Nat.reduceSub, Nat.reduceMul, Nat.add_zero, Nat.zero_add, mp_s, mp_k, mp_i, mp_g, mr_s, mr_i, mr_g, zlt_0, zlt_1, zlt_2, zlt_3, zlt_4, zlt_5, zlt_6, zlt_8, zlt_12, zlt_15, zlt_20, zlt_24, zlt_36, zlt_40, zlt_48, zlt_80, zlt_97, zlt_120, zlt_256, zlt_600, zlt_99999999, zadd_1, zadd_2, zadd_5, zadd_6, zadd_8, zadd_20, zadd_24, zeq_0, zeq_1, zeq_2, zeq_3, zeq_4, zeq_5, zeq_6, zeq_7, zeq_8, zeq_13, zeq_14, zeq_20, zeq_32, zeq_59, zeq_60, zeq_80, zmul_2, zmul_4, zmul_6, zmul_8, zmul_10, zmul_24, zsub_1, zsub_2, zsub_10, zsub_48, zsub_97, zle_0, zle_1, zle_2, zle_6, zle_11, zle_200, zle_600, zle_100000000, ylt_0, ylt_1, ylt_2, ylt_3, ylt_6, ylt_9, ylt_20, ylt_24, ylt_57, ylt_60, ylt_99, ylt_120, ylt_122, ylt_999, ylt_9999, yle_0, yle_2, yle_4, yle_5, yle_6, yle_7, yle_8, yle_10, yle_12, yle_13, yle_15, yle_16, yle_20, yle_24, yle_40, yle_60, yle_64, yle_80, yadd_1, yadd_22, ymul_2, ymul_4, ymul_6, ymul_8, ymul_10, ymul_24, ymul_27, ymul_100, ysub_1, ysub_24, zdiv_2, zdiv_4, zdiv_24, k1, q4]
      exact ih _ _ ⟨_, bits_t c, rfl, h3, l3⟩
  · rintro fu k _ M' ⟨_, rfl, rfl, h3, l3⟩
    have k1 := h3.2.1.2.1.2.1
    simp (disch := first | omega | rfl | decide) only [e_X7_hears_0, e_X7_hears_11, e_X7_hears_19, e_X7_hears_24, e_X7_hears_32, e_X7_hears_48, e_X7_hears_40, e_X7_hears_45, e_X7_hears_54, e_X7_hears_59, e_X7_hears_64, e_X7_hears_83, e_X7_hears_94, xr_v, xr_n, hl_of, hl_cl, hl_toInt, hl_le, hl_lt, hl_eq, nI_add, hl_sub, pk_mul, hl_div, if_pos, if_neg, ↓reduceIte, Nat.reduceAdd, Nat.reduceSub, Nat.reduceMul, Nat.add_zero, Nat.zero_add, mp_s, mp_k, mp_i, mp_g, mr_s, mr_i, mr_g, zlt_0, zlt_1, zlt_2, zlt_3, zlt_4, zlt_5, zlt_6, zlt_8, zlt_12, zlt_15, zlt_20, zlt_24, zlt_36, zlt_40, zlt_48, zlt_80, zlt_97, zlt_120, zlt_256, zlt_600, zlt_99999999, zadd_1, zadd_2, zadd_5, zadd_6, zadd_8, zadd_20, zadd_24, zeq_0, zeq_1, zeq_2, zeq_3, zeq_4, zeq_5, zeq_6, zeq_7, zeq_8, zeq_13, zeq_14, zeq_20, zeq_32, zeq_59, zeq_60, zeq_80, zmul_2, zmul_4, zmul_6, zmul_8, zmul_10, zmul_24, zsub_1, zsub_2, zsub_10, zsub_48, zsub_97, zle_0, zle_1, zle_2, zle_6, zle_11, zle_200, zle_600, zle_100000000, ylt_0, ylt_1, ylt_2, ylt_3, ylt_6, ylt_9, ylt_20, ylt_24, ylt_57, ylt_60, ylt_99, ylt_120, ylt_122, ylt_999, ylt_9999, yle_0, yle_2, yle_4, yle_5, yle_6, yle_7, yle_8, yle_10, yle_12, yle_13, yle_15, yle_16, yle_20, yle_24, yle_40, yle_60, yle_64, yle_80, yadd_1, yadd_22, ymul_2, ymul_4, ymul_6, ymul_8, ymul_10, ymul_24, ymul_27, ymul_100, ysub_1, ysub_24, zdiv_2, zdiv_4, zdiv_24, k1]
    exact isI_i (MR_P h3)
theorem m_loud {D : Nat} (hD : 11 ≤ D) (x a s : Nat) (hx : x < n) (ha : a < na) (hs : s < ns) (M : Mem) (hB : MB M T f As n nh ns nw na nd) : isI (EX L xs (D) q_X7_loud [.inr (.inr (40, 0)), .inl (nI x), .inl (nI a), .inl (nI s)] M O) O (srcF (perfL T f nd) (As a) n s x) (MP M) := by
  obtain ⟨d, rfl⟩ : ∃ d, D = d + 2 := ⟨D - 2, by omega⟩
  refine isI_e (EX_in mi_X7_loud rfl rfl rfl (ls := [some (.inr (.inr (40, 0))), some (.inl (nI x)), some (.inl (nI a)), some (.inl (nI s))]) rfl) ?_
  obtain ⟨M1, e1, fr1, hB1, t1⟩ := m_start hB
  have v4 : 8 ≤ n := hB1.1.2.2.2.2.1
  have v5 : n ≤ 40 := hB1.1.2.2.2.2.2.1
  have v6 : nh ≤ 8 := hB1.1.2.2.2.2.2.2.1
  have v7 : ns ≤ 6 := hB1.1.2.2.2.2.2.2.2.1
  have v8 : nw ≤ 8 := hB1.1.2.2.2.2.2.2.2.2.1
  have h6 : na ≤ 6 := hB1.2.2.2.2.2.1
  have z0 := hB1.2.1.1
  have z1 := hB1.2.1.2.1
  have z2 := hB1.2.1.2.2.1
  have z3 := hB1.2.1.2.2.2.1
  have z26 := hB1.2.2.2.2.1
  have b0 := fun w q => x7_bad_0 L xs O (D := d + 1) (by omega) w q M1 t1
  obtain ⟨M2, ql, h2⟩ := x7_laidR L xs O (D := d + 1) (by omega) hB fr1 hB1 t1
  have p1 := x7_isCell_i L xs O (D := d + 1) (by omega) (by omega) x M1 z0 hx
  have p2 := x7_isAir_i L xs O (D := d + 1) (by omega) (by omega) a M1 z26 ha
  have p3 := x7_isSource_i L xs O (D := d + 1) (by omega) (by omega) s M1 z2 hs
  obtain ⟨M3, q3, h3, -, l3⟩ := x7_ofR L xs O (D := d + 1) (by omega) a s ha hs M2 h2
  have g79 := l3 x hx
  simp (disch := first | omega | rfl | decide) only [e_X7_loud_0, e_X7_loud_11, e_X7_loud_19, e_X7_loud_24, e_X7_loud_33, e_X7_loud_57, e_X7_loud_44, e_X7_loud_41, e_X7_loud_49, e_X7_loud_54, e_X7_loud_63, e_X7_loud_69, xr_v, xr_n, hl_of, hl_cl, hl_toInt, hl_le, hl_lt, hl_eq, nI_add, hl_sub, pk_mul, hl_div, if_pos, if_neg, ↓reduceIte, Nat.reduceAdd, Nat.reduceSub, Nat.reduceMul, Nat.add_zero, Nat.zero_add, mp_s, mp_k, mp_i, mp_g, mr_s, mr_i, mr_g, zlt_0, zlt_1, zlt_2, zlt_3, zlt_4, zlt_5, zlt_6, zlt_8, zlt_12, zlt_15, zlt_20, zlt_24, zlt_36, zlt_40, zlt_48, zlt_80, zlt_97, zlt_120, zlt_256, zlt_600, zlt_99999999, zadd_1, zadd_2, zadd_5, zadd_6, zadd_8, zadd_20, zadd_24, zeq_0, zeq_1, zeq_2, zeq_3, zeq_4, zeq_5, zeq_6, zeq_7, zeq_8, zeq_13, zeq_14, zeq_20, zeq_32, zeq_59, zeq_60, zeq_80, zmul_2, zmul_4, zmul_6, zmul_8, zmul_10, zmul_24, zsub_1, zsub_2, zsub_10, zsub_48, zsub_97, zle_0, zle_1, zle_2, zle_6, zle_11, zle_200, zle_600, zle_100000000, ylt_0, ylt_1, ylt_2, ylt_3, ylt_6, ylt_9, ylt_20, ylt_24, ylt_57, ylt_60, ylt_99, ylt_120, ylt_122, ylt_999, ylt_9999, yle_0, yle_2, yle_4, yle_5, yle_6, yle_7, yle_8, yle_10, yle_12, yle_13, yle_15, yle_16, yle_20, yle_24, yle_40, yle_60, yle_64, yle_80, yadd_1, yadd_22, ymul_2, ymul_4, ymul_6, ymul_8, ymul_10, ymul_24, ymul_27, ymul_100, ysub_1, ysub_24, zdiv_2, zdiv_4, zdiv_24, e1, p1, p2, p3, b0, ql, q3, g79]
  exact isI_i (MR_P h3)
theorem m_at {D : Nat} (hD : 11 ≤ D) (x a h : Nat) (hx : x < n) (ha : a < na) (hh : h < 24) (M : Mem) (hB : MB M T f As n nh ns nw na nd) : isI (EX L xs (D) q_X7_at [.inr (.inr (40, 0)), .inl (nI x), .inl (nI a), .inl (nI h)] M O) O (mostF (perfL T f nd) (As a) n h x ns) (MP M) := by
  obtain ⟨d, rfl⟩ : ∃ d, D = d + 2 := ⟨D - 2, by omega⟩
  refine isI_e (EX_in mi_X7_at rfl rfl rfl (ls := [some (.inr (.inr (40, 0))), some (.inl (nI x)), some (.inl (nI a)), some (.inl (nI h))]) rfl) ?_
  obtain ⟨M1, e1, fr1, hB1, t1⟩ := m_start hB
  have v4 : 8 ≤ n := hB1.1.2.2.2.2.1
  have v5 : n ≤ 40 := hB1.1.2.2.2.2.2.1
  have v6 : nh ≤ 8 := hB1.1.2.2.2.2.2.2.1
  have v7 : ns ≤ 6 := hB1.1.2.2.2.2.2.2.2.1
  have v8 : nw ≤ 8 := hB1.1.2.2.2.2.2.2.2.2.1
  have h6 : na ≤ 6 := hB1.2.2.2.2.2.1
  have z0 := hB1.2.1.1
  have z1 := hB1.2.1.2.1
  have z2 := hB1.2.1.2.2.1
  have z3 := hB1.2.1.2.2.2.1
  have z26 := hB1.2.2.2.2.1
  have b0 := fun w q => x7_bad_0 L xs O (D := d + 1) (by omega) w q M1 t1
  obtain ⟨M2, ql, h2⟩ := x7_laidR L xs O (D := d + 1) (by omega) hB fr1 hB1 t1
  have p1 := x7_isCell_i L xs O (D := d + 1) (by omega) (by omega) x M1 z0 hx
  have p2 := x7_isAir_i L xs O (D := d + 1) (by omega) (by omega) a M1 z26 ha
  have p3 := x7_isHour_i L xs O (D := d + 1) (by omega) h M1 hh
  obtain ⟨M3, q3, h3, l3⟩ := x7_loudR L xs O (D := d + 1) (by omega) a ha M2 h2
  have q4 := x7_most L xs O (D := d + 1) (by omega) (As a) v7 v5 x h hx M3 h3.2.1.2.1 l3
  simp (disch := first | omega | rfl | decide) only [e_X7_at_0, e_X7_at_11, e_X7_at_19, e_X7_at_24, e_X7_at_33, e_X7_at_70, e_X7_at_41, e_X7_at_46, e_X7_at_54, e_X7_at_62, e_X7_at_67, e_X7_at_76, e_X7_at_81, e_X7_at_87, xr_v, xr_n, hl_of, hl_cl, hl_toInt, hl_le, hl_lt, hl_eq, nI_add, hl_sub, pk_mul, hl_div, if_pos, if_neg, ↓reduceIte, Nat.reduceAdd, Nat.reduceSub, Nat.reduceMul, Nat.add_zero, Nat.zero_add, mp_s, mp_k, mp_i, mp_g, mr_s, mr_i, mr_g, zlt_0, zlt_1, zlt_2, zlt_3, zlt_4, zlt_5, zlt_6, zlt_8, zlt_12, zlt_15, zlt_20, zlt_24, zlt_36, zlt_40, zlt_48, zlt_80, zlt_97, zlt_120, zlt_256, zlt_600, zlt_99999999, zadd_1, zadd_2, zadd_5, zadd_6, zadd_8, zadd_20, zadd_24, zeq_0, zeq_1, zeq_2, zeq_3, zeq_4, zeq_5, zeq_6, zeq_7, zeq_8, zeq_13, zeq_14, zeq_20, zeq_32, zeq_59, zeq_60, zeq_80, zmul_2, zmul_4, zmul_6, zmul_8, zmul_10, zmul_24, zsub_1, zsub_2, zsub_10, zsub_48, zsub_97, zle_0, zle_1, zle_2, zle_6, zle_11, zle_200, zle_600, zle_100000000, ylt_0, ylt_1, ylt_2, ylt_3, ylt_6, ylt_9, ylt_20, ylt_24, ylt_57, ylt_60, ylt_99, ylt_120, ylt_122, ylt_999, ylt_9999, yle_0, yle_2, yle_4, yle_5, yle_6, yle_7, yle_8, yle_10, yle_12, yle_13, yle_15, yle_16, yle_20, yle_24, yle_40, yle_60, yle_64, yle_80, yadd_1, yadd_22, ymul_2, ymul_4, ymul_6, ymul_8, ymul_10, ymul_24, ymul_27, ymul_100, ysub_1, ysub_24, zdiv_2, zdiv_4, zdiv_24, e1, p1, p2, p3, b0, ql, q3, q4]
  exact isI_i (MR_P h3)
theorem m_nights {D : Nat} (hD : 11 ≤ D) (k0 h w : Nat) (hk : k0 < nh) (hh : h < 24) (hw : w < 2) (M : Mem) (hB : MB M T f As n nh ns nw na nd) : isI (EX L xs (D) q_X7_nights [.inr (.inr (40, 0)), .inl (nI k0), .inl (nI h), .inl (nI w)] M O) O (sumF (fun a => As a 13) (fun a => decide (w = 1) || hearF (perfL T f nd) (As a) n ns h k0) na) (MP M) := by
  obtain ⟨d, rfl⟩ : ∃ d, D = d + 2 := ⟨D - 2, by omega⟩
  refine isI_e (EX_in mi_X7_nights rfl rfl rfl (ls := [some (.inr (.inr (40, 0))), some (.inl (nI k0)), some (.inl (nI h)), some (.inl (nI w)), none, none]) rfl) ?_
  obtain ⟨M1, e1, fr1, hB1, t1⟩ := m_start hB
  have v4 : 8 ≤ n := hB1.1.2.2.2.2.1
  have v5 : n ≤ 40 := hB1.1.2.2.2.2.2.1
  have v6 : nh ≤ 8 := hB1.1.2.2.2.2.2.2.1
  have v7 : ns ≤ 6 := hB1.1.2.2.2.2.2.2.2.1
  have v8 : nw ≤ 8 := hB1.1.2.2.2.2.2.2.2.2.1
  have h6 : na ≤ 6 := hB1.2.2.2.2.2.1
  have z0 := hB1.2.1.1
  have z1 := hB1.2.1.2.1
  have z2 := hB1.2.1.2.2.1
  have z3 := hB1.2.1.2.2.2.1
  have z26 := hB1.2.2.2.2.1
  have b0 := fun w q => x7_bad_0 L xs O (D := d + 1) (by omega) w q M1 t1
  obtain ⟨M2, ql, h2⟩ := x7_laidR L xs O (D := d + 1) (by omega) hB fr1 hB1 t1
  have p1 := x7_isHouse_i L xs O (D := d + 1) (by omega) (by omega) k0 M1 z1 hk
  have p2 := x7_isHour_i L xs O (D := d + 1) (by omega) h M1 hh
  have p3 := x7_i2_in L xs O (D := d + 1) (by omega) w M1 hw
  simp (disch := first | omega | rfl | decide) only [e_X7_nights_0, e_X7_nights_11, e_X7_nights_19, e_X7_nights_24, e_X7_nights_32, e_X7_nights_57, e_X7_nights_44, e_X7_nights_41, e_X7_nights_49, e_X7_nights_54, e_X7_nights_63, e_X7_nights_84, e_X7_nights_100, e_X7_nights_97, e_X7_nights_114, xr_v, xr_n, hl_of, hl_cl, hl_toInt, hl_le, hl_lt, hl_eq, nI_add, hl_sub, pk_mul, hl_div, if_pos, if_neg, ↓reduceIte, Nat.reduceAdd, Nat.reduceSub, Nat.reduceMul, Nat.add_zero, Nat.zero_add, mp_s, mp_k, mp_i, mp_g, mr_s, mr_i, mr_g, zlt_0, zlt_1, zlt_2, zlt_3, zlt_4, zlt_5, zlt_6, zlt_8, zlt_12, zlt_15, zlt_20, zlt_24, zlt_36, zlt_40, zlt_48, zlt_80, zlt_97, zlt_120, zlt_256, zlt_600, zlt_99999999, zadd_1, zadd_2, zadd_5, zadd_6, zadd_8, zadd_20, zadd_24, zeq_0, zeq_1, zeq_2, zeq_3, zeq_4, zeq_5, zeq_6, zeq_7, zeq_8, zeq_13, zeq_14, zeq_20, zeq_32, zeq_59, zeq_60, zeq_80, zmul_2, zmul_4, zmul_6, zmul_8, zmul_10, zmul_24, zsub_1, zsub_2, zsub_10, zsub_48, zsub_97, zle_0, zle_1, zle_2, zle_6, zle_11, zle_200, zle_600, zle_100000000, ylt_0, ylt_1, ylt_2, ylt_3, ylt_6, ylt_9, ylt_20, ylt_24, ylt_57, ylt_60, ylt_99, ylt_120, ylt_122, ylt_999, ylt_9999, yle_0, yle_2, yle_4, yle_5, yle_6, yle_7, yle_8, yle_10, yle_12, yle_13, yle_15, yle_16, yle_20, yle_24, yle_40, yle_60, yle_64, yle_80, yadd_1, yadd_22, ymul_2, ymul_4, ymul_6, ymul_8, ymul_10, ymul_24, ymul_27, ymul_100, ysub_1, ysub_24, zdiv_2, zdiv_4, zdiv_24, e1, p1, p2, p3, b0, ql]
  refine loopA L xs O (P := fun r => isI r O _ (MP M)) (fun j ls M' => ∃ v, v = sumF (fun a => As a 13) (fun a => decide (w = 1) || hearF (perfL T f nd) (As a) n ns h k0) j ∧ ls = [some (.inr (.inr (40, 0))), some (.inl (nI k0)), some (.inl (nI h)), some (.inl (nI w)), some (.inl (v)), some (.inl (nI j))] ∧ MR T f As n nh ns nw na nd M M') na 100 (by omega) ?_ ?_ (Nat.le_of_lt (FU (by omega))) ⟨_, rfl, rfl, h2⟩
  · rintro fu k j _ M' hj ⟨_, rfl, rfl, h3⟩ ih
    have k26 := h3.2.1.2.2.2.1
    obtain ⟨M3, q3, h4, l3⟩ := x7_loudR L xs O (D := d + 1) (by omega) j hj M' h3
    have q4 := x7_hearsAny L xs O (D := d + 1) (by omega) (As j) k0 h hk hh M3 h4.2.1 l3
    have g67 := h4.2.1.2.2.2.2.2 j hj 13 (by omega)
    by_cases cw : w = 1
    · simp (disch := first | omega | rfl | decide) only [e_X7_nights_0, e_X7_nights_11, e_X7_nights_19, e_X7_nights_24, e_X7_nights_32, e_X7_nights_57, e_X7_nights_44, e_X7_nights_41, e_X7_nights_49, e_X7_nights_54, e_X7_nights_63, e_X7_nights_69, e_X7_nights_84, e_X7_nights_100, e_X7_nights_97, e_X7_nights_114, xr_v, xr_n, hl_of, hl_cl, hl_toInt, hl_le, hl_lt, hl_eq, nI_add, hl_sub, pk_mul, hl_div, if_pos, if_neg, ↓reduceIte, Nat.reduceAdd, Nat.reduceSub, Nat.reduceMul, Nat.add_zero, Nat.zero_add, mp_s, mp_k, mp_i, mp_g, mr_s, mr_i, mr_g, zlt_0, zlt_1, zlt_2, zlt_3, zlt_4, zlt_5, zlt_6, zlt_8, zlt_12, zlt_15, zlt_20, zlt_24, zlt_36, zlt_40, zlt_48, zlt_80, zlt_97, zlt_120, zlt_256, zlt_600, zlt_99999999, zadd_1, zadd_2, zadd_5, zadd_6, zadd_8, zadd_20, zadd_24, zeq_0, zeq_1, zeq_2, zeq_3, zeq_4, zeq_5, zeq_6, zeq_7, zeq_8, zeq_13, zeq_14, zeq_20, zeq_32, zeq_59, zeq_60, zeq_80, zmul_2, zmul_4, zmul_6, zmul_8, zmul_10, zmul_24, zsub_1, zsub_2, zsub_10, zsub_48, zsub_97, zle_0, zle_1, zle_2, zle_6, zle_11, zle_200, zle_600, zle_100000000, ylt_0, ylt_1, ylt_2, ylt_3, ylt_6, ylt_9, ylt_20, ylt_24, ylt_57, ylt_60, ylt_99, ylt_120, ylt_122, ylt_999, ylt_9999, yle_0, yle_2, yle_4, yle_5, yle_6, yle_7, yle_8, yle_10, yle_12, yle_13, yle_15, yle_16, yle_20, yle_24, yle_40, yle_60, yle_64, yle_80, yadd_1, yadd_22, ymul_2, ymul_4, ymul_6, ymul_8, ymul_10, ymul_24, ymul_27, ymul_100, ysub_1, ysub_24, zdiv_2, zdiv_4, zdiv_24, k26, q3, g67]
      exact ih _ _ ⟨_, sum_t (by simp [cw]), rfl, h4⟩
    · cases c : hearF (perfL T f nd) (As j) n ns h k0 with
      | false =>
        rw [c, b2i_f] at q4
        simp (disch := first | omega | rfl | decide) only [e_X7_nights_0, e_X7_nights_11, e_X7_nights_19, e_X7_nights_24, e_X7_nights_32, e_X7_nights_57, e_X7_nights_44, e_X7_nights_41, e_X7_nights_49, e_X7_nights_54, e_X7_nights_63, e_X7_nights_69, e_X7_nights_84, e_X7_nights_100, e_X7_nights_97, e_X7_nights_114, xr_v, xr_n, hl_of, hl_cl, hl_toInt, hl_le, hl_lt, hl_eq, nI_add, hl_sub, pk_mul, hl_div, if_pos, if_neg, ↓reduceIte, Nat.reduceAdd, Nat.reduceSub, Nat.reduceMul, Nat.add_zero, Nat.zero_add, mp_s, mp_k, mp_i, mp_g, mr_s, mr_i, mr_g, zlt_0, zlt_1, zlt_2, zlt_3, zlt_4, zlt_5, zlt_6, zlt_8, zlt_12, zlt_15, zlt_20, zlt_24, zlt_36, zlt_40, zlt_48, zlt_80, zlt_97, zlt_120, zlt_256, zlt_600, zlt_99999999, zadd_1, zadd_2, zadd_5, zadd_6, zadd_8, zadd_20, zadd_24, zeq_0, zeq_1, zeq_2, zeq_3, zeq_4, zeq_5, zeq_6, zeq_7, zeq_8, zeq_13, zeq_14, zeq_20, zeq_32, zeq_59, zeq_60, zeq_80, zmul_2, zmul_4, zmul_6, zmul_8, zmul_10, zmul_24, zsub_1, zsub_2, zsub_10, zsub_48, zsub_97, zle_0, zle_1, zle_2, zle_6, zle_11, zle_200, zle_600, zle_100000000, ylt_0, ylt_1, ylt_2, ylt_3, ylt_6, ylt_9, ylt_20, ylt_24, ylt_57, ylt_60, ylt_99, ylt_120, ylt_122, ylt_999, ylt_9999, yle_0, yle_2, yle_4, yle_5, yle_6, yle_7, yle_8, yle_10, yle_12, yle_13, yle_15, yle_16, yle_20, yle_24, yle_40, yle_60, yle_64, yle_80, yadd_1, yadd_22, ymul_2, ymul_4, ymul_6, ymul_8, ymul_10, ymul_24, ymul_27, ymul_100, ysub_1, ysub_24, zdiv_2, zdiv_4, zdiv_24, k26, q3, q4, Int32.add_zero]
        exact ih _ _ ⟨_, sum_f (by simp [cw, c]), rfl, h4⟩
      | true =>
        rw [c, b2i_t] at q4
        simp (disch := first | omega | rfl | decide) only [e_X7_nights_0, e_X7_nights_11, e_X7_nights_19, e_X7_nights_24, e_X7_nights_32, e_X7_nights_57, e_X7_nights_44, e_X7_nights_41, e_X7_nights_49, e_X7_nights_54, e_X7_nights_63, e_X7_nights_69, e_X7_nights_84, e_X7_nights_100, e_X7_nights_97, e_X7_nights_114, xr_v, xr_n, hl_of, hl_cl, hl_toInt, hl_le, hl_lt, hl_eq, nI_add, hl_sub, pk_mul, hl_div, if_pos, if_neg, ↓reduceIte, Nat.reduceAdd, Nat.reduceSub, Nat.reduceMul, Nat.add_zero, Nat.zero_add, mp_s, mp_k, mp_i, mp_g, mr_s, mr_i, mr_g, zlt_0, zlt_1, zlt_2, zlt_3, zlt_4, zlt_5, zlt_6, zlt_8, zlt_12, zlt_15, zlt_20, zlt_24, zlt_36, zlt_40, zlt_48, zlt_80, zlt_97, zlt_120, zlt_256, zlt_600, zlt_99999999, zadd_1, zadd_2, zadd_5, zadd_6, zadd_8, zadd_20, zadd_24, zeq_0, zeq_1, zeq_2, zeq_3, zeq_4, zeq_5, zeq_6, zeq_7, zeq_8, zeq_13, zeq_14, zeq_20, zeq_32, zeq_59, zeq_60, zeq_80, zmul_2, zmul_4, zmul_6, zmul_8, zmul_10, zmul_24, zsub_1, zsub_2, zsub_10, zsub_48, zsub_97, zle_0, zle_1, zle_2, zle_6, zle_11, zle_200, zle_600, zle_100000000, ylt_0, ylt_1, ylt_2, ylt_3, ylt_6, ylt_9, ylt_20, ylt_24, ylt_57, ylt_60, ylt_99, ylt_120, ylt_122, ylt_999, ylt_9999, yle_0, yle_2, yle_4, yle_5, yle_6, yle_7, yle_8, yle_10, yle_12, yle_13, yle_15, yle_16, yle_20, yle_24, yle_40, yle_60, yle_64, yle_80, yadd_1, yadd_22, ymul_2, ymul_4, ymul_6, ymul_8, ymul_10, ymul_24, ymul_27, ymul_100, ysub_1, ysub_24, zdiv_2, zdiv_4, zdiv_24, k26, q3, q4, g67]
        exact ih _ _ ⟨_, sum_t (by simp [c]), rfl, h4⟩
  · rintro fu k _ M' ⟨_, rfl, rfl, h3⟩
    have k26 := h3.2.1.2.2.2.1
    simp (disch := first | omega | rfl | decide) only [e_X7_nights_0, e_X7_nights_11, e_X7_nights_19, e_X7_nights_24, e_X7_nights_32, e_X7_nights_57, e_X7_nights_44, e_X7_nights_41, e_X7_nights_49, e_X7_nights_54, e_X7_nights_63, e_X7_nights_69, e_X7_nights_84, e_X7_nights_100, e_X7_nights_97, e_X7_nights_114, xr_v, xr_n, hl_of, hl_cl, hl_toInt, hl_le, hl_lt, hl_eq, nI_add, hl_sub, pk_mul, hl_div, if_pos, if_neg, ↓reduceIte, Nat.reduceAdd, Nat.reduceSub, Nat.reduceMul, Nat.add_zero, Nat.zero_add, mp_s, mp_k, mp_i, mp_g, mr_s, mr_i, mr_g, zlt_0, zlt_1, zlt_2, zlt_3, zlt_4, zlt_5, zlt_6, zlt_8, zlt_12, zlt_15, zlt_20, zlt_24, zlt_36, zlt_40, zlt_48, zlt_80, zlt_97, zlt_120, zlt_256, zlt_600, zlt_99999999, zadd_1, zadd_2, zadd_5, zadd_6, zadd_8, zadd_20, zadd_24, zeq_0, zeq_1, zeq_2, zeq_3, zeq_4, zeq_5, zeq_6, zeq_7, zeq_8, zeq_13, zeq_14, zeq_20, zeq_32, zeq_59, zeq_60, zeq_80, zmul_2, zmul_4, zmul_6, zmul_8, zmul_10, zmul_24, zsub_1, zsub_2, zsub_10, zsub_48, zsub_97, zle_0, zle_1, zle_2, zle_6, zle_11, zle_200, zle_600, zle_100000000, ylt_0, ylt_1, ylt_2, ylt_3, ylt_6, ylt_9, ylt_20, ylt_24, ylt_57, ylt_60, ylt_99, ylt_120, ylt_122, ylt_999, ylt_9999, yle_0, yle_2, yle_4, yle_5, yle_6, yle_7, yle_8, yle_10, yle_12, yle_13, yle_15, yle_16, yle_20, yle_24, yle_40, yle_60, yle_64, yle_80, yadd_1, yadd_22, ymul_2, ymul_4, ymul_6, ymul_8, ymul_10, ymul_24, ymul_27, ymul_100, ysub_1, ysub_24, zdiv_2, zdiv_4, zdiv_24, k26]
    exact isI_i (MR_P h3)
theorem x7_wakesOf {D : Nat} (hD : 10 ≤ D) (k0 a : Nat) (hk : k0 < nh) (ha : a < na) {M : Mem} (M1 : Mem) (h1 : MR T f As n nh ns nw na nd M M1) : isI (EX L xs (D) q_X7_wakesOf [.inr (.inr (40, 0)), .inl (nI k0), .inl (nI a)] M1 O) O (nI (cntF (wakeB (perfL T f nd) (As a) n ns k0) 8)) (MR T f As n nh ns nw na nd M) := by
  have hV := h1.2.1.1
  have v5 : n ≤ 40 := hV.2.2.2.2.2.1
  have v6 : nh ≤ 8 := hV.2.2.2.2.2.2.1
  have v7 : ns ≤ 6 := hV.2.2.2.2.2.2.2.1
  have vc := hV.2.2.2.2.2.2.2.2.2.2.2.2.1 k0 hk
  obtain ⟨d, rfl⟩ : ∃ d, D = d + 2 := ⟨D - 2, by omega⟩
  refine isI_e (EX_in mi_X7_wakesOf rfl rfl rfl (ls := [some (.inr (.inr (40, 0))), some (.inl (nI k0)), some (.inl (nI a)), none, none, none]) rfl) ?_
  obtain ⟨M2, q2, h2, l2⟩ := x7_loudR L xs O (D := d + 1) (by omega) a ha M1 h1
  simp (disch := first | omega | rfl | decide) only [e_X7_wakesOf_0, e_X7_wakesOf_5, e_X7_wakesOf_42, e_X7_wakesOf_54, e_X7_wakesOf_65, xr_v, xr_n, hl_of, hl_cl, hl_toInt, hl_le, hl_lt, hl_eq, nI_add, hl_sub, pk_mul, hl_div, if_pos, if_neg, ↓reduceIte, Nat.reduceAdd, Nat.reduceSub, Nat.reduceMul, Nat.add_zero, Nat.zero_add, mp_s, mp_k, mp_i, mp_g, mr_s, mr_i, mr_g, zlt_0, zlt_1, zlt_2, zlt_3, zlt_4, zlt_5, zlt_6, zlt_8, zlt_12, zlt_15, zlt_20, zlt_24, zlt_36, zlt_40, zlt_48, zlt_80, zlt_97, zlt_120, zlt_256, zlt_600, zlt_99999999, zadd_1, zadd_2, zadd_5, zadd_6, zadd_8, zadd_20, zadd_24, zeq_0, zeq_1, zeq_2, zeq_3, zeq_4, zeq_5, zeq_6, zeq_7, zeq_8, zeq_13, zeq_14, zeq_20, zeq_32, zeq_59, zeq_60, zeq_80, zmul_2, zmul_4, zmul_6, zmul_8, zmul_10, zmul_24, zsub_1, zsub_2, zsub_10, zsub_48, zsub_97, zle_0, zle_1, zle_2, zle_6, zle_11, zle_200, zle_600, zle_100000000, ylt_0, ylt_1, ylt_2, ylt_3, ylt_6, ylt_9, ylt_20, ylt_24, ylt_57, ylt_60, ylt_99, ylt_120, ylt_122, ylt_999, ylt_9999, yle_0, yle_2, yle_4, yle_5, yle_6, yle_7, yle_8, yle_10, yle_12, yle_13, yle_15, yle_16, yle_20, yle_24, yle_40, yle_60, yle_64, yle_80, yadd_1, yadd_22, ymul_2, ymul_4, ymul_6, ymul_8, ymul_10, ymul_24, ymul_27, ymul_100, ysub_1, ysub_24, zdiv_2, zdiv_4, zdiv_24, q2]
  refine loopA L xs O (P := fun r => isI r O _ (MR T f As n nh ns nw na nd M)) (fun j ls M' => ∃ v u5, v = nI (cntF (wakeB (perfL T f nd) (As a) n ns k0) j) ∧ ls = [some (.inr (.inr (40, 0))), some (.inl (nI k0)), some (.inl (nI a)), some (.inl (v)), some (.inl (nI j)), u5] ∧ MR T f As n nh ns nw na nd M M' ∧ LL M' (perfL T f nd) (As a) n ns) 8 100 (by omega) ?_ ?_ (Nat.le_of_lt (FU (by omega))) ⟨_, _, rfl, rfl, h2, l2⟩
  · rintro fu k j _ M' hj ⟨_, u5, rfl, rfl, h3, l3⟩ ih
    have g56 := (h3.2.1.2.1.2.2.2.2.2.1 k0 hk).trans vc.1
    have g75 := h3.2.1.2.2.1.2.1 k0 hk
    have e : 22 + j - (22 + j) / 24 * 24 = hourN j := by unfold hourN; omega
    have hh : hourN j < 24 := Nat.mod_lt _ (by omega)
    have q1 := x7_humOf L xs O (D := d + 1) (by omega) (hourN j) hh M'
    rw [humF_congr h3.2.1.2.1.2.2.2.2.2.2.1] at q1
    have q4 := x7_most L xs O (D := d + 1) (by omega) (As a) v7 v5 (vN (perfL T f nd) 7 k0) (hourN j) vc.2 M' h3.2.1.2.1 l3
    by_cases c : mostF (perfL T f nd) (As a) n (hourN j) (vN (perfL T f nd) 7 k0) ns < (perfL T f nd) 8 k0 + humF ((perfL T f nd) 9) (hourN j) 24 + 5
    · simp (disch := first | omega | rfl | decide) only [e_X7_wakesOf_0, e_X7_wakesOf_5, e_X7_wakesOf_10, e_X7_wakesOf_42, e_X7_wakesOf_54, e_X7_wakesOf_65, xr_v, xr_n, hl_of, hl_cl, hl_toInt, hl_le, hl_lt, hl_eq, nI_add, hl_sub, pk_mul, hl_div, if_pos, if_neg, ↓reduceIte, Nat.reduceAdd, Nat.reduceSub, Nat.reduceMul, Nat.add_zero, Nat.zero_add, mp_s, mp_k, mp_i, mp_g, mr_s, mr_i, mr_g, zlt_0, zlt_1, zlt_2, zlt_3, zlt_4, zlt_5, zlt_6, zlt_8, zlt_12, zlt_15, zlt_20, zlt_24, zlt_36, zlt_40, zlt_48, zlt_80, zlt_97, zlt_120, zlt_256, zlt_600, zlt_99999999, zadd_1, zadd_2, zadd_5, zadd_6, zadd_8, zadd_20, zadd_24, zeq_0, zeq_1, zeq_2, zeq_3, zeq_4, zeq_5, zeq_6, zeq_7, zeq_8, zeq_13, zeq_14, zeq_20, zeq_32, zeq_59, zeq_60, zeq_80, zmul_2, zmul_4, zmul_6, zmul_8, zmul_10, zmul_24, zsub_1, zsub_2, zsub_10, zsub_48, zsub_97, zle_0, zle_1, zle_2, zle_6, zle_11, zle_200, zle_600, zle_100000000, ylt_0, ylt_1, ylt_2, ylt_3, ylt_6, ylt_9, ylt_20, ylt_24, ylt_57, ylt_60, ylt_99, ylt_120, ylt_122, ylt_999, ylt_9999, yle_0, yle_2, yle_4, yle_5, yle_6, yle_7, yle_8, yle_10, yle_12, yle_13, yle_15, yle_16, yle_20, yle_24, yle_40, yle_60, yle_64, yle_80, yadd_1, yadd_22, ymul_2, ymul_4, ymul_6, ymul_8, ymul_10, ymul_24, ymul_27, ymul_100, ysub_1, ysub_24, zdiv_2, zdiv_4, zdiv_24, e, g56, g75, q1, q4, c, Int32.add_zero]
      exact ih _ _ ⟨_, _, cnt_fi (decide_eq_false (fun e => e c)), rfl, h3, l3⟩
    · simp (disch := first | omega | rfl | decide) only [e_X7_wakesOf_0, e_X7_wakesOf_5, e_X7_wakesOf_10, e_X7_wakesOf_42, e_X7_wakesOf_54, e_X7_wakesOf_65, xr_v, xr_n, hl_of, hl_cl, hl_toInt, hl_le, hl_lt, hl_eq, nI_add, hl_sub, pk_mul, hl_div, if_pos, if_neg, ↓reduceIte, Nat.reduceAdd, Nat.reduceSub, Nat.reduceMul, Nat.add_zero, Nat.zero_add, mp_s, mp_k, mp_i, mp_g, mr_s, mr_i, mr_g, zlt_0, zlt_1, zlt_2, zlt_3, zlt_4, zlt_5, zlt_6, zlt_8, zlt_12, zlt_15, zlt_20, zlt_24, zlt_36, zlt_40, zlt_48, zlt_80, zlt_97, zlt_120, zlt_256, zlt_600, zlt_99999999, zadd_1, zadd_2, zadd_5, zadd_6, zadd_8, zadd_20, zadd_24, zeq_0, zeq_1, zeq_2, zeq_3, zeq_4, zeq_5, zeq_6, zeq_7, zeq_8, zeq_13, zeq_14, zeq_20, zeq_32, zeq_59, zeq_60, zeq_80, zmul_2, zmul_4, zmul_6, zmul_8, zmul_10, zmul_24, zsub_1, zsub_2, zsub_10, zsub_48, zsub_97, zle_0, zle_1, zle_2, zle_6, zle_11, zle_200, zle_600, zle_100000000, ylt_0, ylt_1, ylt_2, ylt_3, ylt_6, ylt_9, ylt_20, ylt_24, ylt_57, ylt_60, ylt_99, ylt_120, ylt_122, ylt_999, ylt_9999, yle_0, yle_2, yle_4, yle_5, yle_6, yle_7, yle_8, yle_10, yle_12, yle_13, yle_15, yle_16, yle_20, yle_24, yle_40, yle_60, yle_64, yle_80, yadd_1, yadd_22, ymul_2, ymul_4, ymul_6, ymul_8, ymul_10, ymul_24, ymul_27, ymul_100, ysub_1, ysub_24, zdiv_2, zdiv_4, zdiv_24, e, g56, g75, q1, q4, c]
      exact ih _ _ ⟨_, _, cnt_ti (decide_eq_true c), rfl, h3, l3⟩
  · rintro fu k _ M' ⟨_, u5, rfl, rfl, h3, l3⟩
    simp (disch := first | omega | rfl | decide) only [e_X7_wakesOf_0, e_X7_wakesOf_5, e_X7_wakesOf_10, e_X7_wakesOf_42, e_X7_wakesOf_54, e_X7_wakesOf_65, xr_v, xr_n, hl_of, hl_cl, hl_toInt, hl_le, hl_lt, hl_eq, nI_add, hl_sub, pk_mul, hl_div, if_pos, if_neg, ↓reduceIte, Nat.reduceAdd, Nat.reduceSub, Nat.reduceMul, Nat.add_zero, Nat.zero_add, mp_s, mp_k, mp_i, mp_g, mr_s, mr_i, mr_g, zlt_0, zlt_1, zlt_2, zlt_3, zlt_4, zlt_5, zlt_6, zlt_8, zlt_12, zlt_15, zlt_20, zlt_24, zlt_36, zlt_40, zlt_48, zlt_80, zlt_97, zlt_120, zlt_256, zlt_600, zlt_99999999, zadd_1, zadd_2, zadd_5, zadd_6, zadd_8, zadd_20, zadd_24, zeq_0, zeq_1, zeq_2, zeq_3, zeq_4, zeq_5, zeq_6, zeq_7, zeq_8, zeq_13, zeq_14, zeq_20, zeq_32, zeq_59, zeq_60, zeq_80, zmul_2, zmul_4, zmul_6, zmul_8, zmul_10, zmul_24, zsub_1, zsub_2, zsub_10, zsub_48, zsub_97, zle_0, zle_1, zle_2, zle_6, zle_11, zle_200, zle_600, zle_100000000, ylt_0, ylt_1, ylt_2, ylt_3, ylt_6, ylt_9, ylt_20, ylt_24, ylt_57, ylt_60, ylt_99, ylt_120, ylt_122, ylt_999, ylt_9999, yle_0, yle_2, yle_4, yle_5, yle_6, yle_7, yle_8, yle_10, yle_12, yle_13, yle_15, yle_16, yle_20, yle_24, yle_40, yle_60, yle_64, yle_80, yadd_1, yadd_22, ymul_2, ymul_4, ymul_6, ymul_8, ymul_10, ymul_24, ymul_27, ymul_100, ysub_1, ysub_24, zdiv_2, zdiv_4, zdiv_24]
    exact isI_i h3
theorem m_wakes {D : Nat} (hD : 11 ≤ D) (k0 a : Nat) (hk : k0 < nh) (ha : a < na) (M : Mem) (hB : MB M T f As n nh ns nw na nd) : isI (EX L xs (D) q_X7_wakes [.inr (.inr (40, 0)), .inl (nI k0), .inl (nI a)] M O) O (nI (cntF (wakeB (perfL T f nd) (As a) n ns k0) 8)) (MP M) := by
  obtain ⟨d, rfl⟩ : ∃ d, D = d + 2 := ⟨D - 2, by omega⟩
  refine isI_e (EX_in mi_X7_wakes rfl rfl rfl (ls := [some (.inr (.inr (40, 0))), some (.inl (nI k0)), some (.inl (nI a))]) rfl) ?_
  obtain ⟨M1, e1, fr1, hB1, t1⟩ := m_start hB
  have v4 : 8 ≤ n := hB1.1.2.2.2.2.1
  have v5 : n ≤ 40 := hB1.1.2.2.2.2.2.1
  have v6 : nh ≤ 8 := hB1.1.2.2.2.2.2.2.1
  have v7 : ns ≤ 6 := hB1.1.2.2.2.2.2.2.2.1
  have v8 : nw ≤ 8 := hB1.1.2.2.2.2.2.2.2.2.1
  have h6 : na ≤ 6 := hB1.2.2.2.2.2.1
  have z0 := hB1.2.1.1
  have z1 := hB1.2.1.2.1
  have z2 := hB1.2.1.2.2.1
  have z3 := hB1.2.1.2.2.2.1
  have z26 := hB1.2.2.2.2.1
  have b0 := fun w q => x7_bad_0 L xs O (D := d + 1) (by omega) w q M1 t1
  obtain ⟨M2, ql, h2⟩ := x7_laidR L xs O (D := d + 1) (by omega) hB fr1 hB1 t1
  have p1 := x7_isHouse_i L xs O (D := d + 1) (by omega) (by omega) k0 M1 z1 hk
  have p2 := x7_isAir_i L xs O (D := d + 1) (by omega) (by omega) a M1 z26 ha
  obtain ⟨M3, q3, h3⟩ := x7_wakesOf L xs O (D := d + 1) (by omega) k0 a hk ha M2 h2
  simp (disch := first | omega | rfl | decide) only [e_X7_wakes_0, e_X7_wakes_11, e_X7_wakes_22, e_X7_wakes_19, e_X7_wakes_27, e_X7_wakes_32, e_X7_wakes_41, e_X7_wakes_47, xr_v, xr_n, hl_of, hl_cl, hl_toInt, hl_le, hl_lt, hl_eq, nI_add, hl_sub, pk_mul, hl_div, if_pos, if_neg, ↓reduceIte, Nat.reduceAdd, Nat.reduceSub, Nat.reduceMul, Nat.add_zero, Nat.zero_add, mp_s, mp_k, mp_i, mp_g, mr_s, mr_i, mr_g, zlt_0, zlt_1, zlt_2, zlt_3, zlt_4, zlt_5, zlt_6, zlt_8, zlt_12, zlt_15, zlt_20, zlt_24, zlt_36, zlt_40, zlt_48, zlt_80, zlt_97, zlt_120, zlt_256, zlt_600, zlt_99999999, zadd_1, zadd_2, zadd_5, zadd_6, zadd_8, zadd_20, zadd_24, zeq_0, zeq_1, zeq_2, zeq_3, zeq_4, zeq_5, zeq_6, zeq_7, zeq_8, zeq_13, zeq_14, zeq_20, zeq_32, zeq_59, zeq_60, zeq_80, zmul_2, zmul_4, zmul_6, zmul_8, zmul_10, zmul_24, zsub_1, zsub_2, zsub_10, zsub_48, zsub_97, zle_0, zle_1, zle_2, zle_6, zle_11, zle_200, zle_600, zle_100000000, ylt_0, ylt_1, ylt_2, ylt_3, ylt_6, ylt_9, ylt_20, ylt_24, ylt_57, ylt_60, ylt_99, ylt_120, ylt_122, ylt_999, ylt_9999, yle_0, yle_2, yle_4, yle_5, yle_6, yle_7, yle_8, yle_10, yle_12, yle_13, yle_15, yle_16, yle_20, yle_24, yle_40, yle_60, yle_64, yle_80, yadd_1, yadd_22, ymul_2, ymul_4, ymul_6, ymul_8, ymul_10, ymul_24, ymul_27, ymul_100, ysub_1, ysub_24, zdiv_2, zdiv_4, zdiv_24, e1, p1, p2, b0, ql, q3]
  exact isI_i (MR_P h3)
theorem m_badly {D : Nat} (hD : 11 ≤ D) (k0 : Nat) (hk : k0 < nh) (M : Mem) (hB : MB M T f As n nh ns nw na nd) : isI (EX L xs (D) q_X7_badly [.inr (.inr (40, 0)), .inl (nI k0)] M O) O (sumF (fun a => As a 13) (fun a => decide (2 ≤ cntF (wakeB (perfL T f nd) (As a) n ns k0) 8)) na) (MP M) := by
  obtain ⟨d, rfl⟩ : ∃ d, D = d + 2 := ⟨D - 2, by omega⟩
  refine isI_e (EX_in mi_X7_badly rfl rfl rfl (ls := [some (.inr (.inr (40, 0))), some (.inl (nI k0)), none, none]) rfl) ?_
  obtain ⟨M1, e1, fr1, hB1, t1⟩ := m_start hB
  have v4 : 8 ≤ n := hB1.1.2.2.2.2.1
  have v5 : n ≤ 40 := hB1.1.2.2.2.2.2.1
  have v6 : nh ≤ 8 := hB1.1.2.2.2.2.2.2.1
  have v7 : ns ≤ 6 := hB1.1.2.2.2.2.2.2.2.1
  have v8 : nw ≤ 8 := hB1.1.2.2.2.2.2.2.2.2.1
  have h6 : na ≤ 6 := hB1.2.2.2.2.2.1
  have z0 := hB1.2.1.1
  have z1 := hB1.2.1.2.1
  have z2 := hB1.2.1.2.2.1
  have z3 := hB1.2.1.2.2.2.1
  have z26 := hB1.2.2.2.2.1
  have b0 := fun w q => x7_bad_0 L xs O (D := d + 1) (by omega) w q M1 t1
  obtain ⟨M2, ql, h2⟩ := x7_laidR L xs O (D := d + 1) (by omega) hB fr1 hB1 t1
  have p1 := x7_isHouse_i L xs O (D := d + 1) (by omega) (by omega) k0 M1 z1 hk
  simp (disch := first | omega | rfl | decide) only [e_X7_badly_0, e_X7_badly_11, e_X7_badly_19, e_X7_badly_24, e_X7_badly_33, e_X7_badly_52, e_X7_badly_69, xr_v, xr_n, hl_of, hl_cl, hl_toInt, hl_le, hl_lt, hl_eq, nI_add, hl_sub, pk_mul, hl_div, if_pos, if_neg, ↓reduceIte, Nat.reduceAdd, Nat.reduceSub, Nat.reduceMul, Nat.add_zero, Nat.zero_add, mp_s, mp_k, mp_i, mp_g, mr_s, mr_i, mr_g, zlt_0, zlt_1, zlt_2, zlt_3, zlt_4, zlt_5, zlt_6, zlt_8, zlt_12, zlt_15, zlt_20, zlt_24, zlt_36, zlt_40, zlt_48, zlt_80, zlt_97, zlt_120, zlt_256, zlt_600, zlt_99999999, zadd_1, zadd_2, zadd_5, zadd_6, zadd_8, zadd_20, zadd_24, zeq_0, zeq_1, zeq_2, zeq_3, zeq_4, zeq_5, zeq_6, zeq_7, zeq_8, zeq_13, zeq_14, zeq_20, zeq_32, zeq_59, zeq_60, zeq_80, zmul_2, zmul_4, zmul_6, zmul_8, zmul_10, zmul_24, zsub_1, zsub_2, zsub_10, zsub_48, zsub_97, zle_0, zle_1, zle_2, zle_6, zle_11, zle_200, zle_600, zle_100000000, ylt_0, ylt_1, ylt_2, ylt_3, ylt_6, ylt_9, ylt_20, ylt_24, ylt_57, ylt_60, ylt_99, ylt_120, ylt_122, ylt_999, ylt_9999, yle_0, yle_2, yle_4, yle_5, yle_6, yle_7, yle_8, yle_10, yle_12, yle_13, yle_15, yle_16, yle_20, yle_24, yle_40, yle_60, yle_64, yle_80, yadd_1, yadd_22, ymul_2, ymul_4, ymul_6, ymul_8, ymul_10, ymul_24, ymul_27, ymul_100, ysub_1, ysub_24, zdiv_2, zdiv_4, zdiv_24, e1, p1, b0, ql]
  refine loopA L xs O (P := fun r => isI r O _ (MP M)) (fun j ls M' => ∃ v, v = sumF (fun a => As a 13) (fun a => decide (2 ≤ cntF (wakeB (perfL T f nd) (As a) n ns k0) 8)) j ∧ ls = [some (.inr (.inr (40, 0))), some (.inl (nI k0)), some (.inl (v)), some (.inl (nI j))] ∧ MR T f As n nh ns nw na nd M M') na 100 (by omega) ?_ ?_ (Nat.le_of_lt (FU (by omega))) ⟨_, rfl, rfl, h2⟩
  · rintro fu k j _ M' hj ⟨_, rfl, rfl, h3⟩ ih
    have k26 := h3.2.1.2.2.2.1
    have cl := cnt_le (wakeB (perfL T f nd) (As j) n ns k0) 8
    obtain ⟨M3, q3, h4⟩ := x7_wakesOf L xs O (D := d + 1) (by omega) k0 j hk hj M' h3
    have g67 := h4.2.1.2.2.2.2.2 j hj 13 (by omega)
    by_cases c : 2 ≤ cntF (wakeB (perfL T f nd) (As j) n ns k0) 8
    · have c' : ¬ cntF (wakeB (perfL T f nd) (As j) n ns k0) 8 ≤ 1 := by omega
      simp (disch := first | omega | rfl | decide) only [e_X7_badly_0, e_X7_badly_11, e_X7_badly_19, e_X7_badly_24, e_X7_badly_33, e_X7_badly_37, e_X7_badly_52, e_X7_badly_69, xr_v, xr_n, hl_of, hl_cl, hl_toInt, hl_le, hl_lt, hl_eq, nI_add, hl_sub, pk_mul, hl_div, if_pos, if_neg, ↓reduceIte, Nat.reduceAdd, Nat.reduceSub, Nat.reduceMul, Nat.add_zero, Nat.zero_add, mp_s, mp_k, mp_i, mp_g, mr_s, mr_i, mr_g, zlt_0, zlt_1, zlt_2, zlt_3, zlt_4, zlt_5, zlt_6, zlt_8, zlt_12, zlt_15, zlt_20, zlt_24, zlt_36, zlt_40, zlt_48, zlt_80, zlt_97, zlt_120, zlt_256, zlt_600, zlt_99999999, zadd_1, zadd_2, zadd_5, zadd_6, zadd_8, zadd_20, zadd_24, zeq_0, zeq_1, zeq_2, zeq_3, zeq_4, zeq_5, zeq_6, zeq_7, zeq_8, zeq_13, zeq_14, zeq_20, zeq_32, zeq_59, zeq_60, zeq_80, zmul_2, zmul_4, zmul_6, zmul_8, zmul_10, zmul_24, zsub_1, zsub_2, zsub_10, zsub_48, zsub_97, zle_0, zle_1, zle_2, zle_6, zle_11, zle_200, zle_600, zle_100000000, ylt_0, ylt_1, ylt_2, ylt_3, ylt_6, ylt_9, ylt_20, ylt_24, ylt_57, ylt_60, ylt_99, ylt_120, ylt_122, ylt_999, ylt_9999, yle_0, yle_2, yle_4, yle_5, yle_6, yle_7, yle_8, yle_10, yle_12, yle_13, yle_15, yle_16, yle_20, yle_24, yle_40, yle_60, yle_64, yle_80, yadd_1, yadd_22, ymul_2, ymul_4, ymul_6, ymul_8, ymul_10, ymul_24, ymul_27, ymul_100, ysub_1, ysub_24, zdiv_2, zdiv_4, zdiv_24, k26, q3, g67, c']
      exact ih _ _ ⟨_, sum_t (decide_eq_true c), rfl, h4⟩
    · have c' : cntF (wakeB (perfL T f nd) (As j) n ns k0) 8 ≤ 1 := by omega
      simp (disch := first | omega | rfl | decide) only [e_X7_badly_0, e_X7_badly_11, e_X7_badly_19, e_X7_badly_24, e_X7_badly_33, e_X7_badly_37, e_X7_badly_52, e_X7_badly_69, xr_v, xr_n, hl_of, hl_cl, hl_toInt, hl_le, hl_lt, hl_eq, nI_add, hl_sub, pk_mul, hl_div, if_pos, if_neg, ↓reduceIte, Nat.reduceAdd, Nat.reduceSub, Nat.reduceMul, Nat.add_zero, Nat.zero_add, mp_s, mp_k, mp_i, mp_g, mr_s, mr_i, mr_g, zlt_0, zlt_1, zlt_2, zlt_3, zlt_4, zlt_5, zlt_6, zlt_8, zlt_12, zlt_15, zlt_20, zlt_24, zlt_36, zlt_40, zlt_48, zlt_80, zlt_97, zlt_120, zlt_256, zlt_600, zlt_99999999, zadd_1, zadd_2, zadd_5, zadd_6, zadd_8, zadd_20, zadd_24, zeq_0, zeq_1, zeq_2, zeq_3, zeq_4, zeq_5, zeq_6, zeq_7, zeq_8, zeq_13, zeq_14, zeq_20, zeq_32, zeq_59, zeq_60, zeq_80, zmul_2, zmul_4, zmul_6, zmul_8, zmul_10, zmul_24, zsub_1, zsub_2, zsub_10, zsub_48, zsub_97, zle_0, zle_1, zle_2, zle_6, zle_11, zle_200, zle_600, zle_100000000, ylt_0, ylt_1, ylt_2, ylt_3, ylt_6, ylt_9, ylt_20, ylt_24, ylt_57, ylt_60, ylt_99, ylt_120, ylt_122, ylt_999, ylt_9999, yle_0, yle_2, yle_4, yle_5, yle_6, yle_7, yle_8, yle_10, yle_12, yle_13, yle_15, yle_16, yle_20, yle_24, yle_40, yle_60, yle_64, yle_80, yadd_1, yadd_22, ymul_2, ymul_4, ymul_6, ymul_8, ymul_10, ymul_24, ymul_27, ymul_100, ysub_1, ysub_24, zdiv_2, zdiv_4, zdiv_24, k26, q3, c', Int32.add_zero]
      exact ih _ _ ⟨_, sum_f (decide_eq_false c), rfl, h4⟩
  · rintro fu k _ M' ⟨_, rfl, rfl, h3⟩
    have k26 := h3.2.1.2.2.2.1
    simp (disch := first | omega | rfl | decide) only [e_X7_badly_0, e_X7_badly_11, e_X7_badly_19, e_X7_badly_24, e_X7_badly_33, e_X7_badly_37, e_X7_badly_52, e_X7_badly_69, xr_v, xr_n, hl_of, hl_cl, hl_toInt, hl_le, hl_lt, hl_eq, nI_add, hl_sub, pk_mul, hl_div, if_pos, if_neg, ↓reduceIte, Nat.reduceAdd, Nat.reduceSub, Nat.reduceMul, Nat.add_zero, Nat.zero_add, mp_s, mp_k, mp_i, mp_g, mr_s, mr_i, mr_g, zlt_0, zlt_1, zlt_2, zlt_3, zlt_4, zlt_5, zlt_6, zlt_8, zlt_12, zlt_15, zlt_20, zlt_24, zlt_36, zlt_40, zlt_48, zlt_80, zlt_97, zlt_120, zlt_256, zlt_600, zlt_99999999, zadd_1, zadd_2, zadd_5, zadd_6, zadd_8, zadd_20, zadd_24, zeq_0, zeq_1, zeq_2, zeq_3, zeq_4, zeq_5, zeq_6, zeq_7, zeq_8, zeq_13, zeq_14, zeq_20, zeq_32, zeq_59, zeq_60, zeq_80, zmul_2, zmul_4, zmul_6, zmul_8, zmul_10, zmul_24, zsub_1, zsub_2, zsub_10, zsub_48, zsub_97, zle_0, zle_1, zle_2, zle_6, zle_11, zle_200, zle_600, zle_100000000, ylt_0, ylt_1, ylt_2, ylt_3, ylt_6, ylt_9, ylt_20, ylt_24, ylt_57, ylt_60, ylt_99, ylt_120, ylt_122, ylt_999, ylt_9999, yle_0, yle_2, yle_4, yle_5, yle_6, yle_7, yle_8, yle_10, yle_12, yle_13, yle_15, yle_16, yle_20, yle_24, yle_40, yle_60, yle_64, yle_80, yadd_1, yadd_22, ymul_2, ymul_4, ymul_6, ymul_8, ymul_10, ymul_24, ymul_27, ymul_100, ysub_1, ysub_24, zdiv_2, zdiv_4, zdiv_24, k26]
    exact isI_i (MR_P h3)
theorem x7_meanOf {D : Nat} (hD : 10 ≤ D) (k0 h : Nat) (hk : k0 < nh) {M : Mem} (M1 : Mem) (h1 : MR T f As n nh ns nw na nd M M1) : isI (EX L xs (D) q_X7_meanOf [.inr (.inr (40, 0)), .inl (nI k0), .inl (nI h)] M1 O) O (meanF (perfL T f nd) As n ns na h k0) (fun M' => MR T f As n nh ns nw na nd M M' ∧ ∀ a, a < na → M' 82 0 a = mostF (perfL T f nd) (As a) n h (vN (perfL T f nd) 7 k0) ns) := by
  have hV := h1.2.1.1
  have v5 : n ≤ 40 := hV.2.2.2.2.2.1
  have v6 : nh ≤ 8 := hV.2.2.2.2.2.2.1
  have v7 : ns ≤ 6 := hV.2.2.2.2.2.2.2.1
  have h6 := h1.2.1.2.2.2.2.1
  have vc := hV.2.2.2.2.2.2.2.2.2.2.2.2.1 k0 hk
  obtain ⟨d, rfl⟩ : ∃ d, D = d + 2 := ⟨D - 2, by omega⟩
  refine isI_e (EX_in mi_X7_meanOf rfl rfl rfl (ls := [some (.inr (.inr (40, 0))), some (.inl (nI k0)), some (.inl (nI h)), none, none, none]) rfl) ?_
  rw [e_X7_meanOf_0]
  refine loopA L xs O (P := fun r => isI r O _ _) (fun j ls M' => ∃ v, v = meanS (perfL T f nd) As n ns h k0 j ∧ ls = [some (.inr (.inr (40, 0))), some (.inl (nI k0)), some (.inl (nI h)), some (.inl (v)), some (.inl (allW As j)), some (.inl (nI j))] ∧ MR T f As n nh ns nw na nd M M' ∧ ∀ a, a < j → M' 82 0 a = mostF (perfL T f nd) (As a) n h (vN (perfL T f nd) 7 k0) ns) na 100 (by omega) ?_ ?_ (Nat.le_of_lt (FU (by omega))) ⟨_, rfl, rfl, h1, fun a ha => absurd ha (by omega)⟩
  · rintro fu k j _ M' hj ⟨_, rfl, rfl, h3, hr⟩ ih
    have k26 := h3.2.1.2.2.2.1
    obtain ⟨M3, q3, f3, l3⟩ := x7_laysLoud L xs O (D := d + 1) (by omega) j hj M' h3.2.1
    have h4 := MR_q h3 f3
    have g56 := (h4.2.1.2.1.2.2.2.2.2.1 k0 hk).trans vc.1
    have q4 := x7_most L xs O (D := d + 1) (by omega) (As j) v7 v5 (vN (perfL T f nd) 7 k0) h vc.2 M3 h4.2.1.2.1 l3
    have g67 := h4.2.1.2.2.2.2.2 j hj 13 (by omega)
    simp (disch := first | omega | rfl | decide) only [e_X7_meanOf_0, e_X7_meanOf_8, e_X7_meanOf_98, e_X7_meanOf_23, e_X7_meanOf_42, xr_v, xr_n, hl_of, hl_cl, hl_toInt, hl_le, hl_lt, hl_eq, nI_add, hl_sub, pk_mul, hl_div, if_pos, if_neg, ↓reduceIte, Nat.reduceAdd, Nat.reduceSub, Nat.reduceMul, Nat.add_zero, Nat.zero_add, mp_s, mp_k, mp_i, mp_g, mr_s, mr_i, mr_g, zlt_0, zlt_1, zlt_2, zlt_3, zlt_4, zlt_5, zlt_6, zlt_8, zlt_12, zlt_15, zlt_20, zlt_24, zlt_36, zlt_40, zlt_48, zlt_80, zlt_97, zlt_120, zlt_256, zlt_600, zlt_99999999, zadd_1, zadd_2, zadd_5, zadd_6, zadd_8, zadd_20, zadd_24, zeq_0, zeq_1, zeq_2, zeq_3, zeq_4, zeq_5, zeq_6, zeq_7, zeq_8, zeq_13, zeq_14, zeq_20, zeq_32, zeq_59, zeq_60, zeq_80, zmul_2, zmul_4, zmul_6, zmul_8, zmul_10, zmul_24, zsub_1, zsub_2, zsub_10, zsub_48, zsub_97, zle_0, zle_1, zle_2, zle_6, zle_11, zle_200, zle_600, zle_100000000, ylt_0, ylt_1, ylt_2, ylt_3, ylt_6, ylt_9, ylt_20, ylt_24, ylt_57, ylt_60, ylt_99, ylt_120, ylt_122, ylt_999, ylt_9999, yle_0, yle_2, yle_4, yle_5, yle_6, yle_7, yle_8, yle_10, yle_12, yle_13, yle_15, yle_16, yle_20, yle_24, yle_40, yle_60, yle_64, yle_80, yadd_1, yadd_22, ymul_2, ymul_4, ymul_6, ymul_8, ymul_10, ymul_24, ymul_27, ymul_100, ysub_1, ysub_24, zdiv_2, zdiv_4, zdiv_24, k26, q3, g56, q4, g67]
    refine ih _ _ ⟨_, ?_, rfl, MR_8 h4 (Fr_put Fr_refl rfl), fun a ha => ?_⟩
    · rw [Int32.mul_comm]
      rfl
    · by_cases e : a = j
      · rw [e, mp_s]
      · rw [mp_k e, f3 82 0 a rfl]
        exact hr a (by omega)
  · rintro fu k _ M' ⟨_, rfl, rfl, h3, hr⟩
    have k26 := h3.2.1.2.2.2.1
    unfold meanF
    by_cases c : allW As na = 0
    · rw [if_pos c]
      simp (disch := first | omega | rfl | decide) only [e_X7_meanOf_0, e_X7_meanOf_8, e_X7_meanOf_98, e_X7_meanOf_23, e_X7_meanOf_42, xr_v, xr_n, hl_of, hl_cl, hl_toInt, hl_le, hl_lt, hl_eq, nI_add, hl_sub, pk_mul, hl_div, if_pos, if_neg, ↓reduceIte, Nat.reduceAdd, Nat.reduceSub, Nat.reduceMul, Nat.add_zero, Nat.zero_add, mp_s, mp_k, mp_i, mp_g, mr_s, mr_i, mr_g, zlt_0, zlt_1, zlt_2, zlt_3, zlt_4, zlt_5, zlt_6, zlt_8, zlt_12, zlt_15, zlt_20, zlt_24, zlt_36, zlt_40, zlt_48, zlt_80, zlt_97, zlt_120, zlt_256, zlt_600, zlt_99999999, zadd_1, zadd_2, zadd_5, zadd_6, zadd_8, zadd_20, zadd_24, zeq_0, zeq_1, zeq_2, zeq_3, zeq_4, zeq_5, zeq_6, zeq_7, zeq_8, zeq_13, zeq_14, zeq_20, zeq_32, zeq_59, zeq_60, zeq_80, zmul_2, zmul_4, zmul_6, zmul_8, zmul_10, zmul_24, zsub_1, zsub_2, zsub_10, zsub_48, zsub_97, zle_0, zle_1, zle_2, zle_6, zle_11, zle_200, zle_600, zle_100000000, ylt_0, ylt_1, ylt_2, ylt_3, ylt_6, ylt_9, ylt_20, ylt_24, ylt_57, ylt_60, ylt_99, ylt_120, ylt_122, ylt_999, ylt_9999, yle_0, yle_2, yle_4, yle_5, yle_6, yle_7, yle_8, yle_10, yle_12, yle_13, yle_15, yle_16, yle_20, yle_24, yle_40, yle_60, yle_64, yle_80, yadd_1, yadd_22, ymul_2, ymul_4, ymul_6, ymul_8, ymul_10, ymul_24, ymul_27, ymul_100, ysub_1, ysub_24, zdiv_2, zdiv_4, zdiv_24, k26, c]
      exact isI_i ⟨h3, hr⟩
    · rw [if_neg c]
      simp (disch := first | omega | rfl | decide) only [e_X7_meanOf_0, e_X7_meanOf_8, e_X7_meanOf_98, e_X7_meanOf_23, e_X7_meanOf_42, xr_v, xr_n, hl_of, hl_cl, hl_toInt, hl_le, hl_lt, hl_eq, nI_add, hl_sub, pk_mul, hl_div, if_pos, if_neg, ↓reduceIte, Nat.reduceAdd, Nat.reduceSub, Nat.reduceMul, Nat.add_zero, Nat.zero_add, mp_s, mp_k, mp_i, mp_g, mr_s, mr_i, mr_g, zlt_0, zlt_1, zlt_2, zlt_3, zlt_4, zlt_5, zlt_6, zlt_8, zlt_12, zlt_15, zlt_20, zlt_24, zlt_36, zlt_40, zlt_48, zlt_80, zlt_97, zlt_120, zlt_256, zlt_600, zlt_99999999, zadd_1, zadd_2, zadd_5, zadd_6, zadd_8, zadd_20, zadd_24, zeq_0, zeq_1, zeq_2, zeq_3, zeq_4, zeq_5, zeq_6, zeq_7, zeq_8, zeq_13, zeq_14, zeq_20, zeq_32, zeq_59, zeq_60, zeq_80, zmul_2, zmul_4, zmul_6, zmul_8, zmul_10, zmul_24, zsub_1, zsub_2, zsub_10, zsub_48, zsub_97, zle_0, zle_1, zle_2, zle_6, zle_11, zle_200, zle_600, zle_100000000, ylt_0, ylt_1, ylt_2, ylt_3, ylt_6, ylt_9, ylt_20, ylt_24, ylt_57, ylt_60, ylt_99, ylt_120, ylt_122, ylt_999, ylt_9999, yle_0, yle_2, yle_4, yle_5, yle_6, yle_7, yle_8, yle_10, yle_12, yle_13, yle_15, yle_16, yle_20, yle_24, yle_40, yle_60, yle_64, yle_80, yadd_1, yadd_22, ymul_2, ymul_4, ymul_6, ymul_8, ymul_10, ymul_24, ymul_27, ymul_100, ysub_1, ysub_24, zdiv_2, zdiv_4, zdiv_24, k26, c]
      exact isI_i ⟨h3, hr⟩
theorem m_mean {D : Nat} (hD : 11 ≤ D) (k0 h : Nat) (hk : k0 < nh) (hh : h < 24) (M : Mem) (hB : MB M T f As n nh ns nw na nd) : isI (EX L xs (D) q_X7_mean [.inr (.inr (40, 0)), .inl (nI k0), .inl (nI h)] M O) O (meanF (perfL T f nd) As n ns na h k0) (MP M) := by
  obtain ⟨d, rfl⟩ : ∃ d, D = d + 2 := ⟨D - 2, by omega⟩
  refine isI_e (EX_in mi_X7_mean rfl rfl rfl (ls := [some (.inr (.inr (40, 0))), some (.inl (nI k0)), some (.inl (nI h))]) rfl) ?_
  obtain ⟨M1, e1, fr1, hB1, t1⟩ := m_start hB
  have v4 : 8 ≤ n := hB1.1.2.2.2.2.1
  have v5 : n ≤ 40 := hB1.1.2.2.2.2.2.1
  have v6 : nh ≤ 8 := hB1.1.2.2.2.2.2.2.1
  have v7 : ns ≤ 6 := hB1.1.2.2.2.2.2.2.2.1
  have v8 : nw ≤ 8 := hB1.1.2.2.2.2.2.2.2.2.1
  have h6 : na ≤ 6 := hB1.2.2.2.2.2.1
  have z0 := hB1.2.1.1
  have z1 := hB1.2.1.2.1
  have z2 := hB1.2.1.2.2.1
  have z3 := hB1.2.1.2.2.2.1
  have z26 := hB1.2.2.2.2.1
  have b0 := fun w q => x7_bad_0 L xs O (D := d + 1) (by omega) w q M1 t1
  obtain ⟨M2, ql, h2⟩ := x7_laidR L xs O (D := d + 1) (by omega) hB fr1 hB1 t1
  have p1 := x7_isHouse_i L xs O (D := d + 1) (by omega) (by omega) k0 M1 z1 hk
  have p2 := x7_isHour_i L xs O (D := d + 1) (by omega) h M1 hh
  obtain ⟨M3, q3, h3, -⟩ := x7_meanOf L xs O (D := d + 1) (by omega) k0 h hk M2 h2
  simp (disch := first | omega | rfl | decide) only [e_X7_mean_0, e_X7_mean_11, e_X7_mean_19, e_X7_mean_24, e_X7_mean_32, e_X7_mean_48, e_X7_mean_40, e_X7_mean_45, e_X7_mean_54, e_X7_mean_60, xr_v, xr_n, hl_of, hl_cl, hl_toInt, hl_le, hl_lt, hl_eq, nI_add, hl_sub, pk_mul, hl_div, if_pos, if_neg, ↓reduceIte, Nat.reduceAdd, Nat.reduceSub, Nat.reduceMul, Nat.add_zero, Nat.zero_add, mp_s, mp_k, mp_i, mp_g, mr_s, mr_i, mr_g, zlt_0, zlt_1, zlt_2, zlt_3, zlt_4, zlt_5, zlt_6, zlt_8, zlt_12, zlt_15, zlt_20, zlt_24, zlt_36, zlt_40, zlt_48, zlt_80, zlt_97, zlt_120, zlt_256, zlt_600, zlt_99999999, zadd_1, zadd_2, zadd_5, zadd_6, zadd_8, zadd_20, zadd_24, zeq_0, zeq_1, zeq_2, zeq_3, zeq_4, zeq_5, zeq_6, zeq_7, zeq_8, zeq_13, zeq_14, zeq_20, zeq_32, zeq_59, zeq_60, zeq_80, zmul_2, zmul_4, zmul_6, zmul_8, zmul_10, zmul_24, zsub_1, zsub_2, zsub_10, zsub_48, zsub_97, zle_0, zle_1, zle_2, zle_6, zle_11, zle_200, zle_600, zle_100000000, ylt_0, ylt_1, ylt_2, ylt_3, ylt_6, ylt_9, ylt_20, ylt_24, ylt_57, ylt_60, ylt_99, ylt_120, ylt_122, ylt_999, ylt_9999, yle_0, yle_2, yle_4, yle_5, yle_6, yle_7, yle_8, yle_10, yle_12, yle_13, yle_15, yle_16, yle_20, yle_24, yle_40, yle_60, yle_64, yle_80, yadd_1, yadd_22, ymul_2, ymul_4, ymul_6, ymul_8, ymul_10, ymul_24, ymul_27, ymul_100, ysub_1, ysub_24, zdiv_2, zdiv_4, zdiv_24, e1, p1, p2, b0, ql, q3]
  exact isI_i (MR_P h3)
theorem m_hides {D : Nat} (hD : 11 ≤ D) (k0 h : Nat) (li : Int32) (hk : k0 < nh) (hh : h < 24) (c1 : ¬ li < 0) (c2 : ¬ 120 < li) (M : Mem) (hB : MB M T f As n nh ns nw na nd) : isI (EX L xs (D) q_X7_hides [.inr (.inr (40, 0)), .inl (nI k0), .inl (nI h), .inl (li)] M O) O (if meanF (perfL T f nd) As n ns na h k0 ≤ li then bitsF (fun a => decide (¬ mostF (perfL T f nd) (As a) n h (vN (perfL T f nd) 7 k0) ns ≤ li)) na else 0) (MP M) := by
  obtain ⟨d, rfl⟩ : ∃ d, D = d + 2 := ⟨D - 2, by omega⟩
  refine isI_e (EX_in mi_X7_hides rfl rfl rfl (ls := [some (.inr (.inr (40, 0))), some (.inl (nI k0)), some (.inl (nI h)), some (.inl (li)), none, none, none]) rfl) ?_
  obtain ⟨M1, e1, fr1, hB1, t1⟩ := m_start hB
  have v4 : 8 ≤ n := hB1.1.2.2.2.2.1
  have v5 : n ≤ 40 := hB1.1.2.2.2.2.2.1
  have v6 : nh ≤ 8 := hB1.1.2.2.2.2.2.2.1
  have v7 : ns ≤ 6 := hB1.1.2.2.2.2.2.2.2.1
  have v8 : nw ≤ 8 := hB1.1.2.2.2.2.2.2.2.2.1
  have h6 : na ≤ 6 := hB1.2.2.2.2.2.1
  have z0 := hB1.2.1.1
  have z1 := hB1.2.1.2.1
  have z2 := hB1.2.1.2.2.1
  have z3 := hB1.2.1.2.2.2.1
  have z26 := hB1.2.2.2.2.1
  have b0 := fun w q => x7_bad_0 L xs O (D := d + 1) (by omega) w q M1 t1
  obtain ⟨M2, ql, h2⟩ := x7_laidR L xs O (D := d + 1) (by omega) hB fr1 hB1 t1
  have p1 := x7_isHouse_i L xs O (D := d + 1) (by omega) (by omega) k0 M1 z1 hk
  have p2 := x7_isHour_i L xs O (D := d + 1) (by omega) h M1 hh
  have p3 := x7_r_in L xs O (D := d + 1) (by omega) li 0 120 M1 c1 c2
  obtain ⟨M3, q3, h3, r3⟩ := x7_meanOf L xs O (D := d + 1) (by omega) k0 h hk M2 h2
  simp (disch := first | omega | rfl | decide) only [e_X7_hides_0, e_X7_hides_11, e_X7_hides_19, e_X7_hides_24, e_X7_hides_32, e_X7_hides_58, e_X7_hides_45, e_X7_hides_42, e_X7_hides_50, e_X7_hides_55, e_X7_hides_64, e_X7_hides_70, e_X7_hides_113, e_X7_hides_114, xr_v, xr_n, hl_of, hl_cl, hl_toInt, hl_le, hl_lt, hl_eq, nI_add, hl_sub, pk_mul, hl_div, if_pos, if_neg, ↓reduceIte, Nat.reduceAdd, Nat.reduceSub, Nat.reduceMul, Nat.add_zero, Nat.zero_add, mp_s, mp_k, mp_i, mp_g, mr_s, mr_i, mr_g, zlt_0, zlt_1, zlt_2, zlt_3, zlt_4, zlt_5, zlt_6, zlt_8, zlt_12, zlt_15, zlt_20, zlt_24, zlt_36, zlt_40, zlt_48, zlt_80, zlt_97, zlt_120, zlt_256, zlt_600, zlt_99999999, zadd_1, zadd_2, zadd_5, zadd_6, zadd_8, zadd_20, zadd_24, zeq_0, zeq_1, zeq_2, zeq_3, zeq_4, zeq_5, zeq_6, zeq_7, zeq_8, zeq_13, zeq_14, zeq_20, zeq_32, zeq_59, zeq_60, zeq_80, zmul_2, zmul_4, zmul_6, zmul_8, zmul_10, zmul_24, zsub_1, zsub_2, zsub_10, zsub_48, zsub_97, zle_0, zle_1, zle_2, zle_6, zle_11, zle_200, zle_600, zle_100000000, ylt_0, ylt_1, ylt_2, ylt_3, ylt_6, ylt_9, ylt_20, ylt_24, ylt_57, ylt_60, ylt_99, ylt_120, ylt_122, ylt_999, ylt_9999, yle_0, yle_2, yle_4, yle_5, yle_6, yle_7, yle_8, yle_10, yle_12, yle_13, yle_15, yle_16, yle_20, yle_24, yle_40, yle_60, yle_64, yle_80, yadd_1, yadd_22, ymul_2, ymul_4, ymul_6, ymul_8, ymul_10, ymul_24, ymul_27, ymul_100, ysub_1, ysub_24, zdiv_2, zdiv_4, zdiv_24, e1, p1, p2, p3, b0, ql, q3]
  refine loopA L xs O (P := fun r => isI r O _ (MP M)) (fun j ls M' => ∃ v, v = (if meanF (perfL T f nd) As n ns na h k0 ≤ li then bitsF (fun a => decide (¬ mostF (perfL T f nd) (As a) n h (vN (perfL T f nd) 7 k0) ns ≤ li)) j else 0) ∧ ls = [some (.inr (.inr (40, 0))), some (.inl (nI k0)), some (.inl (nI h)), some (.inl (li)), some (.inl (meanF (perfL T f nd) As n ns na h k0)), some (.inl (v)), some (.inl (nI j))] ∧ MR T f As n nh ns nw na nd M M' ∧ ∀ a, a < na → M' 82 0 a = mostF (perfL T f nd) (As a) n h (vN (perfL T f nd) 7 k0) ns) na 100 (by omega) ?_ ?_ (Nat.le_of_lt (FU (by omega))) ⟨_, (by split <;> rfl), rfl, h3, r3⟩
  · rintro fu k j _ M' hj ⟨_, rfl, rfl, h3, r3⟩ ih
    have k26 := h3.2.1.2.2.2.1
    have g82 := r3 j hj
    by_cases c : meanF (perfL T f nd) As n ns na h k0 ≤ li
    · have c' := nlt_le c
      simp only [if_pos c] at ih ⊢
      by_cases c3 : mostF (perfL T f nd) (As j) n h (vN (perfL T f nd) 7 k0) ns ≤ li
      · simp (disch := first | omega | rfl | decide) only [e_X7_hides_0, e_X7_hides_11, e_X7_hides_19, e_X7_hides_24, e_X7_hides_32, e_X7_hides_58, e_X7_hides_45, e_X7_hides_42, e_X7_hides_50, e_X7_hides_55, e_X7_hides_64, e_X7_hides_70, e_X7_hides_78, e_X7_hides_113, e_X7_hides_114, xr_v, xr_n, hl_of, hl_cl, hl_toInt, hl_le, hl_lt, hl_eq, nI_add, hl_sub, pk_mul, hl_div, if_pos, if_neg, ↓reduceIte, Nat.reduceAdd, Nat.reduceSub, Nat.reduceMul, Nat.add_zero, Nat.zero_add, mp_s, mp_k, mp_i, mp_g, mr_s, mr_i, mr_g, zlt_0, zlt_1, zlt_2, zlt_3, zlt_4, zlt_5, zlt_6, zlt_8, zlt_12, zlt_15, zlt_20, zlt_24, zlt_36, zlt_40, zlt_48, zlt_80, zlt_97, zlt_120, zlt_256, zlt_600, zlt_99999999, zadd_1, zadd_2, zadd_5, zadd_6, zadd_8, zadd_20, zadd_24, zeq_0, zeq_1, zeq_2, zeq_3, zeq_4, zeq_5, zeq_6, zeq_7, zeq_8, zeq_13, zeq_14, zeq_20, zeq_32, zeq_59, zeq_60, zeq_80, zmul_2, zmul_4, zmul_6, zmul_8, zmul_10, zmul_24, zsub_1, zsub_2, zsub_10, zsub_48, zsub_97, zle_0, zle_1, zle_2, zle_6, zle_11, zle_200, zle_600, zle_100000000, ylt_0, ylt_1, ylt_2, ylt_3, ylt_6, ylt_9, ylt_20, ylt_24, ylt_57, ylt_60, ylt_99, ylt_120, ylt_122, ylt_999, ylt_9999, yle_0, yle_2, yle_4, yle_5, yle_6, yle_7, yle_8, yle_10, yle_12, yle_13, yle_15, yle_16, yle_20, yle_24, yle_40, yle_60, yle_64, yle_80, yadd_1, yadd_22, ymul_2, ymul_4, ymul_6, ymul_8, ymul_10, ymul_24, ymul_27, ymul_100, ysub_1, ysub_24, zdiv_2, zdiv_4, zdiv_24, k26, g82, c', c3, Int32.or_zero]
        exact ih _ _ ⟨_, bits_f (decide_eq_false (fun e => e c3)), rfl, h3, r3⟩
      · simp (disch := first | omega | rfl | decide) only [e_X7_hides_0, e_X7_hides_11, e_X7_hides_19, e_X7_hides_24, e_X7_hides_32, e_X7_hides_58, e_X7_hides_45, e_X7_hides_42, e_X7_hides_50, e_X7_hides_55, e_X7_hides_64, e_X7_hides_70, e_X7_hides_78, e_X7_hides_113, e_X7_hides_114, xr_v, xr_n, hl_of, hl_cl, hl_toInt, hl_le, hl_lt, hl_eq, nI_add, hl_sub, pk_mul, hl_div, if_pos, if_neg, ↓reduceIte, Nat.reduceAdd, Nat.reduceSub, Nat.reduceMul, Nat.add_zero, Nat.zero_add, mp_s, mp_k, mp_i, mp_g, mr_s, mr_i, mr_g, zlt_0, zlt_1, zlt_2, zlt_3, zlt_4, zlt_5, zlt_6, zlt_8, zlt_12, zlt_15, zlt_20, zlt_24, zlt_36, zlt_40, zlt_48, zlt_80, zlt_97, zlt_120, zlt_256, zlt_600, zlt_99999999, zadd_1, zadd_2, zadd_5, zadd_6, zadd_8, zadd_20, zadd_24, zeq_0, zeq_1, zeq_2, zeq_3, zeq_4, zeq_5, zeq_6, zeq_7, zeq_8, zeq_13, zeq_14, zeq_20, zeq_32, zeq_59, zeq_60, zeq_80, zmul_2, zmul_4, zmul_6, zmul_8, zmul_10, zmul_24, zsub_1, zsub_2, zsub_10, zsub_48, zsub_97, zle_0, zle_1, zle_2, zle_6, zle_11, zle_200, zle_600, zle_100000000, ylt_0, ylt_1, ylt_2, ylt_3, ylt_6, ylt_9, ylt_20, ylt_24, ylt_57, ylt_60, ylt_99, ylt_120, ylt_122, ylt_999, ylt_9999, yle_0, yle_2, yle_4, yle_5, yle_6, yle_7, yle_8, yle_10, yle_12, yle_13, yle_15, yle_16, yle_20, yle_24, yle_40, yle_60, yle_64, yle_80, yadd_1, yadd_22, ymul_2, ymul_4, ymul_6, ymul_8, ymul_10, ymul_24, ymul_27, ymul_100, ysub_1, ysub_24, zdiv_2, zdiv_4, zdiv_24, k26, g82, c', c3]
        exact ih _ _ ⟨_, bits_t (decide_eq_true c3), rfl, h3, r3⟩
    · have c' := lt_nle c
      simp only [if_neg c] at ih ⊢
      by_cases c3 : mostF (perfL T f nd) (As j) n h (vN (perfL T f nd) 7 k0) ns ≤ li
      · simp (disch := first | omega | rfl | decide) only [e_X7_hides_0, e_X7_hides_11, e_X7_hides_19, e_X7_hides_24, e_X7_hides_32, e_X7_hides_58, e_X7_hides_45, e_X7_hides_42, e_X7_hides_50, e_X7_hides_55, e_X7_hides_64, e_X7_hides_70, e_X7_hides_78, e_X7_hides_113, e_X7_hides_114, xr_v, xr_n, hl_of, hl_cl, hl_toInt, hl_le, hl_lt, hl_eq, nI_add, hl_sub, pk_mul, hl_div, if_pos, if_neg, ↓reduceIte, Nat.reduceAdd, Nat.reduceSub, Nat.reduceMul, Nat.add_zero, Nat.zero_add, mp_s, mp_k, mp_i, mp_g, mr_s, mr_i, mr_g, zlt_0, zlt_1, zlt_2, zlt_3, zlt_4, zlt_5, zlt_6, zlt_8, zlt_12, zlt_15, zlt_20, zlt_24, zlt_36, zlt_40, zlt_48, zlt_80, zlt_97, zlt_120, zlt_256, zlt_600, zlt_99999999, zadd_1, zadd_2, zadd_5, zadd_6, zadd_8, zadd_20, zadd_24, zeq_0, zeq_1, zeq_2, zeq_3, zeq_4, zeq_5, zeq_6, zeq_7, zeq_8, zeq_13, zeq_14, zeq_20, zeq_32, zeq_59, zeq_60, zeq_80, zmul_2, zmul_4, zmul_6, zmul_8, zmul_10, zmul_24, zsub_1, zsub_2, zsub_10, zsub_48, zsub_97, zle_0, zle_1, zle_2, zle_6, zle_11, zle_200, zle_600, zle_100000000, ylt_0, ylt_1, ylt_2, ylt_3, ylt_6, ylt_9, ylt_20, ylt_24, ylt_57, ylt_60, ylt_99, ylt_120, ylt_122, ylt_999, ylt_9999, yle_0, yle_2, yle_4, yle_5, yle_6, yle_7, yle_8, yle_10, yle_12, yle_13, yle_15, yle_16, yle_20, yle_24, yle_40, yle_60, yle_64, yle_80, yadd_1, yadd_22, ymul_2, ymul_4, ymul_6, ymul_8, ymul_10, ymul_24, ymul_27, ymul_100, ysub_1, ysub_24, zdiv_2, zdiv_4, zdiv_24, k26, g82, c', c3, Int32.or_zero]
        exact ih _ _ ⟨_, rfl, rfl, h3, r3⟩
      · simp (disch := first | omega | rfl | decide) only [e_X7_hides_0, e_X7_hides_11, e_X7_hides_19, e_X7_hides_24, e_X7_hides_32, e_X7_hides_58, e_X7_hides_45, e_X7_hides_42, e_X7_hides_50, e_X7_hides_55, e_X7_hides_64, e_X7_hides_70, e_X7_hides_78, e_X7_hides_113, e_X7_hides_114, xr_v, xr_n, hl_of, hl_cl, hl_toInt, hl_le, hl_lt, hl_eq, nI_add, hl_sub, pk_mul, hl_div, if_pos, if_neg, ↓reduceIte, Nat.reduceAdd, Nat.reduceSub, Nat.reduceMul, Nat.add_zero, Nat.zero_add, mp_s, mp_k, mp_i, mp_g, mr_s, mr_i, mr_g, zlt_0, zlt_1, zlt_2, zlt_3, zlt_4, zlt_5, zlt_6, zlt_8, zlt_12, zlt_15, zlt_20, zlt_24, zlt_36, zlt_40, zlt_48, zlt_80, zlt_97, zlt_120, zlt_256, zlt_600, zlt_99999999, zadd_1, zadd_2, zadd_5, zadd_6, zadd_8, zadd_20, zadd_24, zeq_0, zeq_1, zeq_2, zeq_3, zeq_4, zeq_5, zeq_6, zeq_7, zeq_8, zeq_13, zeq_14, zeq_20, zeq_32, zeq_59, zeq_60, zeq_80, zmul_2, zmul_4, zmul_6, zmul_8, zmul_10, zmul_24, zsub_1, zsub_2, zsub_10, zsub_48, zsub_97, zle_0, zle_1, zle_2, zle_6, zle_11, zle_200, zle_600, zle_100000000, ylt_0, ylt_1, ylt_2, ylt_3, ylt_6, ylt_9, ylt_20, ylt_24, ylt_57, ylt_60, ylt_99, ylt_120, ylt_122, ylt_999, ylt_9999, yle_0, yle_2, yle_4, yle_5, yle_6, yle_7, yle_8, yle_10, yle_12, yle_13, yle_15, yle_16, yle_20, yle_24, yle_40, yle_60, yle_64, yle_80, yadd_1, yadd_22, ymul_2, ymul_4, ymul_6, ymul_8, ymul_10, ymul_24, ymul_27, ymul_100, ysub_1, ysub_24, zdiv_2, zdiv_4, zdiv_24, k26, g82, c', c3, Int32.or_zero]
        exact ih _ _ ⟨_, rfl, rfl, h3, r3⟩
  · rintro fu k _ M' ⟨_, rfl, rfl, h3, r3⟩
    have k26 := h3.2.1.2.2.2.1
    simp (disch := first | omega | rfl | decide) only [e_X7_hides_0, e_X7_hides_11, e_X7_hides_19, e_X7_hides_24, e_X7_hides_32, e_X7_hides_58, e_X7_hides_45, e_X7_hides_42, e_X7_hides_50, e_X7_hides_55, e_X7_hides_64, e_X7_hides_70, e_X7_hides_78, e_X7_hides_113, e_X7_hides_114, xr_v, xr_n, hl_of, hl_cl, hl_toInt, hl_le, hl_lt, hl_eq, nI_add, hl_sub, pk_mul, hl_div, if_pos, if_neg, ↓reduceIte, Nat.reduceAdd, Nat.reduceSub, Nat.reduceMul, Nat.add_zero, Nat.zero_add, mp_s, mp_k, mp_i, mp_g, mr_s, mr_i, mr_g, zlt_0, zlt_1, zlt_2, zlt_3, zlt_4, zlt_5, zlt_6, zlt_8, zlt_12, zlt_15, zlt_20, zlt_24, zlt_36, zlt_40, zlt_48, zlt_80, zlt_97, zlt_120, zlt_256, zlt_600, zlt_99999999, zadd_1, zadd_2, zadd_5, zadd_6, zadd_8, zadd_20, zadd_24, zeq_0, zeq_1, zeq_2, zeq_3, zeq_4, zeq_5, zeq_6, zeq_7, zeq_8, zeq_13, zeq_14, zeq_20, zeq_32, zeq_59, zeq_60, zeq_80, zmul_2, zmul_4, zmul_6, zmul_8, zmul_10, zmul_24, zsub_1, zsub_2, zsub_10, zsub_48, zsub_97, zle_0, zle_1, zle_2, zle_6, zle_11, zle_200, zle_600, zle_100000000, ylt_0, ylt_1, ylt_2, ylt_3, ylt_6, ylt_9, ylt_20, ylt_24, ylt_57, ylt_60, ylt_99, ylt_120, ylt_122, ylt_999, ylt_9999, yle_0, yle_2, yle_4, yle_5, yle_6, yle_7, yle_8, yle_10, yle_12, yle_13, yle_15, yle_16, yle_20, yle_24, yle_40, yle_60, yle_64, yle_80, yadd_1, yadd_22, ymul_2, ymul_4, ymul_6, ymul_8, ymul_10, ymul_24, ymul_27, ymul_100, ysub_1, ysub_24, zdiv_2, zdiv_4, zdiv_24, k26]
    exact isI_i (MR_P h3)
theorem m_why {D : Nat} (hD : 11 ≤ D) (a o s : Nat) (ha : a < na) (ho : o < na) (hs : s < ns) (M : Mem) (hB : MB M T f As n nh ns nw na nd) : isI (EX L xs (D) q_X7_why [.inr (.inr (40, 0)), .inl (nI a), .inl (nI o), .inl (nI s)] M O) O (nI (cntF (fun y => decide (¬ srcF (perfL T f nd) (As a) n s y ≤ 0 ∧ srcF (perfL T f nd) (As o) n s y = 0)) n)) (MP M) := by
  obtain ⟨d, rfl⟩ : ∃ d, D = d + 2 := ⟨D - 2, by omega⟩
  refine isI_e (EX_in mi_X7_why rfl rfl rfl (ls := [some (.inr (.inr (40, 0))), some (.inl (nI a)), some (.inl (nI o)), some (.inl (nI s)), none, none]) rfl) ?_
  obtain ⟨M1, e1, fr1, hB1, t1⟩ := m_start hB
  have v4 : 8 ≤ n := hB1.1.2.2.2.2.1
  have v5 : n ≤ 40 := hB1.1.2.2.2.2.2.1
  have v6 : nh ≤ 8 := hB1.1.2.2.2.2.2.2.1
  have v7 : ns ≤ 6 := hB1.1.2.2.2.2.2.2.2.1
  have v8 : nw ≤ 8 := hB1.1.2.2.2.2.2.2.2.2.1
  have h6 : na ≤ 6 := hB1.2.2.2.2.2.1
  have z0 := hB1.2.1.1
  have z1 := hB1.2.1.2.1
  have z2 := hB1.2.1.2.2.1
  have z3 := hB1.2.1.2.2.2.1
  have z26 := hB1.2.2.2.2.1
  have b0 := fun w q => x7_bad_0 L xs O (D := d + 1) (by omega) w q M1 t1
  obtain ⟨M2, ql, h2⟩ := x7_laidR L xs O (D := d + 1) (by omega) hB fr1 hB1 t1
  have p1 := x7_isAir_i L xs O (D := d + 1) (by omega) (by omega) a M1 z26 ha
  have p2 := x7_isAir_i L xs O (D := d + 1) (by omega) (by omega) o M1 z26 ho
  have p3 := x7_isSource_i L xs O (D := d + 1) (by omega) (by omega) s M1 z2 hs
  obtain ⟨M3, q3, h3, -, l3⟩ := x7_ofR L xs O (D := d + 1) (by omega) a s ha hs M2 h2
  simp (disch := first | omega | rfl | decide) only [e_X7_why_0, e_X7_why_11, e_X7_why_30, e_X7_why_19, e_X7_why_35, e_X7_why_27, e_X7_why_40, e_X7_why_49, e_X7_why_55, e_X7_why_97, e_X7_why_103, e_X7_why_142, e_X7_why_143, xr_v, xr_n, hl_of, hl_cl, hl_toInt, hl_le, hl_lt, hl_eq, nI_add, hl_sub, pk_mul, hl_div, if_pos, if_neg, ↓reduceIte, Nat.reduceAdd, Nat.reduceSub, Nat.reduceMul, Nat.add_zero, Nat.zero_add, mp_s, mp_k, mp_i, mp_g, mr_s, mr_i, mr_g, zlt_0, zlt_1, zlt_2, zlt_3, zlt_4, zlt_5, zlt_6, zlt_8, zlt_12, zlt_15, zlt_20, zlt_24, zlt_36, zlt_40, zlt_48, zlt_80, zlt_97, zlt_120, zlt_256, zlt_600, zlt_99999999, zadd_1, zadd_2, zadd_5, zadd_6, zadd_8, zadd_20, zadd_24, zeq_0, zeq_1, zeq_2, zeq_3, zeq_4, zeq_5, zeq_6, zeq_7, zeq_8, zeq_13, zeq_14, zeq_20, zeq_32, zeq_59, zeq_60, zeq_80, zmul_2, zmul_4, zmul_6, zmul_8, zmul_10, zmul_24, zsub_1, zsub_2, zsub_10, zsub_48, zsub_97, zle_0, zle_1, zle_2, zle_6, zle_11, zle_200, zle_600, zle_100000000, ylt_0, ylt_1, ylt_2, ylt_3, ylt_6, ylt_9, ylt_20, ylt_24, ylt_57, ylt_60, ylt_99, ylt_120, ylt_122, ylt_999, ylt_9999, yle_0, yle_2, yle_4, yle_5, yle_6, yle_7, yle_8, yle_10, yle_12, yle_13, yle_15, yle_16, yle_20, yle_24, yle_40, yle_60, yle_64, yle_80, yadd_1, yadd_22, ymul_2, ymul_4, ymul_6, ymul_8, ymul_10, ymul_24, ymul_27, ymul_100, ysub_1, ysub_24, zdiv_2, zdiv_4, zdiv_24, e1, p1, p2, p3, b0, ql, q3]
  refine loopC L xs O (P := fun r => isI r O _ (MP M)) (fun j ls M' => ∃ u5, ls = [some (.inr (.inr (40, 0))), some (.inl (nI a)), some (.inl (nI o)), some (.inl (nI s)), some (.inl (nI j)), u5] ∧ MR T f As n nh ns nw na nd M M' ∧ (∀ y, y < n → M' 79 0 y = srcF (perfL T f nd) (As a) n s y) ∧ ∀ y, y < j → M' 81 0 y = srcF (perfL T f nd) (As a) n s y) n 300 (by omega) ?_ ?_ (Nat.le_of_lt (FU (by omega))) ⟨_, rfl, h3, l3, fun y hy => absurd hy (by omega)⟩
  · rintro fu k j _ M' hj ⟨u5, rfl, h3, l3, r3⟩ ih
    have k0 := h3.2.1.2.1.1
    have g79 := l3 j hj
    simp (disch := first | omega | rfl | decide) only [e_X7_why_0, e_X7_why_11, e_X7_why_30, e_X7_why_19, e_X7_why_35, e_X7_why_27, e_X7_why_40, e_X7_why_49, e_X7_why_55, e_X7_why_58, e_X7_why_97, e_X7_why_103, e_X7_why_142, e_X7_why_143, xr_v, xr_n, hl_of, hl_cl, hl_toInt, hl_le, hl_lt, hl_eq, nI_add, hl_sub, pk_mul, hl_div, if_pos, if_neg, ↓reduceIte, Nat.reduceAdd, Nat.reduceSub, Nat.reduceMul, Nat.add_zero, Nat.zero_add, mp_s, mp_k, mp_i, mp_g, mr_s, mr_i, mr_g, zlt_0, zlt_1, zlt_2, zlt_3, zlt_4, zlt_5, zlt_6, zlt_8, zlt_12, zlt_15, zlt_20, zlt_24, zlt_36, zlt_40, zlt_48, zlt_80, zlt_97, zlt_120, zlt_256, zlt_600, zlt_99999999, zadd_1, zadd_2, zadd_5, zadd_6, zadd_8, zadd_20, zadd_24, zeq_0, zeq_1, zeq_2, zeq_3, zeq_4, zeq_5, zeq_6, zeq_7, zeq_8, zeq_13, zeq_14, zeq_20, zeq_32, zeq_59, zeq_60, zeq_80, zmul_2, zmul_4, zmul_6, zmul_8, zmul_10, zmul_24, zsub_1, zsub_2, zsub_10, zsub_48, zsub_97, zle_0, zle_1, zle_2, zle_6, zle_11, zle_200, zle_600, zle_100000000, ylt_0, ylt_1, ylt_2, ylt_3, ylt_6, ylt_9, ylt_20, ylt_24, ylt_57, ylt_60, ylt_99, ylt_120, ylt_122, ylt_999, ylt_9999, yle_0, yle_2, yle_4, yle_5, yle_6, yle_7, yle_8, yle_10, yle_12, yle_13, yle_15, yle_16, yle_20, yle_24, yle_40, yle_60, yle_64, yle_80, yadd_1, yadd_22, ymul_2, ymul_4, ymul_6, ymul_8, ymul_10, ymul_24, ymul_27, ymul_100, ysub_1, ysub_24, zdiv_2, zdiv_4, zdiv_24, k0, g79]
    refine ih _ _ ⟨_, rfl, MR_q h3 (Fr_put Fr_refl rfl), fun y hy => ?_, fun y hy => ?_⟩
    · rw [mp_g (by omega)]
      exact l3 y hy
    · by_cases e : y = j
      · rw [e, mp_s]
      · rw [mp_k e]
        exact r3 y (by omega)
  · rintro fu k _ M' hf ⟨u5, rfl, h3, l3, r3⟩
    have hf' : 999999 ≤ fu + n := hf
    have k0 := h3.2.1.2.1.1
    obtain ⟨M4, q4, h4, f4, l4⟩ := x7_ofR L xs O (D := d + 1) (by omega) o s ho hs M' h3
    simp (disch := first | omega | rfl | decide) only [e_X7_why_0, e_X7_why_11, e_X7_why_30, e_X7_why_19, e_X7_why_35, e_X7_why_27, e_X7_why_40, e_X7_why_49, e_X7_why_55, e_X7_why_58, e_X7_why_97, e_X7_why_142, e_X7_why_143, xr_v, xr_n, hl_of, hl_cl, hl_toInt, hl_le, hl_lt, hl_eq, nI_add, hl_sub, pk_mul, hl_div, if_pos, if_neg, ↓reduceIte, Nat.reduceAdd, Nat.reduceSub, Nat.reduceMul, Nat.add_zero, Nat.zero_add, mp_s, mp_k, mp_i, mp_g, mr_s, mr_i, mr_g, zlt_0, zlt_1, zlt_2, zlt_3, zlt_4, zlt_5, zlt_6, zlt_8, zlt_12, zlt_15, zlt_20, zlt_24, zlt_36, zlt_40, zlt_48, zlt_80, zlt_97, zlt_120, zlt_256, zlt_600, zlt_99999999, zadd_1, zadd_2, zadd_5, zadd_6, zadd_8, zadd_20, zadd_24, zeq_0, zeq_1, zeq_2, zeq_3, zeq_4, zeq_5, zeq_6, zeq_7, zeq_8, zeq_13, zeq_14, zeq_20, zeq_32, zeq_59, zeq_60, zeq_80, zmul_2, zmul_4, zmul_6, zmul_8, zmul_10, zmul_24, zsub_1, zsub_2, zsub_10, zsub_48, zsub_97, zle_0, zle_1, zle_2, zle_6, zle_11, zle_200, zle_600, zle_100000000, ylt_0, ylt_1, ylt_2, ylt_3, ylt_6, ylt_9, ylt_20, ylt_24, ylt_57, ylt_60, ylt_99, ylt_120, ylt_122, ylt_999, ylt_9999, yle_0, yle_2, yle_4, yle_5, yle_6, yle_7, yle_8, yle_10, yle_12, yle_13, yle_15, yle_16, yle_20, yle_24, yle_40, yle_60, yle_64, yle_80, yadd_1, yadd_22, ymul_2, ymul_4, ymul_6, ymul_8, ymul_10, ymul_24, ymul_27, ymul_100, ysub_1, ysub_24, zdiv_2, zdiv_4, zdiv_24, k0, q4]
    refine loopA L xs O (P := fun r => isI r O _ (MP M)) (fun j ls M' => ∃ v, v = nI (cntF (fun y => decide (¬ srcF (perfL T f nd) (As a) n s y ≤ 0 ∧ srcF (perfL T f nd) (As o) n s y = 0)) j) ∧ ls = [some (.inr (.inr (40, 0))), some (.inl (nI a)), some (.inl (nI o)), some (.inl (nI s)), some (.inl (v)), some (.inl (nI j))] ∧ MR T f As n nh ns nw na nd M M' ∧ (∀ y, y < n → M' 79 0 y = srcF (perfL T f nd) (As o) n s y) ∧ ∀ y, y < n → M' 81 0 y = srcF (perfL T f nd) (As a) n s y) n 100 (by omega) ?_ ?_ (by omega) ⟨_, rfl, rfl, h4, l4, fun y hy => (f4 81 0 y rfl).trans (r3 y hy)⟩
    · rintro fu k j _ M' hj ⟨_, rfl, rfl, h3, l3, r3⟩ ih
      have k0 := h3.2.1.2.1.1
      have g79 := l3 j hj
      have g81 := r3 j hj
      by_cases c : srcF (perfL T f nd) (As a) n s j ≤ 0
      · simp (disch := first | omega | rfl | decide) only [e_X7_why_0, e_X7_why_11, e_X7_why_30, e_X7_why_19, e_X7_why_35, e_X7_why_27, e_X7_why_40, e_X7_why_49, e_X7_why_55, e_X7_why_58, e_X7_why_97, e_X7_why_103, e_X7_why_142, e_X7_why_143, xr_v, xr_n, hl_of, hl_cl, hl_toInt, hl_le, hl_lt, hl_eq, nI_add, hl_sub, pk_mul, hl_div, if_pos, if_neg, ↓reduceIte, Nat.reduceAdd, Nat.reduceSub, Nat.reduceMul, Nat.add_zero, Nat.zero_add, mp_s, mp_k, mp_i, mp_g, mr_s, mr_i, mr_g, zlt_0, zlt_1, zlt_2, zlt_3, zlt_4, zlt_5, zlt_6, zlt_8, zlt_12, zlt_15, zlt_20, zlt_24, zlt_36, zlt_40, zlt_48, zlt_80, zlt_97, zlt_120, zlt_256, zlt_600, zlt_99999999, zadd_1, zadd_2, zadd_5, zadd_6, zadd_8, zadd_20, zadd_24, zeq_0, zeq_1, zeq_2, zeq_3, zeq_4, zeq_5, zeq_6, zeq_7, zeq_8, zeq_13, zeq_14, zeq_20, zeq_32, zeq_59, zeq_60, zeq_80, zmul_2, zmul_4, zmul_6, zmul_8, zmul_10, zmul_24, zsub_1, zsub_2, zsub_10, zsub_48, zsub_97, zle_0, zle_1, zle_2, zle_6, zle_11, zle_200, zle_600, zle_100000000, ylt_0, ylt_1, ylt_2, ylt_3, ylt_6, ylt_9, ylt_20, ylt_24, ylt_57, ylt_60, ylt_99, ylt_120, ylt_122, ylt_999, ylt_9999, yle_0, yle_2, yle_4, yle_5, yle_6, yle_7, yle_8, yle_10, yle_12, yle_13, yle_15, yle_16, yle_20, yle_24, yle_40, yle_60, yle_64, yle_80, yadd_1, yadd_22, ymul_2, ymul_4, ymul_6, ymul_8, ymul_10, ymul_24, ymul_27, ymul_100, ysub_1, ysub_24, zdiv_2, zdiv_4, zdiv_24, k0, g79, g81, c, Int32.add_zero]
        exact ih _ _ ⟨_, cnt_fi (decide_eq_false (fun e => e.1 c)), rfl, h3, l3, r3⟩
      · by_cases c2 : srcF (perfL T f nd) (As o) n s j = 0
        · simp (disch := first | omega | rfl | decide) only [e_X7_why_0, e_X7_why_11, e_X7_why_30, e_X7_why_19, e_X7_why_35, e_X7_why_27, e_X7_why_40, e_X7_why_49, e_X7_why_55, e_X7_why_58, e_X7_why_97, e_X7_why_103, e_X7_why_142, e_X7_why_143, xr_v, xr_n, hl_of, hl_cl, hl_toInt, hl_le, hl_lt, hl_eq, nI_add, hl_sub, pk_mul, hl_div, if_pos, if_neg, ↓reduceIte, Nat.reduceAdd, Nat.reduceSub, Nat.reduceMul, Nat.add_zero, Nat.zero_add, mp_s, mp_k, mp_i, mp_g, mr_s, mr_i, mr_g, zlt_0, zlt_1, zlt_2, zlt_3, zlt_4, zlt_5, zlt_6, zlt_8, zlt_12, zlt_15, zlt_20, zlt_24, zlt_36, zlt_40, zlt_48, zlt_80, zlt_97, zlt_120, zlt_256, zlt_600, zlt_99999999, zadd_1, zadd_2, zadd_5, zadd_6, zadd_8, zadd_20, zadd_24, zeq_0, zeq_1, zeq_2, zeq_3, zeq_4, zeq_5, zeq_6, zeq_7, zeq_8, zeq_13, zeq_14, zeq_20, zeq_32, zeq_59, zeq_60, zeq_80, zmul_2, zmul_4, zmul_6, zmul_8, zmul_10, zmul_24, zsub_1, zsub_2, zsub_10, zsub_48, zsub_97, zle_0, zle_1, zle_2, zle_6, zle_11, zle_200, zle_600, zle_100000000, ylt_0, ylt_1, ylt_2, ylt_3, ylt_6, ylt_9, ylt_20, ylt_24, ylt_57, ylt_60, ylt_99, ylt_120, ylt_122, ylt_999, ylt_9999, yle_0, yle_2, yle_4, yle_5, yle_6, yle_7, yle_8, yle_10, yle_12, yle_13, yle_15, yle_16, yle_20, yle_24, yle_40, yle_60, yle_64, yle_80, yadd_1, yadd_22, ymul_2, ymul_4, ymul_6, ymul_8, ymul_10, ymul_24, ymul_27, ymul_100, ysub_1, ysub_24, zdiv_2, zdiv_4, zdiv_24, k0, g79, g81, c, c2]
          exact ih _ _ ⟨_, cnt_ti (decide_eq_true ⟨c, c2⟩), rfl, h3, l3, r3⟩
        · simp (disch := first | omega | rfl | decide) only [e_X7_why_0, e_X7_why_11, e_X7_why_30, e_X7_why_19, e_X7_why_35, e_X7_why_27, e_X7_why_40, e_X7_why_49, e_X7_why_55, e_X7_why_58, e_X7_why_97, e_X7_why_103, e_X7_why_142, e_X7_why_143, xr_v, xr_n, hl_of, hl_cl, hl_toInt, hl_le, hl_lt, hl_eq, nI_add, hl_sub, pk_mul, hl_div, if_pos, if_neg, ↓reduceIte, Nat.reduceAdd, Nat.reduceSub, Nat.reduceMul, Nat.add_zero, Nat.zero_add, mp_s, mp_k, mp_i, mp_g, mr_s, mr_i, mr_g, zlt_0, zlt_1, zlt_2, zlt_3, zlt_4, zlt_5, zlt_6, zlt_8, zlt_12, zlt_15, zlt_20, zlt_24, zlt_36, zlt_40, zlt_48, zlt_80, zlt_97, zlt_120, zlt_256, zlt_600, zlt_99999999, zadd_1, zadd_2, zadd_5, zadd_6, zadd_8, zadd_20, zadd_24, zeq_0, zeq_1, zeq_2, zeq_3, zeq_4, zeq_5, zeq_6, zeq_7, zeq_8, zeq_13, zeq_14, zeq_20, zeq_32, zeq_59, zeq_60, zeq_80, zmul_2, zmul_4, zmul_6, zmul_8, zmul_10, zmul_24, zsub_1, zsub_2, zsub_10, zsub_48, zsub_97, zle_0, zle_1, zle_2, zle_6, zle_11, zle_200, zle_600, zle_100000000, ylt_0, ylt_1, ylt_2, ylt_3, ylt_6, ylt_9, ylt_20, ylt_24, ylt_57, ylt_60, ylt_99, ylt_120, ylt_122, ylt_999, ylt_9999, yle_0, yle_2, yle_4, yle_5, yle_6, yle_7, yle_8, yle_10, yle_12, yle_13, yle_15, yle_16, yle_20, yle_24, yle_40, yle_60, yle_64, yle_80, yadd_1, yadd_22, ymul_2, ymul_4, ymul_6, ymul_8, ymul_10, ymul_24, ymul_27, ymul_100, ysub_1, ysub_24, zdiv_2, zdiv_4, zdiv_24, k0, g79, g81, c, c2, Int32.add_zero]
          exact ih _ _ ⟨_, cnt_fi (decide_eq_false (fun e => c2 e.2)), rfl, h3, l3, r3⟩
    · rintro fu k _ M' ⟨_, rfl, rfl, h3, l3, r3⟩
      have k0 := h3.2.1.2.1.1
      simp (disch := first | omega | rfl | decide) only [e_X7_why_0, e_X7_why_11, e_X7_why_30, e_X7_why_19, e_X7_why_35, e_X7_why_27, e_X7_why_40, e_X7_why_49, e_X7_why_55, e_X7_why_58, e_X7_why_97, e_X7_why_103, e_X7_why_142, e_X7_why_143, xr_v, xr_n, hl_of, hl_cl, hl_toInt, hl_le, hl_lt, hl_eq, nI_add, hl_sub, pk_mul, hl_div, if_pos, if_neg, ↓reduceIte, Nat.reduceAdd, Nat.reduceSub, Nat.reduceMul, Nat.add_zero, Nat.zero_add, mp_s, mp_k, mp_i, mp_g, mr_s, mr_i, mr_g, zlt_0, zlt_1, zlt_2, zlt_3, zlt_4, zlt_5, zlt_6, zlt_8, zlt_12, zlt_15, zlt_20, zlt_24, zlt_36, zlt_40, zlt_48, zlt_80, zlt_97, zlt_120, zlt_256, zlt_600, zlt_99999999, zadd_1, zadd_2, zadd_5, zadd_6, zadd_8, zadd_20, zadd_24, zeq_0, zeq_1, zeq_2, zeq_3, zeq_4, zeq_5, zeq_6, zeq_7, zeq_8, zeq_13, zeq_14, zeq_20, zeq_32, zeq_59, zeq_60, zeq_80, zmul_2, zmul_4, zmul_6, zmul_8, zmul_10, zmul_24, zsub_1, zsub_2, zsub_10, zsub_48, zsub_97, zle_0, zle_1, zle_2, zle_6, zle_11, zle_200, zle_600, zle_100000000, ylt_0, ylt_1, ylt_2, ylt_3, ylt_6, ylt_9, ylt_20, ylt_24, ylt_57, ylt_60, ylt_99, ylt_120, ylt_122, ylt_999, ylt_9999, yle_0, yle_2, yle_4, yle_5, yle_6, yle_7, yle_8, yle_10, yle_12, yle_13, yle_15, yle_16, yle_20, yle_24, yle_40, yle_60, yle_64, yle_80, yadd_1, yadd_22, ymul_2, ymul_4, ymul_6, ymul_8, ymul_10, ymul_24, ymul_27, ymul_100, ysub_1, ysub_24, zdiv_2, zdiv_4, zdiv_24, k0]
      exact isI_i (MR_P h3)
end
