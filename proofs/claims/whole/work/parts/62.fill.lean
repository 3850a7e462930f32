/-! Arrays.fill, by what it fills. -/
section
variable (L : Nat) (xs : Nat → Int32) (O : Int64)
theorem fill_l (d i0 : Nat) (a1 : Int32) (M0 : Mem) (Q : Mem → Prop) (hQ : ∀ M', Fr (sRow 22 i0) M0 M' → (∀ k, k < 8 → M' 22 i0 k = a1) → Q M') : ∀ r fuel k j M, j + r = 8 → r ≤ fuel → Fr (sRow 22 i0) M0 M → (∀ k, k < j → M 22 i0 k = a1) →
    isV (BK L xs (EX L xs (d + 1)) mi_J7_fill_53178 (RN L xs (d) mi_J7_fill_53178 fuel) (k + 60) 5 [some (.inr (.inr (22, i0))), some (.inl (a1)), some (.inl (nI j)), some (.inl (nI 8))] [] M O none 0 0) O Q := by
  intro r
  induction r with
  | zero =>
    intro fuel k j M hj hf fr h
    simp (disch := first | omega | rfl | decide) only [e_J7_fill_53178_0, e_J7_fill_53178_5, xr_v, xr_n, hl_of, hl_cl, hl_toInt, hl_le, hl_lt, hl_eq, nI_add, hl_sub, pk_mul, hl_div, if_pos, if_neg, ↓reduceIte, Nat.reduceAdd, Nat.reduceSub, Nat.reduceMul, Nat.add_zero, Nat.zero_add, mp_s, mp_k, mp_i, mp_g, mr_s, mr_i, mr_g, zlt_0, zlt_1, zlt_2, zlt_3, zlt_4, zlt_5, zlt_6, zlt_8, zlt_12, zlt_15, zlt_20, zlt_24, zlt_36, zlt_40, zlt_48, zlt_80, zlt_97, zlt_120, zlt_256, zlt_600, zlt_99999999, zadd_1, zadd_2, zadd_5, zadd_6, zadd_8, zadd_20, zadd_24, zeq_0, zeq_1, zeq_2, zeq_3, zeq_4, zeq_5, zeq_6, zeq_7, zeq_8, zeq_13, zeq_14, zeq_20, zeq_32, zeq_59, zeq_60, zeq_80, zmul_2, zmul_4, zmul_6, zmul_8, zmul_10, zmul_24, zsub_1, zsub_2, zsub_10, zsub_48, zsub_97, zle_0, zle_1, zle_2, zle_6, zle_11, zle_200, zle_600, zle_100000000, ylt_0, ylt_1, ylt_2, ylt_3, ylt_6, ylt_9, ylt_20, ylt_24, ylt_57, ylt_60, ylt_99, ylt_120, ylt_122, ylt_999, ylt_9999, yle_0, yle_2, yle_4, yle_5, yle_6, yle_7, yle_8, yle_10, yle_12, yle_13, yle_15, yle_16, yle_20, yle_24, yle_40, yle_60, yle_64, yle_80, yadd_1, yadd_22, ymul_2, ymul_4, ymul_6, ymul_8, ymul_10, ymul_24, ymul_27, ymul_100, ysub_1, ysub_24, zdiv_2, zdiv_4, zdiv_24]
    exact isV_i (hQ M fr (fun k hk => h k (by omega)))
  | succ r ih =>
    intro fuel k j M hj hf fr h
    obtain ⟨f, rfl⟩ : ∃ f, fuel = f + 1 := ⟨fuel - 1, by omega⟩
    simp (disch := first | omega | rfl | decide) only [e_J7_fill_53178_0, e_J7_fill_53178_5, xr_v, xr_n, hl_of, hl_cl, hl_toInt, hl_le, hl_lt, hl_eq, nI_add, hl_sub, pk_mul, hl_div, if_pos, if_neg, ↓reduceIte, Nat.reduceAdd, Nat.reduceSub, Nat.reduceMul, Nat.add_zero, Nat.zero_add, mp_s, mp_k, mp_i, mp_g, mr_s, mr_i, mr_g, zlt_0, zlt_1, zlt_2, zlt_3, zlt_4, zlt_5, zlt_6, zlt_8, zlt_12, zlt_15, zlt_20, zlt_24, zlt_36, zlt_40, zlt_48, zlt_80, zlt_97, zlt_120, zlt_256, zlt_600, zlt_99999999, zadd_1, zadd_2, zadd_5, zadd_6, zadd_8, zadd_20, zadd_24, zeq_0, zeq_1, zeq_2, zeq_3, zeq_4, zeq_5, zeq_6, zeq_7, zeq_8, zeq_13, zeq_14, zeq_20, zeq_32, zeq_59, zeq_60, zeq_80, zmul_2, zmul_4, zmul_6, zmul_8, zmul_10, zmul_24, zsub_1, zsub_2, zsub_10, zsub_48, zsub_97, zle_0, zle_1, zle_2, zle_6, zle_11, zle_200, zle_600, zle_100000000, ylt_0, ylt_1, ylt_2, ylt_3, ylt_6, ylt_9, ylt_20, ylt_24, ylt_57, ylt_60, ylt_99, ylt_120, ylt_122, ylt_999, ylt_9999, yle_0, yle_2, yle_4, yle_5, yle_6, yle_7, yle_8, yle_10, yle_12, yle_13, yle_15, yle_16, yle_20, yle_24, yle_40, yle_60, yle_64, yle_80, yadd_1, yadd_22, ymul_2, ymul_4, ymul_6, ymul_8, ymul_10, ymul_24, ymul_27, ymul_100, ysub_1, ysub_24, zdiv_2, zdiv_4, zdiv_24]
    refine isV_e (RN_s _ _ _ _ _ _ _ _ _ _ _ _) ?_
    refine ih f 2940 (j + 1) _ (by omega) (by omega) (Fr_put fr (sRow_s _ _ _)) ?_
    intro k' hk'
    by_cases e : k' = j
    · rw [e, mp_s]
    · rw [mp_k e]
      exact h k' (by omega)
theorem x_fill {D : Nat} (hD : 2 ≤ D) (i0 : Nat) (a1 : Int32) (M : Mem) : isV (EX L xs (D) q_J7_fill_53178 [.inr (.inr (22, i0)), .inl (a1)] M O) O (fun M' => Fr (sRow 22 i0) M M' ∧ ∀ k, k < 8 → M' 22 i0 k = a1) := by
  obtain ⟨d, rfl⟩ : ∃ d, D = d + 2 := ⟨D - 2, by omega⟩
  refine isV_e (EX_in mi_J7_fill_53178 rfl rfl rfl (ls := [some (.inr (.inr (22, i0))), some (.inl (a1)), none, none]) rfl) ?_
  rw [e_J7_fill_53178_0]
  exact fill_l L xs O d i0 a1 M _ (fun M' a b => ⟨a, b⟩) 8 FUEL 2935 0 M (by omega) (Nat.le_of_lt (FU (by omega))) Fr_refl (fun k hk => absurd hk (by omega))
theorem fill_l2 (d i0 : Nat) (a1 : Int32) (M0 : Mem) (Q : Mem → Prop) (hQ : ∀ M', Fr (sRow 4 i0) M0 M' → (∀ k, k < 40 → M' 4 i0 k = a1) → Q M') : ∀ r fuel k j M, j + r = 40 → r ≤ fuel → Fr (sRow 4 i0) M0 M → (∀ k, k < j → M 4 i0 k = a1) →
    isV (BK L xs (EX L xs (d + 1)) mi_J7_fill_53178 (RN L xs (d) mi_J7_fill_53178 fuel) (k + 60) 5 [some (.inr (.inr (4, i0))), some (.inl (a1)), some (.inl (nI j)), some (.inl (nI 40))] [] M O none 0 0) O Q := by
  intro r
  induction r with
  | zero =>
    intro fuel k j M hj hf fr h
    simp (disch := first | omega | rfl | decide) only [e2_J7_fill_53178_0, e2_J7_fill_53178_5, xr_v, xr_n, hl_of, hl_cl, hl_toInt, hl_le, hl_lt, hl_eq, nI_add, hl_sub, pk_mul, hl_div, if_pos, if_neg, ↓reduceIte, Nat.reduceAdd, Nat.reduceSub, Nat.reduceMul, Nat.add_zero, Nat.zero_add, mp_s, mp_k, mp_i, mp_g, mr_s, mr_i, mr_g, zlt_0, zlt_1, zlt_2, zlt_3, zlt_4, zlt_5, zlt_6, zlt_8, zlt_12, zlt_15, zlt_20, zlt_24, zlt_36, zlt_40, zlt_48, zlt_80, zlt_97, zlt_120, zlt_256, zlt_600, zlt_99999999, zadd_1, zadd_2, zadd_5, zadd_6, zadd_8, zadd_20, zadd_24, zeq_0, zeq_1, zeq_2, zeq_3, zeq_4, zeq_5, zeq_6, zeq_7, zeq_8, zeq_13, zeq_14, zeq_20, zeq_32, zeq_59, zeq_60, zeq_80, zmul_2, zmul_4, zmul_6, zmul_8, zmul_10, zmul_24, zsub_1, zsub_2, zsub_10, zsub_48, zsub_97, zle_0, zle_1, zle_2, zle_6, zle_11, zle_200, zle_600, zle_100000000, ylt_0, ylt_1, ylt_2, ylt_3, ylt_6, ylt_9, ylt_20, ylt_24, ylt_57, ylt_60, ylt_99, ylt_120, ylt_122, ylt_999, ylt_9999, yle_0, yle_2, yle_4, yle_5, yle_6, yle_7, yle_8, yle_10, yle_12, yle_13, yle_15, yle_16, yle_20, yle_24, yle_40, yle_60, yle_64, yle_80, yadd_1, yadd_22, ymul_2, ymul_4, ymul_6, ymul_8, ymul_10, ymul_24, ymul_27, ymul_100, ysub_1, ysub_24, zdiv_2, zdiv_4, zdiv_24]
    exact isV_i (hQ M fr (fun k hk => h k (by omega)))
  | succ r ih =>
    intro fuel k j M hj hf fr h
    obtain ⟨f, rfl⟩ : ∃ f, fuel = f + 1 := ⟨fuel - 1, by omega⟩
    simp (disch := first | omega | rfl | decide) only [e2_J7_fill_53178_0, e2_J7_fill_53178_5, xr_v, xr_n, hl_of, hl_cl, hl_toInt, hl_le, hl_lt, hl_eq, nI_add, hl_sub, pk_mul, hl_div, if_pos, if_neg, ↓reduceIte, Nat.reduceAdd, Nat.reduceSub, Nat.reduceMul, Nat.add_zero, Nat.zero_add, mp_s, mp_k, mp_i, mp_g, mr_s, mr_i, mr_g, zlt_0, zlt_1, zlt_2, zlt_3, zlt_4, zlt_5, zlt_6, zlt_8, zlt_12, zlt_15, zlt_20, zlt_24, zlt_36, zlt_40, zlt_48, zlt_80, zlt_97, zlt_120, zlt_256, zlt_600, zlt_99999999, zadd_1, zadd_2, zadd_5, zadd_6, zadd_8, zadd_20, zadd_24, zeq_0, zeq_1, zeq_2, zeq_3, zeq_4, zeq_5, zeq_6, zeq_7, zeq_8, zeq_13, zeq_14, zeq_20, zeq_32, zeq_59, zeq_60, zeq_80, zmul_2, zmul_4, zmul_6, zmul_8, zmul_10, zmul_24, zsub_1, zsub_2, zsub_10, zsub_48, zsub_97, zle_0, zle_1, zle_2, zle_6, zle_11, zle_200, zle_600, zle_100000000, ylt_0, ylt_1, ylt_2, ylt_3, ylt_6, ylt_9, ylt_20, ylt_24, ylt_57, ylt_60, ylt_99, ylt_120, ylt_122, ylt_999, ylt_9999, yle_0, yle_2, yle_4, yle_5, yle_6, yle_7, yle_8, yle_10, yle_12, yle_13, yle_15, yle_16, yle_20, yle_24, yle_40, yle_60, yle_64, yle_80, yadd_1, yadd_22, ymul_2, ymul_4, ymul_6, ymul_8, ymul_10, ymul_24, ymul_27, ymul_100, ysub_1, ysub_24, zdiv_2, zdiv_4, zdiv_24]
    refine isV_e (RN_s _ _ _ _ _ _ _ _ _ _ _ _) ?_
    refine ih f 2940 (j + 1) _ (by omega) (by omega) (Fr_put fr (sRow_s _ _ _)) ?_
    intro k' hk'
    by_cases e : k' = j
    · rw [e, mp_s]
    · rw [mp_k e]
      exact h k' (by omega)
theorem x_fill2 {D : Nat} (hD : 2 ≤ D) (i0 : Nat) (a1 : Int32) (M : Mem) : isV (EX L xs (D) q_J7_fill_53178 [.inr (.inr (4, i0)), .inl (a1)] M O) O (fun M' => Fr (sRow 4 i0) M M' ∧ ∀ k, k < 40 → M' 4 i0 k = a1) := by
  obtain ⟨d, rfl⟩ : ∃ d, D = d + 2 := ⟨D - 2, by omega⟩
  refine isV_e (EX_in mi_J7_fill_53178 rfl rfl rfl (ls := [some (.inr (.inr (4, i0))), some (.inl (a1)), none, none]) rfl) ?_
  rw [e2_J7_fill_53178_0]
  exact fill_l2 L xs O d i0 a1 M _ (fun M' a b => ⟨a, b⟩) 40 FUEL 2935 0 M (by omega) (Nat.le_of_lt (FU (by omega))) Fr_refl (fun k hk => absurd hk (by omega))
theorem fill_l3 (d i0 : Nat) (a1 : Int32) (M0 : Mem) (Q : Mem → Prop) (hQ : ∀ M', Fr (sRow 5 i0) M0 M' → (∀ k, k < 40 → M' 5 i0 k = a1) → Q M') : ∀ r fuel k j M, j + r = 40 → r ≤ fuel → Fr (sRow 5 i0) M0 M → (∀ k, k < j → M 5 i0 k = a1) →
    isV (BK L xs (EX L xs (d + 1)) mi_J7_fill_53178 (RN L xs (d) mi_J7_fill_53178 fuel) (k + 60) 5 [some (.inr (.inr (5, i0))), some (.inl (a1)), some (.inl (nI j)), some (.inl (nI 40))] [] M O none 0 0) O Q := by
  intro r
  induction r with
  | zero =>
    intro fuel k j M hj hf fr h
    simp (disch := first | omega | rfl | decide) only [e3_J7_fill_53178_0, e3_J7_fill_53178_5, xr_v, xr_n, hl_of, hl_cl, hl_toInt, hl_le, hl_lt, hl_eq, nI_add, hl_sub, pk_mul, hl_div, if_pos, if_neg, ↓reduceIte, Nat.reduceAdd, Nat.reduceSub, Nat.reduceMul, Nat.add_zero, Nat.zero_add, mp_s, mp_k, mp_i, mp_g, mr_s, mr_i, mr_g, zlt_0, zlt_1, zlt_2, zlt_3, zlt_4, zlt_5, zlt_6, zlt_8, zlt_12, zlt_15, zlt_20, zlt_24, zlt_36, zlt_40, zlt_48, zlt_80, zlt_97, zlt_120, zlt_256, zlt_600, zlt_99999999, zadd_1, zadd_2, zadd_5, zadd_6, zadd_8, zadd_20, zadd_24, zeq_0, zeq_1, zeq_2, zeq_3, zeq_4, zeq_5, zeq_6, zeq_7, zeq_8, zeq_13, zeq_14, zeq_20, zeq_32, zeq_59, zeq_60, zeq_80, zmul_2, zmul_4, zmul_6, zmul_8, zmul_10, zmul_24, zsub_1, zsub_2, zsub_10, zsub_48, zsub_97, zle_0, zle_1, zle_2, zle_6, zle_11, zle_200, zle_600, zle_100000000, ylt_0, ylt_1, ylt_2, ylt_3, ylt_6, ylt_9, ylt_20, ylt_24, ylt_57, ylt_60, ylt_99, ylt_120, ylt_122, ylt_999, ylt_9999, yle_0, yle_2, yle_4, yle_5, yle_6, yle_7, yle_8, yle_10, yle_12, yle_13, yle_15, yle_16, yle_20, yle_24, yle_40, yle_60, yle_64, yle_80, yadd_1, yadd_22, ymul_2, ymul_4, ymul_6, ymul_8, ymul_10, ymul_24, ymul_27, ymul_100, ysub_1, ysub_24, zdiv_2, zdiv_4, zdiv_24]
    exact isV_i (hQ M fr (fun k hk => h k (by omega)))
  | succ r ih =>
    intro fuel k j M hj hf fr h
    obtain ⟨f, rfl⟩ : ∃ f, fuel = f + 1 := ⟨fuel - 1, by omega⟩
    simp (disch := first | omega | rfl | decide) only [e3_J7_fill_53178_0, e3_J7_fill_53178_5, xr_v, xr_n, hl_of, hl_cl, hl_toInt, hl_le, hl_lt, hl_eq, nI_add, hl_sub, pk_mul, hl_div, if_pos, if_neg, ↓reduceIte, Nat.reduceAdd, Nat.reduceSub, Nat.reduceMul, Nat.add_zero, Nat.zero_add, mp_s, mp_k, mp_i, mp_g, mr_s, mr_i, mr_g, zlt_0, zlt_1, zlt_2, zlt_3, zlt_4, zlt_5, zlt_6, zlt_8, zlt_12, zlt_15, zlt_20, zlt_24, zlt_36, zlt_40, zlt_48, zlt_80, zlt_97, zlt_120, zlt_256, zlt_600, zlt_99999999, zadd_1, zadd_2, zadd_5, zadd_6, zadd_8, zadd_20, zadd_24, zeq_0, zeq_1, zeq_2, zeq_3, zeq_4, zeq_5, zeq_6, zeq_7, zeq_8, zeq_13, zeq_14, zeq_20, zeq_32, zeq_59, zeq_60, zeq_80, zmul_2, zmul_4, zmul_6, zmul_8, zmul_10, zmul_24, zsub_1, zsub_2, zsub_10, zsub_48, zsub_97, zle_0, zle_1, zle_2, zle_6, zle_11, zle_200, zle_600, zle_100000000, ylt_0, ylt_1, ylt_2, ylt_3, ylt_6, ylt_9, ylt_20, ylt_24, ylt_57, ylt_60, ylt_99, ylt_120, ylt_122, ylt_999, ylt_9999, yle_0, yle_2, yle_4, yle_5, yle_6, yle_7, yle_8, yle_10, yle_12, yle_13, yle_15, yle_16, yle_20, yle_24, yle_40, yle_60, yle_64, yle_80, yadd_1, yadd_22, ymul_2, ymul_4, ymul_6, ymul_8, ymul_10, ymul_24, ymul_27, ymul_100, ysub_1, ysub_24, zdiv_2, zdiv_4, zdiv_24]
    refine isV_e (RN_s _ _ _ _ _ _ _ _ _ _ _ _) ?_
    refine ih f 2940 (j + 1) _ (by omega) (by omega) (Fr_put fr (sRow_s _ _ _)) ?_
    intro k' hk'
    by_cases e : k' = j
    · rw [e, mp_s]
    · rw [mp_k e]
      exact h k' (by omega)
theorem x_fill3 {D : Nat} (hD : 2 ≤ D) (i0 : Nat) (a1 : Int32) (M : Mem) : isV (EX L xs (D) q_J7_fill_53178 [.inr (.inr (5, i0)), .inl (a1)] M O) O (fun M' => Fr (sRow 5 i0) M M' ∧ ∀ k, k < 40 → M' 5 i0 k = a1) := by
  obtain ⟨d, rfl⟩ : ∃ d, D = d + 2 := ⟨D - 2, by omega⟩
  refine isV_e (EX_in mi_J7_fill_53178 rfl rfl rfl (ls := [some (.inr (.inr (5, i0))), some (.inl (a1)), none, none]) rfl) ?_
  rw [e3_J7_fill_53178_0]
  exact fill_l3 L xs O d i0 a1 M _ (fun M' a b => ⟨a, b⟩) 40 FUEL 2935 0 M (by omega) (Nat.le_of_lt (FU (by omega))) Fr_refl (fun k hk => absurd hk (by omega))
theorem fill_l4 (d i0 : Nat) (a1 : Int32) (M0 : Mem) (Q : Mem → Prop) (hQ : ∀ M', Fr (sRow 6 i0) M0 M' → (∀ k, k < 40 → M' 6 i0 k = a1) → Q M') : ∀ r fuel k j M, j + r = 40 → r ≤ fuel → Fr (sRow 6 i0) M0 M → (∀ k, k < j → M 6 i0 k = a1) →
    isV (BK L xs (EX L xs (d + 1)) mi_J7_fill_53178 (RN L xs (d) mi_J7_fill_53178 fuel) (k + 60) 5 [some (.inr (.inr (6, i0))), some (.inl (a1)), some (.inl (nI j)), some (.inl (nI 40))] [] M O none 0 0) O Q := by
  intro r
  induction r with
  | zero =>
    intro fuel k j M hj hf fr h
    simp (disch := first | omega | rfl | decide) only [e4_J7_fill_53178_0, e4_J7_fill_53178_5, xr_v, xr_n, hl_of, hl_cl, hl_toInt, hl_le, hl_lt, hl_eq, nI_add, hl_sub, pk_mul, hl_div, if_pos, if_neg, ↓reduceIte, Nat.reduceAdd, Nat.reduceSub, Nat.reduceMul, Nat.add_zero, Nat.zero_add, mp_s, mp_k, mp_i, mp_g, mr_s, mr_i, mr_g, zlt_0, zlt_1, zlt_2, zlt_3, zlt_4, zlt_5, zlt_6, zlt_8, zlt_12, zlt_15, zlt_20, zlt_24, zlt_36, zlt_40, zlt_48, zlt_80, zlt_97, zlt_120, zlt_256, zlt_600, zlt_99999999, zadd_1, zadd_2, zadd_5, zadd_6, zadd_8, zadd_20, zadd_24, zeq_0, zeq_1, zeq_2, zeq_3, zeq_4, zeq_5, zeq_6, zeq_7, zeq_8, zeq_13, zeq_14, zeq_20, zeq_32, zeq_59, zeq_60, zeq_80, zmul_2, zmul_4, zmul_6, zmul_8, zmul_10, zmul_24, zsub_1, zsub_2, zsub_10, zsub_48, zsub_97, zle_0, zle_1, zle_2, zle_6, zle_11, zle_200, zle_600, zle_100000000, ylt_0, ylt_1, ylt_2, ylt_3, ylt_6, ylt_9, ylt_20, ylt_24, ylt_57, ylt_60, ylt_99, ylt_120, ylt_122, ylt_999, ylt_9999, yle_0, yle_2, yle_4, yle_5, yle_6, yle_7, yle_8, yle_10, yle_12, yle_13, yle_15, yle_16, yle_20, yle_24, yle_40, yle_60, yle_64, yle_80, yadd_1, yadd_22, ymul_2, ymul_4, ymul_6, ymul_8, ymul_10, ymul_24, ymul_27, ymul_100, ysub_1, ysub_24, zdiv_2, zdiv_4, zdiv_24]
    exact isV_i (hQ M fr (fun k hk => h k (by omega)))
  | succ r ih =>
    intro fuel k j M hj hf fr h
    obtain ⟨f, rfl⟩ : ∃ f, fuel = f + 1 := ⟨fuel - 1, by omega⟩
    simp (disch := first | omega | rfl | decide) only [e4_J7_fill_53178_0, e4_J7_fill_53178_5, xr_v, xr_n, hl_of, hl_cl, hl_toInt, hl_le, hl_lt, hl_eq, nI_add, hl_sub, pk_mul, hl_div, if_pos, if_neg, ↓reduceIte, Nat.reduceAdd, Nat.reduceSub, Nat.reduceMul, Nat.add_zero, Nat.zero_add, mp_s, mp_k, mp_i, mp_g, mr_s, mr_i, mr_g, zlt_0, zlt_1, zlt_2, zlt_3, zlt_4, zlt_5, zlt_6, zlt_8, zlt_12, zlt_15, zlt_20, zlt_24, zlt_36, zlt_40, zlt_48, zlt_80, zlt_97, zlt_120, zlt_256, zlt_600, zlt_99999999, zadd_1, zadd_2, zadd_5, zadd_6, zadd_8, zadd_20, zadd_24, zeq_0, zeq_1, zeq_2, zeq_3, zeq_4, zeq_5, zeq_6, zeq_7, zeq_8, zeq_13, zeq_14, zeq_20, zeq_32, zeq_59, zeq_60, zeq_80, zmul_2, zmul_4, zmul_6, zmul_8, zmul_10, zmul_24, zsub_1, zsub_2, zsub_10, zsub_48, zsub_97, zle_0, zle_1, zle_2, zle_6, zle_11, zle_200, zle_600, zle_100000000, ylt_0, ylt_1, ylt_2, ylt_3, ylt_6, ylt_9, ylt_20, ylt_24, ylt_57, ylt_60, ylt_99, ylt_120, ylt_122, ylt_999, ylt_9999, yle_0, yle_2, yle_4, yle_5, yle_6, yle_7, yle_8, yle_10, yle_12, yle_13, yle_15, yle_16, yle_20, yle_24, yle_40, yle_60, yle_64, yle_80, yadd_1, yadd_22, ymul_2, ymul_4, ymul_6, ymul_8, ymul_10, ymul_24, ymul_27, ymul_100, ysub_1, ysub_24, zdiv_2, zdiv_4, zdiv_24]
    refine isV_e (RN_s _ _ _ _ _ _ _ _ _ _ _ _) ?_
    refine ih f 2940 (j + 1) _ (by omega) (by omega) (Fr_put fr (sRow_s _ _ _)) ?_
    intro k' hk'
    by_cases e : k' = j
    · rw [e, mp_s]
    · rw [mp_k e]
      exact h k' (by omega)
theorem x_fill4 {D : Nat} (hD : 2 ≤ D) (i0 : Nat) (a1 : Int32) (M : Mem) : isV (EX L xs (D) q_J7_fill_53178 [.inr (.inr (6, i0)), .inl (a1)] M O) O (fun M' => Fr (sRow 6 i0) M M' ∧ ∀ k, k < 40 → M' 6 i0 k = a1) := by
  obtain ⟨d, rfl⟩ : ∃ d, D = d + 2 := ⟨D - 2, by omega⟩
  refine isV_e (EX_in mi_J7_fill_53178 rfl rfl rfl (ls := [some (.inr (.inr (6, i0))), some (.inl (a1)), none, none]) rfl) ?_
  rw [e4_J7_fill_53178_0]
  exact fill_l4 L xs O d i0 a1 M _ (fun M' a b => ⟨a, b⟩) 40 FUEL 2935 0 M (by omega) (Nat.le_of_lt (FU (by omega))) Fr_refl (fun k hk => absurd hk (by omega))
theorem fill_l5 (d i0 : Nat) (a1 : Int32) (M0 : Mem) (Q : Mem → Prop) (hQ : ∀ M', Fr (sRow 9 i0) M0 M' → (∀ k, k < 24 → M' 9 i0 k = a1) → Q M') : ∀ r fuel k j M, j + r = 24 → r ≤ fuel → Fr (sRow 9 i0) M0 M → (∀ k, k < j → M 9 i0 k = a1) →
    isV (BK L xs (EX L xs (d + 1)) mi_J7_fill_53178 (RN L xs (d) mi_J7_fill_53178 fuel) (k + 60) 5 [some (.inr (.inr (9, i0))), some (.inl (a1)), some (.inl (nI j)), some (.inl (nI 24))] [] M O none 0 0) O Q := by
  intro r
  induction r with
  | zero =>
    intro fuel k j M hj hf fr h
    simp (disch := first | omega | rfl | decide) only [e5_J7_fill_53178_0, e5_J7_fill_53178_5, xr_v, xr_n, hl_of, hl_cl, hl_toInt, hl_le, hl_lt, hl_eq, nI_add, hl_sub, pk_mul, hl_div, if_pos, if_neg, ↓reduceIte, Nat.reduceAdd, Nat.reduceSub, Nat.reduceMul, Nat.add_zero, Nat.zero_add, mp_s, mp_k, mp_i, mp_g, mr_s, mr_i, mr_g, zlt_0, zlt_1, zlt_2, zlt_3, zlt_4, zlt_5, zlt_6, zlt_8, zlt_12, zlt_15, zlt_20, zlt_24, zlt_36, zlt_40, zlt_48, zlt_80, zlt_97, zlt_120, zlt_256, zlt_600, zlt_99999999, zadd_1, zadd_2, zadd_5, zadd_6, zadd_8, zadd_20, zadd_24, zeq_0, zeq_1, zeq_2, zeq_3, zeq_4, zeq_5, zeq_6, zeq_7, zeq_8, zeq_13, zeq_14, zeq_20, zeq_32, zeq_59, zeq_60, zeq_80, zmul_2, zmul_4, zmul_6, zmul_8, zmul_10, zmul_24, zsub_1, zsub_2, zsub_10, zsub_48, zsub_97, zle_0, zle_1, zle_2, zle_6, zle_11, zle_200, zle_600, zle_100000000, ylt_0, ylt_1, ylt_2, ylt_3, ylt_6, ylt_9, ylt_20, ylt_24, ylt_57, ylt_60, ylt_99, ylt_120, ylt_122, ylt_999, ylt_9999, yle_0, yle_2, yle_4, yle_5, yle_6, yle_7, yle_8, yle_10, yle_12, yle_13, yle_15, yle_16, yle_20, yle_24, yle_40, yle_60, yle_64, yle_80, yadd_1, yadd_22, ymul_2, ymul_4, ymul_6, ymul_8, ymul_10, ymul_24, ymul_27, ymul_100, ysub_1, ysub_24, zdiv_2, zdiv_4, zdiv_24]
    exact isV_i (hQ M fr (fun k hk => h k (by omega)))
  | succ r ih =>
    intro fuel k j M hj hf fr h
    obtain ⟨f, rfl⟩ : ∃ f, fuel = f + 1 := ⟨fuel - 1, by omega⟩
    simp (disch := first | omega | rfl | decide) only [e5_J7_fill_53178_0, e5_J7_fill_53178_5, xr_v, xr_n, hl_of, hl_cl, hl_toInt, hl_le, hl_lt, hl_eq, nI_add, hl_sub, pk_mul, hl_div, if_pos, if_neg, ↓reduceIte, Nat.reduceAdd, Nat.reduceSub, Nat.reduceMul, Nat.add_zero, Nat.zero_add, mp_s, mp_k, mp_i, mp_g, mr_s, mr_i, mr_g, zlt_0, zlt_1, zlt_2, zlt_3, zlt_4, zlt_5, zlt_6, zlt_8, zlt_12, zlt_15, zlt_20, zlt_24, zlt_36, zlt_40, zlt_48, zlt_80, zlt_97, zlt_120, zlt_256, zlt_600, zlt_99999999, zadd_1, zadd_2, zadd_5, zadd_6, zadd_8, zadd_20, zadd_24, zeq_0, zeq_1, zeq_2, zeq_3, zeq_4, zeq_5, zeq_6, zeq_7, zeq_8, zeq_13, zeq_14, zeq_20, zeq_32, zeq_59, zeq_60, zeq_80, zmul_2, zmul_4, zmul_6, zmul_8, zmul_10, zmul_24, zsub_1, zsub_2, zsub_10, zsub_48, zsub_97, zle_0, zle_1, zle_2, zle_6, zle_11, zle_200, zle_600, zle_100000000, ylt_0, ylt_1, ylt_2, ylt_3, ylt_6, ylt_9, ylt_20, ylt_24, ylt_57, ylt_60, ylt_99, ylt_120, ylt_122, ylt_999, ylt_9999, yle_0, yle_2, yle_4, yle_5, yle_6, yle_7, yle_8, yle_10, yle_12, yle_13, yle_15, yle_16, yle_20, yle_24, yle_40, yle_60, yle_64, yle_80, yadd_1, yadd_22, ymul_2, ymul_4, ymul_6, ymul_8, ymul_10, ymul_24, ymul_27, ymul_100, ysub_1, ysub_24, zdiv_2, zdiv_4, zdiv_24]
    refine isV_e (RN_s _ _ _ _ _ _ _ _ _ _ _ _) ?_
    refine ih f 2940 (j + 1) _ (by omega) (by omega) (Fr_put fr (sRow_s _ _ _)) ?_
    intro k' hk'
    by_cases e : k' = j
    · rw [e, mp_s]
    · rw [mp_k e]
      exact h k' (by omega)
theorem x_fill5 {D : Nat} (hD : 2 ≤ D) (i0 : Nat) (a1 : Int32) (M : Mem) : isV (EX L xs (D) q_J7_fill_53178 [.inr (.inr (9, i0)), .inl (a1)] M O) O (fun M' => Fr (sRow 9 i0) M M' ∧ ∀ k, k < 24 → M' 9 i0 k = a1) := by
  obtain ⟨d, rfl⟩ : ∃ d, D = d + 2 := ⟨D - 2, by omega⟩
  refine isV_e (EX_in mi_J7_fill_53178 rfl rfl rfl (ls := [some (.inr (.inr (9, i0))), some (.inl (a1)), none, none]) rfl) ?_
  rw [e5_J7_fill_53178_0]
  exact fill_l5 L xs O d i0 a1 M _ (fun M' a b => ⟨a, b⟩) 24 FUEL 2935 0 M (by omega) (Nat.le_of_lt (FU (by omega))) Fr_refl (fun k hk => absurd hk (by omega))
theorem fill_l6 (d i0 : Nat) (a1 : Int32) (M0 : Mem) (Q : Mem → Prop) (hQ : ∀ M', Fr (sRow 19 i0) M0 M' → (∀ k, k < 12 → M' 19 i0 k = a1) → Q M') : ∀ r fuel k j M, j + r = 12 → r ≤ fuel → Fr (sRow 19 i0) M0 M → (∀ k, k < j → M 19 i0 k = a1) →
    isV (BK L xs (EX L xs (d + 1)) mi_J7_fill_53178 (RN L xs (d) mi_J7_fill_53178 fuel) (k + 60) 5 [some (.inr (.inr (19, i0))), some (.inl (a1)), some (.inl (nI j)), some (.inl (nI 12))] [] M O none 0 0) O Q := by
  intro r
  induction r with
  | zero =>
    intro fuel k j M hj hf fr h
    simp (disch := first | omega | rfl | decide) only [e6_J7_fill_53178_0, e6_J7_fill_53178_5, xr_v, xr_n, hl_of, hl_cl, hl_toInt, hl_le, hl_lt, hl_eq, nI_add, hl_sub, pk_mul, hl_div, if_pos, if_neg, ↓reduceIte, Nat.reduceAdd, Nat.reduceSub, Nat.reduceMul, Nat.add_zero, Nat.zero_add, mp_s, mp_k, mp_i, mp_g, mr_s, mr_i, mr_g, zlt_0, zlt_1, zlt_2, zlt_3, zlt_4, zlt_5, zlt_6, zlt_8, zlt_12, zlt_15, zlt_20, zlt_24, zlt_36, zlt_40, zlt_48, zlt_80, zlt_97, zlt_120, zlt_256, zlt_600, zlt_99999999, zadd_1, zadd_2, zadd_5, zadd_6, zadd_8, zadd_20, zadd_24, zeq_0, zeq_1, zeq_2, zeq_3, zeq_4, zeq_5, zeq_6, zeq_7, zeq_8, zeq_13, zeq_14, zeq_20, zeq_32, zeq_59, zeq_60, zeq_80, zmul_2, zmul_4, zmul_6, zmul_8, zmul_10, zmul_24, zsub_1, zsub_2, zsub_10, zsub_48, zsub_97, zle_0, zle_1, zle_2, zle_6, zle_11, zle_200, zle_600, zle_100000000, ylt_0, ylt_1, ylt_2, ylt_3, ylt_6, ylt_9, ylt_20, ylt_24, ylt_57, ylt_60, ylt_99, ylt_120, ylt_122, ylt_999, ylt_9999, yle_0, yle_2, yle_4, yle_5, yle_6, yle_7, yle_8, yle_10, yle_12, yle_13, yle_15, yle_16, yle_20, yle_24, yle_40, yle_60, yle_64, yle_80, yadd_1, yadd_22, ymul_2, ymul_4, ymul_6, ymul_8, ymul_10, ymul_24, ymul_27, ymul_100, ysub_1, ysub_24, zdiv_2, zdiv_4, zdiv_24]
    exact isV_i (hQ M fr (fun k hk => h k (by omega)))
  | succ r ih =>
    intro fuel k j M hj hf fr h
    obtain ⟨f, rfl⟩ : ∃ f, fuel = f + 1 := ⟨fuel - 1, by omega⟩
    simp (disch := first | omega | rfl | decide) only [e6_J7_fill_53178_0, e6_J7_fill_53178_5, xr_v, xr_n, hl_of, hl_cl, hl_toInt, hl_le, hl_lt, hl_eq, nI_add, hl_sub, pk_mul, hl_div, if_pos, if_neg, ↓reduceIte, Nat.reduceAdd, Nat.reduceSub, Nat.reduceMul, Nat.add_zero, Nat.zero_add, mp_s, mp_k, mp_i, mp_g, mr_s, mr_i, mr_g, zlt_0, zlt_1, zlt_2, zlt_3, zlt_4, zlt_5, zlt_6, zlt_8, zlt_12, zlt_15, zlt_20, zlt_24, zlt_36, zlt_40, zlt_48, zlt_80, zlt_97, zlt_120, zlt_256, zlt_600, zlt_99999999, zadd_1, zadd_2, zadd_5, zadd_6, zadd_8, zadd_20, zadd_24, zeq_0, zeq_1, zeq_2, zeq_3, zeq_4, zeq_5, zeq_6, zeq_7, zeq_8, zeq_13, zeq_14, zeq_20, zeq_32, zeq_59, zeq_60, zeq_80, zmul_2, zmul_4, zmul_6, zmul_8, zmul_10, zmul_24, zsub_1, zsub_2, zsub_10, zsub_48, zsub_97, zle_0, zle_1, zle_2, zle_6, zle_11, zle_200, zle_600, zle_100000000, ylt_0, ylt_1, ylt_2, ylt_3, ylt_6, ylt_9, ylt_20, ylt_24, ylt_57, ylt_60, ylt_99, ylt_120, ylt_122, ylt_999, ylt_9999, yle_0, yle_2, yle_4, yle_5, yle_6, yle_7, yle_8, yle_10, yle_12, yle_13, yle_15, yle_16, yle_20, yle_24, yle_40, yle_60, yle_64, yle_80, yadd_1, yadd_22, ymul_2, ymul_4, ymul_6, ymul_8, ymul_10, ymul_24, ymul_27, ymul_100, ysub_1, ysub_24, zdiv_2, zdiv_4, zdiv_24]
    refine isV_e (RN_s _ _ _ _ _ _ _ _ _ _ _ _) ?_
    refine ih f 2940 (j + 1) _ (by omega) (by omega) (Fr_put fr (sRow_s _ _ _)) ?_
    intro k' hk'
    by_cases e : k' = j
    · rw [e, mp_s]
    · rw [mp_k e]
      exact h k' (by omega)
theorem x_fill6 {D : Nat} (hD : 2 ≤ D) (i0 : Nat) (a1 : Int32) (M : Mem) : isV (EX L xs (D) q_J7_fill_53178 [.inr (.inr (19, i0)), .inl (a1)] M O) O (fun M' => Fr (sRow 19 i0) M M' ∧ ∀ k, k < 12 → M' 19 i0 k = a1) := by
  obtain ⟨d, rfl⟩ : ∃ d, D = d + 2 := ⟨D - 2, by omega⟩
  refine isV_e (EX_in mi_J7_fill_53178 rfl rfl rfl (ls := [some (.inr (.inr (19, i0))), some (.inl (a1)), none, none]) rfl) ?_
  rw [e6_J7_fill_53178_0]
  exact fill_l6 L xs O d i0 a1 M _ (fun M' a b => ⟨a, b⟩) 12 FUEL 2935 0 M (by omega) (Nat.le_of_lt (FU (by omega))) Fr_refl (fun k hk => absurd hk (by omega))
theorem fill_l7 (d i0 : Nat) (a1 : Int32) (M0 : Mem) (Q : Mem → Prop) (hQ : ∀ M', Fr (sRow 27 i0) M0 M' → (∀ k, k < 40 → M' 27 i0 k = a1) → Q M') : ∀ r fuel k j M, j + r = 40 → r ≤ fuel → Fr (sRow 27 i0) M0 M → (∀ k, k < j → M 27 i0 k = a1) →
    isV (BK L xs (EX L xs (d + 1)) mi_J7_fill_53178 (RN L xs (d) mi_J7_fill_53178 fuel) (k + 60) 5 [some (.inr (.inr (27, i0))), some (.inl (a1)), some (.inl (nI j)), some (.inl (nI 40))] [] M O none 0 0) O Q := by
  intro r
  induction r with
  | zero =>
    intro fuel k j M hj hf fr h
    simp (disch := first | omega | rfl | decide) only [e7_J7_fill_53178_0, e7_J7_fill_53178_5, xr_v, xr_n, hl_of, hl_cl, hl_toInt, hl_le, hl_lt, hl_eq, nI_add, hl_sub, pk_mul, hl_div, if_pos, if_neg, ↓reduceIte, Nat.reduceAdd, Nat.reduceSub, Nat.reduceMul, Nat.add_zero, Nat.zero_add, mp_s, mp_k, mp_i, mp_g, mr_s, mr_i, mr_g, zlt_0, zlt_1, zlt_2, zlt_3, zlt_4, zlt_5, zlt_6, zlt_8, zlt_12, zlt_15, zlt_20, zlt_24, zlt_36, zlt_40, zlt_48, zlt_80, zlt_97, zlt_120, zlt_256, zlt_600, zlt_99999999, zadd_1, zadd_2, zadd_5, zadd_6, zadd_8, zadd_20, zadd_24, zeq_0, zeq_1, zeq_2, zeq_3, zeq_4, zeq_5, zeq_6, zeq_7, zeq_8, zeq_13, zeq_14, zeq_20, zeq_32, zeq_59, zeq_60, zeq_80, zmul_2, zmul_4, zmul_6, zmul_8, zmul_10, zmul_24, zsub_1, zsub_2, zsub_10, zsub_48, zsub_97, zle_0, zle_1, zle_2, zle_6, zle_11, zle_200, zle_600, zle_100000000, ylt_0, ylt_1, ylt_2, ylt_3, ylt_6, ylt_9, ylt_20, ylt_24, ylt_57, ylt_60, ylt_99, ylt_120, ylt_122, ylt_999, ylt_9999, yle_0, yle_2, yle_4, yle_5, yle_6, yle_7, yle_8, yle_10, yle_12, yle_13, yle_15, yle_16, yle_20, yle_24, yle_40, yle_60, yle_64, yle_80, yadd_1, yadd_22, ymul_2, ymul_4, ymul_6, ymul_8, ymul_10, ymul_24, ymul_27, ymul_100, ysub_1, ysub_24, zdiv_2, zdiv_4, zdiv_24]
    exact isV_i (hQ M fr (fun k hk => h k (by omega)))
  | succ r ih =>
    intro fuel k j M hj hf fr h
    obtain ⟨f, rfl⟩ : ∃ f, fuel = f + 1 := ⟨fuel - 1, by omega⟩
    simp (disch := first | omega | rfl | decide) only [e7_J7_fill_53178_0, e7_J7_fill_53178_5, xr_v, xr_n, hl_of, hl_cl, hl_toInt, hl_le, hl_lt, hl_eq, nI_add, hl_sub, pk_mul, hl_div, if_pos, if_neg, ↓reduceIte, Nat.reduceAdd, Nat.reduceSub, Nat.reduceMul, Nat.add_zero, Nat.zero_add, mp_s, mp_k, mp_i, mp_g, mr_s, mr_i, mr_g, zlt_0, zlt_1, zlt_2, zlt_3, zlt_4, zlt_5, zlt_6, zlt_8, zlt_12, zlt_15, zlt_20, zlt_24, zlt_36, zlt_40, zlt_48, zlt_80, zlt_97, zlt_120, zlt_256, zlt_600, zlt_99999999, zadd_1, zadd_2, zadd_5, zadd_6, zadd_8, zadd_20, zadd_24, zeq_0, zeq_1, zeq_2, zeq_3, zeq_4, zeq_5, zeq_6, zeq_7, zeq_8, zeq_13, zeq_14, zeq_20, zeq_32, zeq_59, zeq_60, zeq_80, zmul_2, zmul_4, zmul_6, zmul_8, zmul_10, zmul_24, zsub_1, zsub_2, zsub_10, zsub_48, zsub_97, zle_0, zle_1, zle_2, zle_6, zle_11, zle_200, zle_600, zle_100000000, ylt_0, ylt_1, ylt_2, ylt_3, ylt_6, ylt_9, ylt_20, ylt_24, ylt_57, ylt_60, ylt_99, ylt_120, ylt_122, ylt_999, ylt_9999, yle_0, yle_2, yle_4, yle_5, yle_6, yle_7, yle_8, yle_10, yle_12, yle_13, yle_15, yle_16, yle_20, yle_24, yle_40, yle_60, yle_64, yle_80, yadd_1, yadd_22, ymul_2, ymul_4, ymul_6, ymul_8, ymul_10, ymul_24, ymul_27, ymul_100, ysub_1, ysub_24, zdiv_2, zdiv_4, zdiv_24]
    refine isV_e (RN_s _ _ _ _ _ _ _ _ _ _ _ _) ?_
    refine ih f 2940 (j + 1) _ (by omega) (by omega) (Fr_put fr (sRow_s _ _ _)) ?_
    intro k' hk'
    by_cases e : k' = j
    · rw [e, mp_s]
    · rw [mp_k e]
      exact h k' (by omega)
theorem x_fill7 {D : Nat} (hD : 2 ≤ D) (i0 : Nat) (a1 : Int32) (M : Mem) : isV (EX L xs (D) q_J7_fill_53178 [.inr (.inr (27, i0)), .inl (a1)] M O) O (fun M' => Fr (sRow 27 i0) M M' ∧ ∀ k, k < 40 → M' 27 i0 k = a1) := by
  obtain ⟨d, rfl⟩ : ∃ d, D = d + 2 := ⟨D - 2, by omega⟩
  refine isV_e (EX_in mi_J7_fill_53178 rfl rfl rfl (ls := [some (.inr (.inr (27, i0))), some (.inl (a1)), none, none]) rfl) ?_
  rw [e7_J7_fill_53178_0]
  exact fill_l7 L xs O d i0 a1 M _ (fun M' a b => ⟨a, b⟩) 40 FUEL 2935 0 M (by omega) (Nat.le_of_lt (FU (by omega))) Fr_refl (fun k hk => absurd hk (by omega))
theorem fill_l8 (d i0 : Nat) (a1 : Int32) (M0 : Mem) (Q : Mem → Prop) (hQ : ∀ M', Fr (sRow 30 0) M0 M' → (∀ k, k < 40 → M' 30 0 k = a1) → Q M') : ∀ r fuel k j M, j + r = 40 → r ≤ fuel → Fr (sRow 30 0) M0 M → (∀ k, k < j → M 30 0 k = a1) →
    isV (BK L xs (EX L xs (d + 1)) mi_J7_fill_53178 (RN L xs (d) mi_J7_fill_53178 fuel) (k + 60) 5 [some (.inr (.inr (30, 0))), some (.inl (a1)), some (.inl (nI j)), some (.inl (nI 40))] [] M O none 0 0) O Q := by
  intro r
  induction r with
  | zero =>
    intro fuel k j M hj hf fr h
    simp (disch := first | omega | rfl | decide) only [e8_J7_fill_53178_0, e8_J7_fill_53178_5, xr_v, xr_n, hl_of, hl_cl, hl_toInt, hl_le, hl_lt, hl_eq, nI_add, hl_sub, pk_mul, hl_div, if_pos, if_neg, ↓reduceIte, Nat.reduceAdd, Nat.reduceSub, Nat.reduceMul, Nat.add_zero, Nat.zero_add, mp_s, mp_k, mp_i, mp_g, mr_s, mr_i, mr_g, zlt_0, zlt_1, zlt_2, zlt_3, zlt_4, zlt_5, zlt_6, zlt_8, zlt_12, zlt_15, zlt_20, zlt_24, zlt_36, zlt_40, zlt_48, zlt_80, zlt_97, zlt_120, zlt_256, zlt_600, zlt_99999999, zadd_1, zadd_2, zadd_5, zadd_6, zadd_8, zadd_20, zadd_24, zeq_0, zeq_1, zeq_2, zeq_3, zeq_4, zeq_5, zeq_6, zeq_7, zeq_8, zeq_13, zeq_14, zeq_20, zeq_32, zeq_59, zeq_60, zeq_80, zmul_2, zmul_4, zmul_6, zmul_8, zmul_10, zmul_24, zsub_1, zsub_2, zsub_10, zsub_48, zsub_97, zle_0, zle_1, zle_2, zle_6, zle_11, zle_200, zle_600, zle_100000000, ylt_0, ylt_1, ylt_2, ylt_3, ylt_6, ylt_9, ylt_20, ylt_24, ylt_57, ylt_60, ylt_99, ylt_120, ylt_122, ylt_999, ylt_9999, yle_0, yle_2, yle_4, yle_5, yle_6, yle_7, yle_8, yle_10, yle_12, yle_13, yle_15, yle_16, yle_20, yle_24, yle_40, yle_60, yle_64, yle_80, yadd_1, yadd_22, ymul_2, ymul_4, ymul_6, ymul_8, ymul_10, ymul_24, ymul_27, ymul_100, ysub_1, ysub_24, zdiv_2, zdiv_4, zdiv_24]
    exact isV_i (hQ M fr (fun k hk => h k (by omega)))
  | succ r ih =>
    intro fuel k j M hj hf fr h
    obtain ⟨f, rfl⟩ : ∃ f, fuel = f + 1 := ⟨fuel - 1, by omega⟩
    simp (disch := first | omega | rfl | decide) only [e8_J7_fill_53178_0, e8_J7_fill_53178_5, xr_v, xr_n, hl_of, hl_cl, hl_toInt, hl_le, hl_lt, hl_eq, nI_add, hl_sub, pk_mul, hl_div, if_pos, if_neg, ↓reduceIte, Nat.reduceAdd, Nat.reduceSub, Nat.reduceMul, Nat.add_zero, Nat.zero_add, mp_s, mp_k, mp_i, mp_g, mr_s, mr_i, mr_g, zlt_0, zlt_1, zlt_2, zlt_3, zlt_4, zlt_5, zlt_6, zlt_8, zlt_12, zlt_15, zlt_20, zlt_24, zlt_36, zlt_40, zlt_48, zlt_80, zlt_97, zlt_120, zlt_256, zlt_600, zlt_99999999, zadd_1, zadd_2, zadd_5, zadd_6, zadd_8, zadd_20, zadd_24, zeq_0, zeq_1, zeq_2, zeq_3, zeq_4, zeq_5, zeq_6, zeq_7, zeq_8, zeq_13, zeq_14, zeq_20, zeq_32, zeq_59, zeq_60, zeq_80, zmul_2, zmul_4, zmul_6, zmul_8, zmul_10, zmul_24, zsub_1, zsub_2, zsub_10, zsub_48, zsub_97, zle_0, zle_1, zle_2, zle_6, zle_11, zle_200, zle_600, zle_100000000, ylt_0, ylt_1, ylt_2, ylt_3, ylt_6, ylt_9, ylt_20, ylt_24, ylt_57, ylt_60, ylt_99, ylt_120, ylt_122, ylt_999, ylt_9999, yle_0, yle_2, yle_4, yle_5, yle_6, yle_7, yle_8, yle_10, yle_12, yle_13, yle_15, yle_16, yle_20, yle_24, yle_40, yle_60, yle_64, yle_80, yadd_1, yadd_22, ymul_2, ymul_4, ymul_6, ymul_8, ymul_10, ymul_24, ymul_27, ymul_100, ysub_1, ysub_24, zdiv_2, zdiv_4, zdiv_24]
    refine isV_e (RN_s _ _ _ _ _ _ _ _ _ _ _ _) ?_
    refine ih f 2940 (j + 1) _ (by omega) (by omega) (Fr_put fr (sRow_s _ _ _)) ?_
    intro k' hk'
    by_cases e : k' = j
    · rw [e, mp_s]
    · rw [mp_k e]
      exact h k' (by omega)
theorem x_fill8 {D : Nat} (hD : 2 ≤ D) (i0 : Nat) (a1 : Int32) (M : Mem) : isV (EX L xs (D) q_J7_fill_53178 [.inr (.inr (30, 0)), .inl (a1)] M O) O (fun M' => Fr (sRow 30 0) M M' ∧ ∀ k, k < 40 → M' 30 0 k = a1) := by
  obtain ⟨d, rfl⟩ : ∃ d, D = d + 2 := ⟨D - 2, by omega⟩
  refine isV_e (EX_in mi_J7_fill_53178 rfl rfl rfl (ls := [some (.inr (.inr (30, 0))), some (.inl (a1)), none, none]) rfl) ?_
  rw [e8_J7_fill_53178_0]
  exact fill_l8 L xs O d i0 a1 M _ (fun M' a b => ⟨a, b⟩) 40 FUEL 2935 0 M (by omega) (Nat.le_of_lt (FU (by omega))) Fr_refl (fun k hk => absurd hk (by omega))
theorem fill_l9 (d i0 : Nat) (a1 : Int32) (M0 : Mem) (Q : Mem → Prop) (hQ : ∀ M', Fr (sRow 29 0) M0 M' → (∀ k, k < 40 → M' 29 0 k = a1) → Q M') : ∀ r fuel k j M, j + r = 40 → r ≤ fuel → Fr (sRow 29 0) M0 M → (∀ k, k < j → M 29 0 k = a1) →
    isV (BK L xs (EX L xs (d + 1)) mi_J7_fill_53178 (RN L xs (d) mi_J7_fill_53178 fuel) (k + 60) 5 [some (.inr (.inr (29, 0))), some (.inl (a1)), some (.inl (nI j)), some (.inl (nI 40))] [] M O none 0 0) O Q := by
  intro r
  induction r with
  | zero =>
    intro fuel k j M hj hf fr h
    simp (disch := first | omega | rfl | decide) only [e9_J7_fill_53178_0, e9_J7_fill_53178_5, xr_v, xr_n, hl_of, hl_cl, hl_toInt, hl_le, hl_lt, hl_eq, nI_add, hl_sub, pk_mul, hl_div, if_pos, if_neg, ↓reduceIte, Nat.reduceAdd, Nat.reduceSub, Nat.reduceMul, Nat.add_zero, Nat.zero_add, mp_s, mp_k, mp_i, mp_g, mr_s, mr_i, mr_g, zlt_0, zlt_1, zlt_2, zlt_3, zlt_4, zlt_5, zlt_6, zlt_8, zlt_12, zlt_15, zlt_20, zlt_24, zlt_36, zlt_40, zlt_48, zlt_80, zlt_97, zlt_120, zlt_256, zlt_600, zlt_99999999, zadd_1, zadd_2, zadd_5, zadd_6, zadd_8, zadd_20, zadd_24, zeq_0, zeq_1, zeq_2, zeq_3, zeq_4, zeq_5, zeq_6, zeq_7, zeq_8, zeq_13, zeq_14, zeq_20, zeq_32, zeq_59, zeq_60, zeq_80, zmul_2, zmul_4, zmul_6, zmul_8, zmul_10, zmul_24, zsub_1, zsub_2, zsub_10, zsub_48, zsub_97, zle_0, zle_1, zle_2, zle_6, zle_11, zle_200, zle_600, zle_100000000, ylt_0, ylt_1, ylt_2, ylt_3, ylt_6, ylt_9, ylt_20, ylt_24, ylt_57, ylt_60, ylt_99, ylt_120, ylt_122, ylt_999, ylt_9999, yle_0, yle_2, yle_4, yle_5, yle_6, yle_7, yle_8, yle_10, yle_12, yle_13, yle_15, yle_16, yle_20, yle_24, yle_40, yle_60, yle_64, yle_80, yadd_1, yadd_22, ymul_2, ymul_4, ymul_6, ymul_8, ymul_10, ymul_24, ymul_27, ymul_100, ysub_1, ysub_24, zdiv_2, zdiv_4, zdiv_24]
    exact isV_i (hQ M fr (fun k hk => h k (by omega)))
  | succ r ih =>
    intro fuel k j M hj hf fr h
    obtain ⟨f, rfl⟩ : ∃ f, fuel = f + 1 := ⟨fuel - 1, by omega⟩
    simp (disch := first | omega | rfl | decide) only [e9_J7_fill_53178_0, e9_J7_fill_53178_5, xr_v, xr_n, hl_of, hl_cl, hl_toInt, hl_le, hl_lt, hl_eq, nI_add, hl_sub, pk_mul, hl_div, if_pos, if_neg, ↓reduceIte, Nat.reduceAdd, Nat.reduceSub, Nat.reduceMul, Nat.add_zero, Nat.zero_add, mp_s, mp_k, mp_i, mp_g, mr_s, mr_i, mr_g, zlt_0, zlt_1, zlt_2, zlt_3, zlt_4, zlt_5, zlt_6, zlt_8, zlt_12, zlt_15, zlt_20, zlt_24, zlt_36, zlt_40, zlt_48, zlt_80, zlt_97, zlt_120, zlt_256, zlt_600, zlt_99999999, zadd_1, zadd_2, zadd_5, zadd_6, zadd_8, zadd_20, zadd_24, zeq_0, zeq_1, zeq_2, zeq_3, zeq_4, zeq_5, zeq_6, zeq_7, zeq_8, zeq_13, zeq_14, zeq_20, zeq_32, zeq_59, zeq_60, zeq_80, zmul_2, zmul_4, zmul_6, zmul_8, zmul_10, zmul_24, zsub_1, zsub_2, zsub_10, zsub_48, zsub_97, zle_0, zle_1, zle_2, zle_6, zle_11, zle_200, zle_600, zle_100000000, ylt_0, ylt_1, ylt_2, ylt_3, ylt_6, ylt_9, ylt_20, ylt_24, ylt_57, ylt_60, ylt_99, ylt_120, ylt_122, ylt_999, ylt_9999, yle_0, yle_2, yle_4, yle_5, yle_6, yle_7, yle_8, yle_10, yle_12, yle_13, yle_15, yle_16, yle_20, yle_24, yle_40, yle_60, yle_64, yle_80, yadd_1, yadd_22, ymul_2, ymul_4, ymul_6, ymul_8, ymul_10, ymul_24, ymul_27, ymul_100, ysub_1, ysub_24, zdiv_2, zdiv_4, zdiv_24]
    refine isV_e (RN_s _ _ _ _ _ _ _ _ _ _ _ _) ?_
    refine ih f 2940 (j + 1) _ (by omega) (by omega) (Fr_put fr (sRow_s _ _ _)) ?_
    intro k' hk'
    by_cases e : k' = j
    · rw [e, mp_s]
    · rw [mp_k e]
      exact h k' (by omega)
theorem x_fill9 {D : Nat} (hD : 2 ≤ D) (i0 : Nat) (a1 : Int32) (M : Mem) : isV (EX L xs (D) q_J7_fill_53178 [.inr (.inr (29, 0)), .inl (a1)] M O) O (fun M' => Fr (sRow 29 0) M M' ∧ ∀ k, k < 40 → M' 29 0 k = a1) := by
  obtain ⟨d, rfl⟩ : ∃ d, D = d + 2 := ⟨D - 2, by omega⟩
  refine isV_e (EX_in mi_J7_fill_53178 rfl rfl rfl (ls := [some (.inr (.inr (29, 0))), some (.inl (a1)), none, none]) rfl) ?_
  rw [e9_J7_fill_53178_0]
  exact fill_l9 L xs O d i0 a1 M _ (fun M' a b => ⟨a, b⟩) 40 FUEL 2935 0 M (by omega) (Nat.le_of_lt (FU (by omega))) Fr_refl (fun k hk => absurd hk (by omega))
theorem fill_l10 (d i0 : Nat) (a1 : Int32) (M0 : Mem) (Q : Mem → Prop) (hQ : ∀ M', Fr (sRow 33 0) M0 M' → (∀ k, k < 256 → M' 33 0 k = a1) → Q M') : ∀ r fuel k j M, j + r = 256 → r ≤ fuel → Fr (sRow 33 0) M0 M → (∀ k, k < j → M 33 0 k = a1) →
    isV (BK L xs (EX L xs (d + 1)) mi_J7_fill_53178 (RN L xs (d) mi_J7_fill_53178 fuel) (k + 60) 5 [some (.inr (.inr (33, 0))), some (.inl (a1)), some (.inl (nI j)), some (.inl (nI 256))] [] M O none 0 0) O Q := by
  intro r
  induction r with
  | zero =>
    intro fuel k j M hj hf fr h
    simp (disch := first | omega | rfl | decide) only [e10_J7_fill_53178_0, e10_J7_fill_53178_5, xr_v, xr_n, hl_of, hl_cl, hl_toInt, hl_le, hl_lt, hl_eq, nI_add, hl_sub, pk_mul, hl_div, if_pos, if_neg, ↓reduceIte, Nat.reduceAdd, Nat.reduceSub, Nat.reduceMul, Nat.add_zero, Nat.zero_add, mp_s, mp_k, mp_i, mp_g, mr_s, mr_i, mr_g, zlt_0, zlt_1, zlt_2, zlt_3, zlt_4, zlt_5, zlt_6, zlt_8, zlt_12, zlt_15, zlt_20, zlt_24, zlt_36, zlt_40, zlt_48, zlt_80, zlt_97, zlt_120, zlt_256, zlt_600, zlt_99999999, zadd_1, zadd_2, zadd_5, zadd_6, zadd_8, zadd_20, zadd_24, zeq_0, zeq_1, zeq_2, zeq_3, zeq_4, zeq_5, zeq_6, zeq_7, zeq_8, zeq_13, zeq_14, zeq_20, zeq_32, zeq_59, zeq_60, zeq_80, zmul_2, zmul_4, zmul_6, zmul_8, zmul_10, zmul_24, zsub_1, zsub_2, zsub_10, zsub_48, zsub_97, zle_0, zle_1, zle_2, zle_6, zle_11, zle_200, zle_600, zle_100000000, ylt_0, ylt_1, ylt_2, ylt_3, ylt_6, ylt_9, ylt_20, ylt_24, ylt_57, ylt_60, ylt_99, ylt_120, ylt_122, ylt_999, ylt_9999, yle_0, yle_2, yle_4, yle_5, yle_6, yle_7, yle_8, yle_10, yle_12, yle_13, yle_15, yle_16, yle_20, yle_24, yle_40, yle_60, yle_64, yle_80, yadd_1, yadd_22, ymul_2, ymul_4, ymul_6, ymul_8, ymul_10, ymul_24, ymul_27, ymul_100, ysub_1, ysub_24, zdiv_2, zdiv_4, zdiv_24]
    exact isV_i (hQ M fr (fun k hk => h k (by omega)))
  | succ r ih =>
    intro fuel k j M hj hf fr h
    obtain ⟨f, rfl⟩ : ∃ f, fuel = f + 1 := ⟨fuel - 1, by omega⟩
    simp (disch := first | omega | rfl | decide) only [e10_J7_fill_53178_0, e10_J7_fill_53178_5, xr_v, xr_n, hl_of, hl_cl, hl_toInt, hl_le, hl_lt, hl_eq, nI_add, hl_sub, pk_mul, hl_div, if_pos, if_neg, ↓reduceIte, Nat.reduceAdd, Nat.reduceSub, Nat.reduceMul, Nat.add_zero, Nat.zero_add, mp_s, mp_k, mp_i, mp_g, mr_s, mr_i, mr_g, zlt_0, zlt_1, zlt_2, zlt_3, zlt_4, zlt_5, zlt_6, zlt_8, zlt_12, zlt_15, zlt_20, zlt_24, zlt_36, zlt_40, zlt_48, zlt_80, zlt_97, zlt_120, zlt_256, zlt_600, zlt_99999999, zadd_1, zadd_2, zadd_5, zadd_6, zadd_8, zadd_20, zadd_24, zeq_0, zeq_1, zeq_2, zeq_3, zeq_4, zeq_5, zeq_6, zeq_7, zeq_8, zeq_13, zeq_14, zeq_20, zeq_32, zeq_59, zeq_60, zeq_80, zmul_2, zmul_4, zmul_6, zmul_8, zmul_10, zmul_24, zsub_1, zsub_2, zsub_10, zsub_48, zsub_97, zle_0, zle_1, zle_2, zle_6, zle_11, zle_200, zle_600, zle_100000000, ylt_0, ylt_1, ylt_2, ylt_3, ylt_6, ylt_9, ylt_20, ylt_24, ylt_57, ylt_60, ylt_99, ylt_120, ylt_122, ylt_999, ylt_9999, yle_0, yle_2, yle_4, yle_5, yle_6, yle_7, yle_8, yle_10, yle_12, yle_13, yle_15, yle_16, yle_20, yle_24, yle_40, yle_60, yle_64, yle_80, yadd_1, yadd_22, ymul_2, ymul_4, ymul_6, ymul_8, ymul_10, ymul_24, ymul_27, ymul_100, ysub_1, ysub_24, zdiv_2, zdiv_4, zdiv_24]
    refine isV_e (RN_s _ _ _ _ _ _ _ _ _ _ _ _) ?_
    refine ih f 2940 (j + 1) _ (by omega) (by omega) (Fr_put fr (sRow_s _ _ _)) ?_
    intro k' hk'
    by_cases e : k' = j
    · rw [e, mp_s]
    · rw [mp_k e]
      exact h k' (by omega)
theorem x_fill10 {D : Nat} (hD : 2 ≤ D) (i0 : Nat) (a1 : Int32) (M : Mem) : isV (EX L xs (D) q_J7_fill_53178 [.inr (.inr (33, 0)), .inl (a1)] M O) O (fun M' => Fr (sRow 33 0) M M' ∧ ∀ k, k < 256 → M' 33 0 k = a1) := by
  obtain ⟨d, rfl⟩ : ∃ d, D = d + 2 := ⟨D - 2, by omega⟩
  refine isV_e (EX_in mi_J7_fill_53178 rfl rfl rfl (ls := [some (.inr (.inr (33, 0))), some (.inl (a1)), none, none]) rfl) ?_
  rw [e10_J7_fill_53178_0]
  exact fill_l10 L xs O d i0 a1 M _ (fun M' a b => ⟨a, b⟩) 256 FUEL 2935 0 M (by omega) (Nat.le_of_lt (FU (by omega))) Fr_refl (fun k hk => absurd hk (by omega))
end
