/-! IMAGES made and taken back. -/
section
variable (L : Nat) (xs : Nat → Int32) (O : Int64)
theorem x7_movesAll_0 {D : Nat} (hD : 3 ≤ D) (i : Nat) {md : Md} {nw : Nat} (hO : MdOK md nw) (M : Mem) (h : MMd M md) : isV (EX L xs (D) q_X7_movesAll [.inr (.inr (40, 0)), .inr (.inr (72, i)), .inl (0)] M O) O (fun M' => (∀ g i' k, ¬ (g = 72 ∧ i' = i) → ¬ (g = 40 ∧ k = 32) → M' g i' k = M g i' k) ∧ KMd M' i md) := by
  obtain ⟨h1, h2, h3, h4, h5⟩ := h
  have o1 := hO.1
  have o5 := hO.2.2.2.2.1
  obtain ⟨d, rfl⟩ : ∃ d, D = d + 2 := ⟨D - 2, by omega⟩
  refine isV_e (EX_in mi_X7_movesAll rfl rfl rfl (ls := [some (.inr (.inr (40, 0))), some (.inr (.inr (72, i))), some (.inl (0)), none]) rfl) ?_
  have m0 : mput M 40 0 32 0 40 0 32 = nI 0 := mp_s
  rw [e_X7_movesAll_0, h1, x7_moves_0 L xs O (D := d + 1) (by omega) i 0 _ (by omega) _ m0]
  simp only [xr_v, Nat.reduceAdd, Nat.add_zero]
  generalize hM1 : mput (mput (mput (mput M 40 0 32 0) 72 i 0 (nI md.2.1)) 40 0 32 (nI (0 + 1))) 40 0 29 (nI md.2.1) = M1
  have a1 : ∀ g i' k, ¬ (g = 72 ∧ i' = i) → ¬ (g = 40 ∧ k = 32) → M1 g i' k = M g i' k := by
    intro g i' k hg hk
    rw [← hM1]
    by_cases x1 : g = 40
    · subst x1
      by_cases x2 : i' = 0
      · subst x2
        by_cases x3 : k = 29
        · subst x3
          rw [mp_s, h1]
        · rw [mp_k x3, mp_k (by omega), mp_g (by omega), mp_k (by omega)]
      · rw [mp_i x2, mp_i x2, mp_g (by omega), mp_i x2]
    · rw [mp_g x1, mp_g x1]
      by_cases x4 : g = 72
      · subst x4
        rw [mp_i (fun e => hg ⟨rfl, e⟩), mp_g x1]
      · rw [mp_g x4, mp_g x1]
  have b1 : M1 40 0 32 = nI 1 := by rw [← hM1, mp_k (by omega), mp_s]
  have c1 : M1 72 i 0 = nI md.2.1 := by rw [← hM1, mp_g (by omega), mp_g (by omega), mp_s]
  have e30 : mput (mput (mput M 40 0 32 0) 72 i 0 (nI md.2.1)) 40 0 32 (nI (0 + 1)) 40 0 30 = nI md.2.2.2.1 := by rw [mp_k (by omega), mp_g (by omega), mp_k (by omega)]; exact h4
  rw [e_X7_movesAll_16, hM1, e30, x7_moves_0 L xs O (D := d + 1) (by omega) i 1 _ (by omega) _ b1]
  simp only [xr_v, Nat.reduceAdd, Nat.add_zero]
  rw [e_X7_movesAll_30]
  generalize hM2 : mput (mput (mput M1 72 i 1 (nI md.2.2.2.1)) 40 0 32 (nI (1 + 1))) 40 0 30 (nI md.2.2.2.1) = M2
  have a2 : ∀ g i' k, ¬ (g = 72 ∧ i' = i ∧ k = 1) → ¬ (g = 40 ∧ k = 32) → M2 g i' k = M1 g i' k := by
    intro g i' k hg hk
    rw [← hM2]
    by_cases x1 : g = 40
    · subst x1
      by_cases x2 : i' = 0
      · subst x2
        by_cases x3 : k = 30
        · subst x3
          rw [mp_s, a1 40 0 30 (by omega) (by omega), h4]
        · rw [mp_k x3, mp_k (by omega), mp_g (by omega)]
      · rw [mp_i x2, mp_i x2, mp_g (by omega)]
    · rw [mp_g x1, mp_g x1]
      by_cases x4 : g = 72
      · subst x4
        by_cases x5 : i' = i
        · subst x5
          rw [mp_k (fun e => hg ⟨rfl, rfl, e⟩)]
        · rw [mp_i x5]
      · rw [mp_g x4]
  have b2 : M2 40 0 32 = nI 2 := by rw [← hM2, mp_k (by omega), mp_s]
  have c2 : M2 72 i 1 = nI md.2.2.2.1 := by rw [← hM2, mp_g (by omega), mp_g (by omega), mp_s]
  refine mv0_68 L xs O d (by omega) i M2 b2 (fun r => isV r O _) FUEL _ (Nat.le_of_lt (FU (by omega))) ?_
  intro f3 k3 M3 hf3 hk3
  have hf3' : 999999 ≤ f3 + 8 := hf3
  refine mv0_69 L xs O d (by omega) i M3 hk3.2.2 (fun r => isV r O _) f3 k3 (by omega) ?_
  intro f4 k4 M4 hf4 hk4
  refine mv0_70 L xs O d (by omega) i M4 hk4.2.2 _ f4 k4 (by omega) ?_
  intro M5 hk5
  have base : ∀ g i' k, ¬ (g = 72 ∧ i' = i) → ¬ (g = 40 ∧ k = 32) → M5 g i' k = M g i' k := fun g i' k hg hk => by
    rw [hk5.1 g i' k (by omega) hk, hk4.1 g i' k (by omega) hk, hk3.1 g i' k (by omega) hk, a2 g i' k (by omega) hk, a1 g i' k hg hk]
  refine ⟨base, ?_, fun j hj => ?_, fun k hk => ?_, ?_, fun j hj => ?_⟩
  · rw [hk5.1 72 i 0 (by omega) (by omega), hk4.1 72 i 0 (by omega) (by omega), hk3.1 72 i 0 (by omega) (by omega), a2 72 i 0 (by omega) (by omega)]
    exact c1
  · rw [hk5.1 72 i (2 + j) (by omega) (by omega), hk4.1 72 i (2 + j) (by omega) (by omega), hk3.2.1 j (by omega), a2 68 0 j (by omega) (by omega), a1 68 0 j (by omega) (by omega)]
    exact h2 j hj
  · rw [hk5.1 72 i (10 + k) (by omega) (by omega), hk4.2.1 k hk, hk3.1 69 0 k (by omega) (by omega), a2 69 0 k (by omega) (by omega), a1 69 0 k (by omega) (by omega)]
    exact h3 k hk
  · rw [hk5.1 72 i 1 (by omega) (by omega), hk4.1 72 i 1 (by omega) (by omega), hk3.1 72 i 1 (by omega) (by omega)]
    exact c2
  · rw [hk5.2.1 j (by omega), hk4.1 70 0 j (by omega) (by omega), hk3.1 70 0 j (by omega) (by omega), a2 70 0 j (by omega) (by omega), a1 70 0 j (by omega) (by omega)]
    exact h5 j hj
theorem x7_movesAll_1 {D : Nat} (hD : 3 ≤ D) (i : Nat) {md : Md} {nw : Nat} (hO : MdOK md nw) (M : Mem) (h : KMd M i md) : isV (EX L xs (D) q_X7_movesAll [.inr (.inr (40, 0)), .inr (.inr (72, i)), .inl (1)] M O) O (fun M' => (∀ g i' k, ¬ (68 ≤ g ∧ g ≤ 70) → ¬ (g = 40 ∧ (k = 29 ∨ k = 30 ∨ k = 32)) → M' g i' k = M g i' k) ∧ MMd M' md) := by
  obtain ⟨h1, h2, h3, h4, h5⟩ := h
  have o1 := hO.1
  have o5 := hO.2.2.2.2.1
  obtain ⟨d, rfl⟩ : ∃ d, D = d + 2 := ⟨D - 2, by omega⟩
  refine isV_e (EX_in mi_X7_movesAll rfl rfl rfl (ls := [some (.inr (.inr (40, 0))), some (.inr (.inr (72, i))), some (.inl (1)), none]) rfl) ?_
  have m0 : mput M 40 0 32 0 40 0 32 = nI 0 := mp_s
  have e0 : mput M 40 0 32 0 72 i 0 = nI md.2.1 := by rw [mp_g (by omega)]; exact h1
  rw [e_X7_movesAll_0, x7_moves_1 L xs O (D := d + 1) (by omega) i 0 _ (by omega) _ m0, e0]
  simp only [xr_v, Nat.reduceAdd, Nat.add_zero]
  rw [e_X7_movesAll_16]
  generalize hM1 : mput (mput (mput M 40 0 32 0) 40 0 32 (nI (0 + 1))) 40 0 29 (nI md.2.1) = M1
  have f1 : Fr (fun g _ k => decide (g = 40 ∧ (k = 29 ∨ k = 30 ∨ k = 32))) M M1 := hM1 ▸ Fr_put (Fr_put (Fr_put Fr_refl (decide_eq_true (by omega))) (decide_eq_true (by omega))) (decide_eq_true (by omega))
  have b1 : M1 40 0 32 = nI 1 := by rw [← hM1, mp_k (by omega), mp_s]
  have e1 : M1 72 i 1 = nI md.2.2.2.1 := (f1 72 i 1 rfl).trans h4
  have c1 : M1 40 0 29 = nI md.2.1 := by rw [← hM1, mp_s]
  rw [x7_moves_1 L xs O (D := d + 1) (by omega) i 1 _ (by omega) _ b1, e1]
  simp only [xr_v, Nat.reduceAdd, Nat.add_zero]
  rw [e_X7_movesAll_30]
  generalize hM2 : mput (mput M1 40 0 32 (nI (1 + 1))) 40 0 30 (nI md.2.2.2.1) = M2
  have f2 : Fr (fun g _ k => decide (g = 40 ∧ (k = 30 ∨ k = 32))) M1 M2 := hM2 ▸ Fr_put (Fr_put Fr_refl (decide_eq_true (by omega))) (decide_eq_true (by omega))
  have b2 : M2 40 0 32 = nI 2 := by rw [← hM2, mp_k (by omega), mp_s]
  have c2 : M2 40 0 30 = nI md.2.2.2.1 := by rw [← hM2, mp_s]
  have a2 : ∀ g i' k, ¬ (g = 40 ∧ (k = 29 ∨ k = 30 ∨ k = 32)) → M2 g i' k = M g i' k := fun g i' k hg => (f2 g i' k (decide_eq_false (by omega))).trans (f1 g i' k (decide_eq_false hg))
  refine mv1_68 L xs O d (by omega) i M2 b2 (fun r => isV r O _) FUEL _ (Nat.le_of_lt (FU (by omega))) ?_
  intro f3 k3 M3 hf3 hk3
  have hf3' : 999999 ≤ f3 + 8 := hf3
  refine mv1_69 L xs O d (by omega) i M3 hk3.2.2 (fun r => isV r O _) f3 k3 (by omega) ?_
  intro f4 k4 M4 hf4 hk4
  refine mv1_70 L xs O d (by omega) i M4 hk4.2.2 _ f4 k4 (by omega) ?_
  intro M5 hk5
  refine ⟨fun g i' k hg hk => ?_, ?_, fun j hj => ?_, fun k hk => ?_, ?_, fun j hj => ?_⟩
  · rw [hk5.1 g i' k (by omega) (by omega), hk4.1 g i' k (by omega) (by omega), hk3.1 g i' k (by omega) (by omega), a2 g i' k hk]
  · rw [hk5.1 40 0 29 (by omega) (by omega), hk4.1 40 0 29 (by omega) (by omega), hk3.1 40 0 29 (by omega) (by omega), f2 40 0 29 rfl]
    exact c1
  · rw [hk5.1 68 0 j (by omega) (by omega), hk4.1 68 0 j (by omega) (by omega), hk3.2.1 j (by omega), a2 72 i (2 + j) (by omega)]
    exact h2 j hj
  · rw [hk5.1 69 0 k (by omega) (by omega), hk4.2.1 k hk, hk3.1 72 i (10 + k) (by omega) (by omega), a2 72 i (10 + k) (by omega)]
    exact h3 k hk
  · rw [hk5.1 40 0 30 (by omega) (by omega), hk4.1 40 0 30 (by omega) (by omega), hk3.1 40 0 30 (by omega) (by omega)]
    exact c2
  · rw [hk5.2.1 j (by omega), hk4.1 72 i (18 + j) (by omega) (by omega), hk3.1 72 i (18 + j) (by omega) (by omega), a2 72 i (18 + j) (by omega)]
    exact h5 j hj
def sRb (g i k : Nat) : Bool := decide ((3 ≤ g ∧ g ≤ 17 ∧ i = 2) ∨ g = 28 ∨ (g = 0 ∧ k = 12))
theorem sRb_ld {g i k : Nat} (h : sRb g i k = false) : sLd 2 g i k = false := by
  have := of_decide_eq_false h
  by_cases e : i = 2
  · refine sLd_g ?_
    cases e3 : isLand g with
    | false => rfl
    | true => exact absurd (isLand_le e3) (by omega)
  · exact sLd_i e
theorem sRb_u {g i k : Nat} (h : sRb g i k = false) : sU g i k = false := by
  have := of_decide_eq_false h
  exact decide_eq_false (by omega)
theorem x6_rebuild {D : Nat} (hD : 4 ≤ D) {T : Vw} {n nh ns nw : Nat} (hV : VOK T n nh ns nw) {md : Md} (hO : MdOK md nw) (ia : Nat) (M : Mem) (hL : LndC M T ia) (hC : CMd M 0 md) : isV (EX L xs (D) q_X6_rebuild [.inr (.inr (0, 0))] M O) O (fun M' => Fr sRb M M' ∧ CL M' 2 (perfL T md.1 md.2.1) ∧ CC0 M') := by
  have o1 := hO.1
  have v8 : nw ≤ 8 := hV.2.2.2.2.2.2.2.2.1
  obtain ⟨l1, l2, l3, l4⟩ := hL
  obtain ⟨d, rfl⟩ : ∃ d, D = d + 2 := ⟨D - 2, by omega⟩
  refine isV_e (EX_in mi_X6_rebuild rfl rfl rfl (ls := [some (.inr (.inr (0, 0))), none]) rfl) ?_
  obtain ⟨M1, q1, f1, c1⟩ := x1_copyFrom L xs O (D := d + 1) (by omega) 2 ia (by omega) M l4
  have hcl : (M 0 0 1).toNatClampNeg = ia := by rw [l2]; exact hl_cl (by omega)
  rw [e_X6_rebuild_0, hcl, if_pos (by omega), q1]
  simp only [xr_n, Nat.reduceAdd, Nat.add_zero]
  rw [e_X6_rebuild_11]
  refine loopA L xs O (P := fun r => isV r O _) (fun j ls M' => ls = [some (.inr (.inr (0, 0))), some (.inl (nI j))] ∧ Fr sRb M M' ∧ CL M' 2 (perfL T md.1 j)) md.2.1 100 (by omega) ?_ ?_ (Nat.le_of_lt (FU (by omega))) ⟨rfl, Fr_mono (fun _ _ _ => sRb_ld) f1, c1⟩
  · rintro f k j _ M' hj ⟨rfl, fr, hc⟩ ih
    have g1 := (fr 20 0 1 rfl).trans hC.1
    have g21 := (fr 21 0 j rfl).trans (hC.2.1 j hj)
    obtain ⟨M2, q2, f2, c2⟩ := x1_perform L xs O (D := d + 1) (by omega) 2 (md.1 j) (perfL_ok hV md.1 j (fun i hi => hO.2.1 i (by omega))) (hO.2.1 j hj) M' hc
    simp (disch := first | omega | rfl | decide) only [e_X6_rebuild_0, e_X6_rebuild_11, e_X6_rebuild_13, e_X6_rebuild_50, e_X6_rebuild_40, xr_v, xr_n, hl_of, hl_cl, hl_toInt, hl_le, hl_lt, hl_eq, nI_add, hl_sub, pk_mul, hl_div, if_pos, if_neg, ↓reduceIte, Nat.reduceAdd, Nat.reduceSub, Nat.reduceMul, Nat.add_zero, Nat.zero_add, mp_s, mp_k, mp_i, mp_g, mr_s, mr_i, mr_g, zlt_0, zlt_1, zlt_2, zlt_3, zlt_4, zlt_5, zlt_6, zlt_8, zlt_12, zlt_15, zlt_20, zlt_24, zlt_36, zlt_40, zlt_48, zlt_80, zlt_97, zlt_120, zlt_256, zlt_600, zlt_99999999, zadd_1, zadd_2, zadd_5, zadd_6, zadd_8, zadd_20, zadd_24, zeq_0, zeq_1, zeq_2, zeq_3, zeq_4, zeq_5, zeq_6, zeq_7, zeq_8, zeq_13, zeq_14, zeq_20, zeq_32, zeq_59, zeq_60, zeq_80, zmul_2, zmul_4, zmul_6, zmul_8, zmul_10, zmul_24, zsub_1, zsub_2, zsub_10, zsub_48, zsub_97, zle_0, zle_1, zle_2, zle_6, zle_11, zle_200, zle_600, zle_100000000, ylt_0, ylt_1, ylt_2, ylt_3, ylt_6, ylt_9, ylt_20, ylt_24, ylt_57, ylt_60, ylt_99, ylt_120, ylt_122, ylt_999, ylt_9999, yle_0, yle_2, yle_4, yle_5, yle_6, yle_7, yle_8, yle_10, yle_12, yle_13, yle_15, yle_16, yle_20, yle_24, yle_40, yle_60, yle_64, yle_80, yadd_1, yadd_22, ymul_2, ymul_4, ymul_6, ymul_8, ymul_10, ymul_24, ymul_27, ymul_100, ysub_1, ysub_24, zdiv_2, zdiv_4, zdiv_24, g1, g21, q2]
    exact ih _ _ ⟨rfl, Fr_trans fr (Fr_mono (fun _ _ _ => sRb_ld) f2), c2⟩
  · rintro f k _ M' ⟨rfl, fr, hc⟩
    have g1 := (fr 20 0 1 rfl).trans hC.1
    obtain ⟨M2, q2, f2, c2⟩ := x6_unhear L xs O (D := d + 1) (by omega) M'
    simp (disch := first | omega | rfl | decide) only [e_X6_rebuild_0, e_X6_rebuild_11, e_X6_rebuild_13, e_X6_rebuild_50, e_X6_rebuild_40, xr_v, xr_n, hl_of, hl_cl, hl_toInt, hl_le, hl_lt, hl_eq, nI_add, hl_sub, pk_mul, hl_div, if_pos, if_neg, ↓reduceIte, Nat.reduceAdd, Nat.reduceSub, Nat.reduceMul, Nat.add_zero, Nat.zero_add, mp_s, mp_k, mp_i, mp_g, mr_s, mr_i, mr_g, zlt_0, zlt_1, zlt_2, zlt_3, zlt_4, zlt_5, zlt_6, zlt_8, zlt_12, zlt_15, zlt_20, zlt_24, zlt_36, zlt_40, zlt_48, zlt_80, zlt_97, zlt_120, zlt_256, zlt_600, zlt_99999999, zadd_1, zadd_2, zadd_5, zadd_6, zadd_8, zadd_20, zadd_24, zeq_0, zeq_1, zeq_2, zeq_3, zeq_4, zeq_5, zeq_6, zeq_7, zeq_8, zeq_13, zeq_14, zeq_20, zeq_32, zeq_59, zeq_60, zeq_80, zmul_2, zmul_4, zmul_6, zmul_8, zmul_10, zmul_24, zsub_1, zsub_2, zsub_10, zsub_48, zsub_97, zle_0, zle_1, zle_2, zle_6, zle_11, zle_200, zle_600, zle_100000000, ylt_0, ylt_1, ylt_2, ylt_3, ylt_6, ylt_9, ylt_20, ylt_24, ylt_57, ylt_60, ylt_99, ylt_120, ylt_122, ylt_999, ylt_9999, yle_0, yle_2, yle_4, yle_5, yle_6, yle_7, yle_8, yle_10, yle_12, yle_13, yle_15, yle_16, yle_20, yle_24, yle_40, yle_60, yle_64, yle_80, yadd_1, yadd_22, ymul_2, ymul_4, ymul_6, ymul_8, ymul_10, ymul_24, ymul_27, ymul_100, ysub_1, ysub_24, zdiv_2, zdiv_4, zdiv_24, g1, q2]
    exact isV_i ⟨Fr_trans fr (Fr_mono (fun _ _ _ => sRb_u) f2), CL_fr hc f2 (fun g k hg => decide_eq_false (by have := isLand_le hg; omega)), c2⟩
theorem s_image {d : Nat} (hD : 11 ≤ d) (M : Mem) (hI : INV M) : StpD L xs O (d + 1 + 1) q_X6_image q_X7_image [] M := by
  obtain ⟨T, As, n, nh, ns, nw, na, md, ia, ni, nt, mds, hC⟩ := hI
  obtain ⟨hOK, hCm, hMm⟩ := hC.2.2.2.2.1
  obtain ⟨i1, i2, i3, i4⟩ := hC.2.2.2.2.2.1
  by_cases c : ni = 3
  · refine ⟨-1, M, ?_, mput M 40 0 0 0, ?_, T, As, n, nh, ns, nw, na, md, ia, ni, nt, mds, CORE_t hC⟩
    · refine (EX_in mi_X6_image rfl rfl rfl (ls := [some (.inr (.inr (0, 0)))]) rfl).trans ?_
      rw [e_X6_image_0, i1, if_neg (by rw [zlt_3 (by omega)]; omega)]
    · refine (EX_in mi_X7_image rfl rfl rfl (ls := [some (.inr (.inr (40, 0)))]) rfl).trans ?_
      rw [e_X7_image_0, i2, if_pos (by rw [zeq_3 (by omega)]; exact c)]
  · obtain ⟨M1, q1, f1, c1⟩ := x2_copyFrom L xs O (D := d + 1) (by omega) (1 + ni) 0 (by omega) hOK M hCm
    have a1 : ∀ g i k, ¬ (20 ≤ g ∧ g ≤ 23 ∧ i = 1 + ni) → M1 g i k = M g i k := fun g i k h => f1 g i k (decide_eq_false h)
    have g9 := (a1 0 0 9 (by omega)).trans i1
    have hclass : EX L xs (d + 1 + 1) q_X6_image [.inr (.inr (0, 0))] M O = (some (.inl (some (.inl (nI (ni + 1)))), mput M1 0 0 9 (nI (ni + 1)), O, 0, 0) : Res) := by
      refine (EX_in mi_X6_image rfl rfl rfl (ls := [some (.inr (.inr (0, 0)))]) rfl).trans ?_
      rw [e_X6_image_0, i1, if_pos (by rw [zlt_3 (by omega)]; omega), if_pos (in_3 (by omega)), hl_cl (by omega), q1]
      simp only [xr_n, Nat.reduceAdd, Nat.add_zero]
      rw [e_X6_image_26, g9, zadd_1]
    generalize hM2 : mput M1 0 0 9 (nI (ni + 1)) = M2 at hclass
    have a2 : ∀ g i k, ¬ (20 ≤ g ∧ g ≤ 23 ∧ i = 1 + ni) → ¬ (g = 0 ∧ k = 9) → M2 g i k = M g i k := fun g i k h h2 => by
      have fr : Fr (fun g _ k => decide (g = 0 ∧ k = 9)) M1 M2 := hM2 ▸ Fr_put Fr_refl (decide_eq_true (by omega))
      rw [fr g i k (decide_eq_false h2), a1 g i k h]
    have c2 : CMd M2 (1 + ni) md := CMd_e c1 (fun g k h1 h2 => by rw [← hM2, mp_g (by omega)])
    have hMm2 : MMd (mput M2 40 0 0 0) md := MMd_e hMm (by rw [mp_k (by omega)]; exact a2 40 0 29 (by omega) (by omega)) (by rw [mp_k (by omega)]; exact a2 40 0 30 (by omega) (by omega)) (fun g k h1 h2 => by rw [mp_g (by omega)]; exact a2 g 0 k (by omega) (by omega))
    obtain ⟨M3, q3, a3, k3⟩ := x7_movesAll_0 L xs O (D := d + 1) (by omega) ni hOK (mput M2 40 0 0 0) hMm2
    have z31 : M2 40 0 31 = nI ni := (a2 40 0 31 (by omega) (by omega)).trans i2
    have z31' : M3 40 0 31 = nI ni := by rw [a3 40 0 31 (by omega) (by omega), mp_k (by omega)]; exact z31
    have hmodel : EX L xs (d + 1 + 1) q_X7_image [.inr (.inr (40, 0))] M2 O = (some (.inl (some (.inl (nI (ni + 1)))), mput M3 40 0 31 (nI (ni + 1)), O, 0, 0) : Res) := by
      refine (EX_in mi_X7_image rfl rfl rfl (ls := [some (.inr (.inr (40, 0)))]) rfl).trans ?_
      rw [e_X7_image_0, z31, if_neg (by rw [zeq_3 (by omega)]; exact c), if_pos (in_3 (by omega)), hl_cl (by omega), Nat.zero_add, q3]
      simp only [xr_n, Nat.reduceAdd, Nat.add_zero]
      rw [e_X7_image_29, z31', zadd_1]
    generalize hM4 : mput M3 40 0 31 (nI (ni + 1)) = M4 at hmodel
    have a4 : ∀ g i k, ¬ (20 ≤ g ∧ g ≤ 23 ∧ i = 1 + ni) → ¬ (g = 0 ∧ k = 9) → ¬ (g = 72 ∧ i = ni) → ¬ (g = 40 ∧ (k = 0 ∨ k = 31 ∨ k = 32)) → M4 g i k = M g i k := by
      intro g i k h1 h2 h3 h4
      have fr : Fr (fun g _ k => decide (g = 40 ∧ k = 31)) M3 M4 := hM4 ▸ Fr_put Fr_refl (decide_eq_true (by omega))
      have fr2 : Fr (fun g _ k => decide (g = 40 ∧ k = 0)) M2 (mput M2 40 0 0 0) := Fr_put Fr_refl (decide_eq_true (by omega))
      rw [fr g i k (decide_eq_false (by omega)), a3 g i k h3 (by omega), fr2 g i k (decide_eq_false (by omega)), a2 g i k h1 h2]
    have k4 : KMd M4 ni md := KMd_e k3 (fun k => by rw [← hM4, mp_g (by omega)])
    have c4 : CMd M4 (1 + ni) md := CMd_e c2 (fun g k h1 h2 => by rw [← hM4, mp_g (by omega), a3 g (1 + ni) k (by omega) (by omega), mp_g (by omega)])
    have hMm4 : MMd M4 md := MMd_e hMm (a4 40 0 29 (by omega) (by omega) (by omega) (by omega)) (a4 40 0 30 (by omega) (by omega) (by omega) (by omega)) (fun g k h1 h2 => a4 g 0 k (by omega) (by omega) (by omega) (by omega))
    refine ⟨nI (ni + 1), M2, hclass, M4, hmodel, T, As, n, nh, ns, nw, na, md, ia, ni + 1, nt, (fun j => if j = ni then md else mds j), ?_⟩
    refine ⟨MB_of (MB0_e (MB_0 hC.1) (a4 40 0 26 (by omega) (by omega) (by omega) (by omega)) (fun g i k h1 h2 => a4 g i k (by omega) (by omega) (by omega) (by omega))) hOK hMm4, CW_e hC.2.1 (fun g i k hg => a4 g i k (by omega) (by omega) (by omega) (by omega)), hC.2.2.1, LndC_e hC.2.2.2.1 (fun k hk => a4 0 0 k (by omega) (by omega) (by omega) (by omega)) (fun g i k h1 h2 h3 => a4 g i k (by omega) (by omega) (by omega) (by omega)), ⟨hOK, CMd_e hCm (fun g k h1 h2 => a4 g 0 k (by omega) (by omega) (by omega) (by omega)), hMm4⟩, ⟨?_, ?_, by omega, fun j hj => ?_⟩, TapC_e hC.2.2.2.2.2.2.1 (a4 1 0 1 (by omega) (by omega) (by omega) (by omega)) (a4 40 0 1 (by omega) (by omega) (by omega) (by omega)) (fun i => a4 2 0 i (by omega) (by omega) (by omega) (by omega)) (fun i => a4 41 0 i (by omega) (by omega) (by omega) (by omega)), ?_, fun q hq => ?_⟩
    · rw [← hM4, mp_g (by omega), a3 0 0 9 (by omega) (by omega), mp_g (by omega), ← hM2, mp_s]
    · rw [← hM4, mp_s]
    · show MdOK (if j = ni then md else mds j) nw ∧ CMd M4 (j + 1) (if j = ni then md else mds j) ∧ KMd M4 j (if j = ni then md else mds j)
      by_cases ej : j = ni
      · rw [if_pos ej, ej]
        exact ⟨hOK, Nat.add_comm 1 ni ▸ c4, k4⟩
      · rw [if_neg ej]
        obtain ⟨j1, j2, j3⟩ := i4 j (by omega)
        exact ⟨j1, CMd_e j2 (fun g k h1 h2 => a4 g (j + 1) k (by omega) (by omega) (by omega) (by omega)), KMd_e j3 (fun k => a4 72 j k (by omega) (by omega) (by omega) (by omega))⟩
    · rw [a4 1 0 5 (by omega) (by omega) (by omega) (by omega), a4 40 0 3 (by omega) (by omega) (by omega) (by omega)]
      exact hC.2.2.2.2.2.2.2.1
    · rw [a4 34 0 q (by omega) (by omega) (by omega) (by omega), a4 42 0 q (by omega) (by omega) (by omega) (by omega)]
      exact hC.2.2.2.2.2.2.2.2 q hq
theorem s_restore {d : Nat} (hD : 11 ≤ d) (M : Mem) (hI : INV M) : StpD L xs O (d + 1 + 1) q_X6_restore q_X7_restore [] M := by
  obtain ⟨T, As, n, nh, ns, nw, na, md, ia, ni, nt, mds, hC⟩ := hI
  obtain ⟨hOK, hCm, hMm⟩ := hC.2.2.2.2.1
  obtain ⟨i1, i2, i3, i4⟩ := hC.2.2.2.2.2.1
  by_cases c : ni = 0
  · refine ⟨-1, M, ?_, mput M 40 0 0 0, ?_, T, As, n, nh, ns, nw, na, md, ia, ni, nt, mds, CORE_t hC⟩
    · refine (EX_in mi_X6_restore rfl rfl rfl (ls := [some (.inr (.inr (0, 0)))]) rfl).trans ?_
      rw [e_X6_restore_0, i1, if_neg (by rw [ylt_0 (by omega)]; omega)]
    · refine (EX_in mi_X7_restore rfl rfl rfl (ls := [some (.inr (.inr (40, 0)))]) rfl).trans ?_
      rw [e_X7_restore_0, i2, if_pos (by rw [zeq_0 (by omega)]; exact c)]
  · obtain ⟨m, rfl⟩ : ∃ m, ni = m + 1 := ⟨ni - 1, by omega⟩
    obtain ⟨j1, j2, j3⟩ := i4 m (by omega)
    have es : nI (m + 1) - 1 = nI m := zsub_1 (by omega)
    generalize hM0 : mput M 0 0 9 (nI m) = M0
    have a0 : ∀ g i k, ¬ (g = 0 ∧ k = 9) → M0 g i k = M g i k := fun g i k h => by
      have fr : Fr (fun g _ k => decide (g = 0 ∧ k = 9)) M M0 := hM0 ▸ Fr_put Fr_refl (decide_eq_true (by omega))
      exact fr g i k (decide_eq_false h)
    obtain ⟨M1, q1, f1, c1⟩ := x2_copyFrom L xs O (D := d + 1) (by omega) 0 (1 + m) (by omega) j1 M0 (Nat.add_comm m 1 ▸ CMd_e j2 (fun g k h1 h2 => a0 g (m + 1) k (by omega)))
    have a1 : ∀ g i k, ¬ (20 ≤ g ∧ g ≤ 23 ∧ i = 0) → ¬ (g = 0 ∧ k = 9) → M1 g i k = M g i k := fun g i k h h2 => (f1 g i k (decide_eq_false h)).trans (a0 g i k h2)
    have hL1 : LndC M1 T ia := LndC_e hC.2.2.2.1 (fun k hk => a1 0 0 k (by omega) (by omega)) (fun g i k h1 h2 h3 => a1 g i k (by omega) (by omega))
    obtain ⟨M2, q2, f2, l2, u2⟩ := x6_rebuild L xs O (D := d + 1) (by omega) hC.1.1 j1 ia M1 hL1 c1
    have b9 : M2 0 0 9 = nI m := by rw [f2 0 0 9 rfl, f1 0 0 9 rfl, ← hM0, mp_s]
    have hclass : EX L xs (d + 1 + 1) q_X6_restore [.inr (.inr (0, 0))] M O = (some (.inl (some (.inl (nI m))), M2, O, 0, 0) : Res) := by
      refine (EX_in mi_X6_restore rfl rfl rfl (ls := [some (.inr (.inr (0, 0)))]) rfl).trans ?_
      rw [e_X6_restore_0, i1, if_pos (by rw [ylt_0 (by omega)]; omega), es, if_pos (in_3 (by omega)), hl_cl (by omega), hM0, q1]
      simp only [xr_n, Nat.reduceAdd, Nat.add_zero]
      rw [e_X6_restore_35, q2]
      simp only [xr_n, Nat.reduceAdd, Nat.add_zero]
      rw [e_X6_restore_39, b9]
    have a2 : ∀ g i k, ¬ (20 ≤ g ∧ g ≤ 23 ∧ i = 0) → ¬ (g = 0 ∧ (k = 9 ∨ k = 12)) → ¬ (3 ≤ g ∧ g ≤ 17 ∧ i = 2) → g ≠ 28 → M2 g i k = M g i k := fun g i k h1 h2 h3 h4 => (f2 g i k (decide_eq_false (by omega))).trans (a1 g i k h1 (by omega))
    have c2 : CMd M2 0 (mds m) := CMd_e c1 (fun g k h1 h2 => f2 g 0 k (decide_eq_false (by omega)))
    generalize hM3 : mput (mput M2 40 0 0 0) 40 0 31 (nI m) = M3
    have a3 : ∀ g i k, ¬ (g = 40 ∧ (k = 0 ∨ k = 31)) → M3 g i k = M2 g i k := fun g i k h => by
      have fr : Fr (fun g _ k => decide (g = 40 ∧ (k = 0 ∨ k = 31))) M2 M3 := hM3 ▸ Fr_put (Fr_put Fr_refl (decide_eq_true (by omega))) (decide_eq_true (by omega))
      exact fr g i k (decide_eq_false h)
    have k3 : KMd M3 m (mds m) := KMd_e j3 (fun k => (a3 72 m k (by omega)).trans (a2 72 m k (by omega) (by omega) (by omega) (by omega)))
    obtain ⟨M4, q4, a4, m4⟩ := x7_movesAll_1 L xs O (D := d + 1) (by omega) m j1 M3 k3
    have b31 : M4 40 0 31 = nI m := by rw [a4 40 0 31 (by omega) (by omega), ← hM3, mp_s]
    have z31 : M2 40 0 31 = nI (m + 1) := (a2 40 0 31 (by omega) (by omega) (by omega) (by omega)).trans i2
    have hmodel : EX L xs (d + 1 + 1) q_X7_restore [.inr (.inr (40, 0))] M2 O = (some (.inl (some (.inl (nI m))), M4, O, 0, 0) : Res) := by
      refine (EX_in mi_X7_restore rfl rfl rfl (ls := [some (.inr (.inr (40, 0)))]) rfl).trans ?_
      rw [e_X7_restore_0, z31, if_neg (by rw [zeq_0 (by omega)]; omega), es, if_pos (in_3 (by omega)), hl_cl (by omega), Nat.zero_add, hM3, q4]
      simp only [xr_n, Nat.reduceAdd, Nat.add_zero]
      rw [e_X7_restore_38, b31]
    have a5 : ∀ g i k, ¬ (20 ≤ g ∧ g ≤ 23 ∧ i = 0) → ¬ (g = 0 ∧ (k = 9 ∨ k = 12)) → ¬ (3 ≤ g ∧ g ≤ 17 ∧ i = 2) → g ≠ 28 → ¬ (68 ≤ g ∧ g ≤ 70) → ¬ (g = 40 ∧ (k = 0 ∨ k = 29 ∨ k = 30 ∨ k = 31 ∨ k = 32)) → M4 g i k = M g i k := by
      intro g i k h1 h2 h3 h4 h5 h6
      rw [a4 g i k h5 (by omega), a3 g i k (by omega), a2 g i k h1 h2 h3 h4]
    have a42 : ∀ g i k, g < 40 → M4 g i k = M2 g i k := fun g i k h => (a4 g i k (by omega) (by omega)).trans (a3 g i k (by omega))
    refine ⟨nI m, M2, hclass, M4, hmodel, T, As, n, nh, ns, nw, na, mds m, ia, m, nt, mds, ?_⟩
    refine ⟨MB_of (MB0_e (MB_0 hC.1) (a5 40 0 26 (by omega) (by omega) (by omega) (by omega) (by omega) (by omega)) (fun g i k h1 h2 => a5 g i k (by omega) (by omega) (by omega) (by omega) (by omega) (by omega))) j1 m4, ?_, hC.2.2.1, LndC_e hC.2.2.2.1 (fun k hk => a5 0 0 k (by omega) (by omega) (by omega) (by omega) (by omega) (by omega)) (fun g i k h1 h2 h3 => a5 g i k (by omega) (by omega) (by omega) (by omega) (by omega) (by omega)), ⟨j1, CMd_e c2 (fun g k h1 h2 => a42 g 0 k (by omega)), m4⟩, ⟨(a42 0 0 9 (by omega)).trans b9, b31, by omega, fun j hj => ?_⟩, TapC_e hC.2.2.2.2.2.2.1 (a5 1 0 1 (by omega) (by omega) (by omega) (by omega) (by omega) (by omega)) (a5 40 0 1 (by omega) (by omega) (by omega) (by omega) (by omega) (by omega)) (fun i => a5 2 0 i (by omega) (by omega) (by omega) (by omega) (by omega) (by omega)) (fun i => a5 41 0 i (by omega) (by omega) (by omega) (by omega) (by omega) (by omega)), ?_, fun q hq => ?_⟩
    · refine CW_0 (M := M) (perfL_ok hC.1.1 _ _ j1.2.1) (fun g k hl => ?_) ⟨fun i hi => ?_, ?_⟩ hC.2.1.2.2.1 hC.2.1.2.2.2.1 hC.2.1.2.2.2.2.1 (a5 0 0 6 (by omega) (by omega) (by omega) (by omega) (by omega) (by omega)) (fun g i k hg => a5 g i k (by omega) (by omega) (by omega) (by omega) (by omega) (by omega))
      · rw [a42 g 2 k (by have := isLand_le (lk_land hl); omega)]
        exact l2 g k hl
      · rw [a42 28 0 i (by omega)]
        exact u2.1 i hi
      · rw [a42 0 0 12 (by omega)]
        exact u2.2
    · obtain ⟨p1, p2, p3⟩ := i4 j (by omega)
      exact ⟨p1, CMd_e p2 (fun g k h1 h2 => a5 g (j + 1) k (by omega) (by omega) (by omega) (by omega) (by omega) (by omega)), KMd_e p3 (fun k => a5 72 j k (by omega) (by omega) (by omega) (by omega) (by omega) (by omega))⟩
    · rw [a5 1 0 5 (by omega) (by omega) (by omega) (by omega) (by omega) (by omega), a5 40 0 3 (by omega) (by omega) (by omega) (by omega) (by omega) (by omega)]
      exact hC.2.2.2.2.2.2.2.1
    · rw [a5 34 0 q (by omega) (by omega) (by omega) (by omega) (by omega) (by omega), a5 42 0 q (by omega) (by omega) (by omega) (by omega) (by omega) (by omega)]
      exact hC.2.2.2.2.2.2.2.2 q hq
end
