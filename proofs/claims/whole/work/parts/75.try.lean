/-! The class tries WORKS. -/
theorem perfS_g {V : Vw} {b : Int32} {g k : Nat} (h4 : g ≠ 4) (h6 : g ≠ 6) (h8 : g ≠ 8) (h11 : g ≠ 11) : ∀ w, perfS V b w g k = V g k := by
  intro w
  induction w with
  | zero => rfl
  | succ w ih =>
    unfold perfS
    split
    · rw [perf_g h4 h6 h8 h11, ih]
    · exact ih
theorem sK_ld {g i k : Nat} (h : sK g i k = false) : sLd 3 g i k = false := by
  have := of_decide_eq_false h
  by_cases e : i = 3
  · by_cases e2 : 3 ≤ g ∧ g ≤ 17
    · omega
    · refine sLd_g ?_
      cases e3 : isLand g with
      | false => rfl
      | true => exact absurd (isLand_le e3) e2
  · exact sLd_i e
section
variable (L : Nat) (xs : Nat → Int32) (O : Int64)
theorem tw2 (d : Nat) (hd : 3 ≤ d + 1) (b a1 : Int32) (h : Nat) (hh : h < 24) {W : Vw} {A : Nat → Int32} {n nh ns nw : Nat} (hW : VOK W n nh ns nw) (M : Mem) (hL : CL M 3 W) (hr : ∀ y, y < n → M 30 0 y = mostF W A n h y ns) : ∀ r fuel k j, j + r = nh → r ≤ fuel →
    BK L xs (EX L xs (d + 1)) mi_X6_tryWorks (RN L xs (d) mi_X6_tryWorks fuel) (k + 100) 76 [some (.inr (.inr (0, 0))), some (.inl (b)), some (.inl (a1)), some (.inl (nI h)), some (.inr (.inr (30, 0))), some (.inl (bitsF (fun k => hearF W A n ns h k) j)), some (.inl (nI j))] [] M O none 0 0 = (some (.inl (some (.inl (bitsF (fun k => hearF W A n ns h k) nh))), M, O, 0, 0) : Res) := by
  have v5 : n ≤ 40 := hW.2.2.2.2.2.1
  have v6 : nh ≤ 8 := hW.2.2.2.2.2.2.1
  have g4 := (hL 3 4 rfl).trans hW.2.1
  intro r
  induction r with
  | zero =>
    intro fuel k j hj hf
    obtain rfl : j = nh := by omega
    simp (disch := first | omega | rfl | decide) only [e_X6_tryWorks_76, xr_v, xr_n, hl_of, hl_cl, hl_toInt, hl_le, hl_lt, hl_eq, nI_add, hl_sub, pk_mul, hl_div, if_pos, if_neg, ↓reduceIte, Nat.reduceAdd, Nat.reduceSub, Nat.reduceMul, Nat.add_zero, Nat.zero_add, mp_s, mp_k, mp_i, mp_g, mr_s, mr_i, mr_g, zlt_0, zlt_1, zlt_2, zlt_3, zlt_4, zlt_5, zlt_6, zlt_8, zlt_12, zlt_15, zlt_20, zlt_24, zlt_36, zlt_40, zlt_48, zlt_80, zlt_97, zlt_120, zlt_256, zlt_600, zlt_99999999, zadd_1, zadd_2, zadd_5, zadd_6, zadd_8, zadd_20, zadd_24, zeq_0, zeq_1, zeq_2, zeq_3, zeq_4, zeq_5, zeq_6, zeq_7, zeq_8, zeq_13, zeq_14, zeq_20, zeq_32, zeq_59, zeq_60, zeq_80, zmul_2, zmul_4, zmul_6, zmul_8, zmul_10, zmul_24, zsub_1, zsub_2, zsub_10, zsub_48, zsub_97, zle_0, zle_1, zle_2, zle_6, zle_11, zle_200, zle_600, zle_100000000, ylt_0, ylt_1, ylt_2, ylt_3, ylt_6, ylt_9, ylt_20, ylt_24, ylt_57, ylt_60, ylt_99, ylt_120, ylt_122, ylt_999, ylt_9999, yle_0, yle_2, yle_4, yle_5, yle_6, yle_7, yle_8, yle_10, yle_12, yle_13, yle_15, yle_16, yle_20, yle_24, yle_40, yle_60, yle_64, yle_80, yadd_1, yadd_22, ymul_2, ymul_4, ymul_6, ymul_8, ymul_10, ymul_24, ymul_27, ymul_100, ysub_1, ysub_24, zdiv_2, zdiv_4, zdiv_24, g4]
  | succ r ih =>
    intro fuel k j hj hf
    obtain ⟨f, rfl⟩ : ∃ f, fuel = f + 1 := ⟨fuel - 1, by omega⟩
    have vc := hW.2.2.2.2.2.2.2.2.2.2.2.2.1 j (by omega)
    have g7 := (hL 7 j (decide_eq_true (show j < 8 by omega))).trans vc.1
    have vc2 := vc.2
    have g30 := hr _ vc.2
    have q1 := x1_need L xs O (D := d + 1) (by omega) 3 j h (by omega) hh M hL
    have ih' := ih f 2900 (j + 1) (by omega) (by omega)
    rw [show bitsF (fun k => hearF W A n ns h k) (j + 1) = if hearF W A n ns h j = true then bitsF (fun k => hearF W A n ns h k) j ||| (1 <<< (nI j &&& 31)) else bitsF (fun k => hearF W A n ns h k) j from rfl] at ih'
    by_cases c : mostF W A n h (vN W 7 j) ns < needF (W 8) (W 9) j h
    · rw [show hearF W A n ns h j = false from decide_eq_false (fun e => e c), if_neg Bool.false_ne_true] at ih'
      simp (disch := first | omega | rfl | decide) only [e_X6_tryWorks_76, e_X6_tryWorks_111, e_X6_tryWorks_123, xr_v, xr_n, hl_of, hl_cl, hl_toInt, hl_le, hl_lt, hl_eq, nI_add, hl_sub, pk_mul, hl_div, if_pos, if_neg, ↓reduceIte, Nat.reduceAdd, Nat.reduceSub, Nat.reduceMul, Nat.add_zero, Nat.zero_add, mp_s, mp_k, mp_i, mp_g, mr_s, mr_i, mr_g, zlt_0, zlt_1, zlt_2, zlt_3, zlt_4, zlt_5, zlt_6, zlt_8, zlt_12, zlt_15, zlt_20, zlt_24, zlt_36, zlt_40, zlt_48, zlt_80, zlt_97, zlt_120, zlt_256, zlt_600, zlt_99999999, zadd_1, zadd_2, zadd_5, zadd_6, zadd_8, zadd_20, zadd_24, zeq_0, zeq_1, zeq_2, zeq_3, zeq_4, zeq_5, zeq_6, zeq_7, zeq_8, zeq_13, zeq_14, zeq_20, zeq_32, zeq_59, zeq_60, zeq_80, zmul_2, zmul_4, zmul_6, zmul_8, zmul_10, zmul_24, zsub_1, zsub_2, zsub_10, zsub_48, zsub_97, zle_0, zle_1, zle_2, zle_6, zle_11, zle_200, zle_600, zle_100000000, ylt_0, ylt_1, ylt_2, ylt_3, ylt_6, ylt_9, ylt_20, ylt_24, ylt_57, ylt_60, ylt_99, ylt_120, ylt_122, ylt_999, ylt_9999, yle_0, yle_2, yle_4, yle_5, yle_6, yle_7, yle_8, yle_10, yle_12, yle_13, yle_15, yle_16, yle_20, yle_24, yle_40, yle_60, yle_64, yle_80, yadd_1, yadd_22, ymul_2, ymul_4, ymul_6, ymul_8, ymul_10, ymul_24, ymul_27, ymul_100, ysub_1, ysub_24, zdiv_2, zdiv_4, zdiv_24, g4, g7, g30, q1, c]
      exact RN_of ih'
    · rw [show hearF W A n ns h j = true from decide_eq_true c, if_pos rfl] at ih'
      simp (disch := first | omega | rfl | decide) only [e_X6_tryWorks_76, e_X6_tryWorks_111, e_X6_tryWorks_123, xr_v, xr_n, hl_of, hl_cl, hl_toInt, hl_le, hl_lt, hl_eq, nI_add, hl_sub, pk_mul, hl_div, if_pos, if_neg, ↓reduceIte, Nat.reduceAdd, Nat.reduceSub, Nat.reduceMul, Nat.add_zero, Nat.zero_add, mp_s, mp_k, mp_i, mp_g, mr_s, mr_i, mr_g, zlt_0, zlt_1, zlt_2, zlt_3, zlt_4, zlt_5, zlt_6, zlt_8, zlt_12, zlt_15, zlt_20, zlt_24, zlt_36, zlt_40, zlt_48, zlt_80, zlt_97, zlt_120, zlt_256, zlt_600, zlt_99999999, zadd_1, zadd_2, zadd_5, zadd_6, zadd_8, zadd_20, zadd_24, zeq_0, zeq_1, zeq_2, zeq_3, zeq_4, zeq_5, zeq_6, zeq_7, zeq_8, zeq_13, zeq_14, zeq_20, zeq_32, zeq_59, zeq_60, zeq_80, zmul_2, zmul_4, zmul_6, zmul_8, zmul_10, zmul_24, zsub_1, zsub_2, zsub_10, zsub_48, zsub_97, zle_0, zle_1, zle_2, zle_6, zle_11, zle_200, zle_600, zle_100000000, ylt_0, ylt_1, ylt_2, ylt_3, ylt_6, ylt_9, ylt_20, ylt_24, ylt_57, ylt_60, ylt_99, ylt_120, ylt_122, ylt_999, ylt_9999, yle_0, yle_2, yle_4, yle_5, yle_6, yle_7, yle_8, yle_10, yle_12, yle_13, yle_15, yle_16, yle_20, yle_24, yle_40, yle_60, yle_64, yle_80, yadd_1, yadd_22, ymul_2, ymul_4, ymul_6, ymul_8, ymul_10, ymul_24, ymul_27, ymul_100, ysub_1, ysub_24, zdiv_2, zdiv_4, zdiv_24, g4, g7, g30, q1, c]
      exact RN_of ih'
theorem tw1 {M0 : Mem} {V : Vw} {As : Nat → Nat → Int32} {n nh ns nw na : Nat} (d : Nat) (hd : 5 ≤ d + 1) (b : Int32) (a h : Nat) (ha : a < na) (hh : h < 24) (Mk : Mem) : ∀ r fuel k w u5 u6 M, w + r = nw → r + 20 ≤ fuel → CQ M0 V As n nh ns nw na M → Fr sK Mk M → CL M 3 (perfS V b w) →
    isI (BK L xs (EX L xs (d + 1)) mi_X6_tryWorks (RN L xs (d) mi_X6_tryWorks fuel) (k + 200) 14 [some (.inr (.inr (0, 0))), some (.inl (b)), some (.inl (nI a)), some (.inl (nI h)), some (.inl (nI w)), u5, u6] [] M O none 0 0) O (tryF V (As a) n nh ns nw h b) (fun M' => CQ M0 V As n nh ns nw na M' ∧ Fr sK Mk M') := by
  intro r
  induction r with
  | zero =>
    intro fuel k w u5 u6 M hj hf hM hk hL
    obtain rfl : w = nw := by omega
    have v8 : w ≤ 8 := hM.2.1.2.2.2.2.2.2.2.2.1
    have v6 : nh ≤ 8 := hM.2.1.2.2.2.2.2.2.1
    have h6 := hM.2.2.2.2.1
    have g13 := (hM.2.2.1 3 13 rfl).trans hM.2.1.2.2.2.1
    have hW := perfS_ok hM.2.1 b w (Nat.le_refl _)
    obtain ⟨M1, q1, f1, r1⟩ := x4_inHour L xs O (D := d + 1) (by omega) 3 a h hW M hL (hM.2.2.2.2.2.1 a ha)
    rw [e_X6_tryWorks_14, g13, if_pos (by rw [hl_le (by omega) (by omega)]; omega), if_pos (in_6 (by omega)), hl_cl (by omega), Nat.zero_add, q1]
    simp only [xr_v, Nat.reduceAdd, Nat.add_zero]
    rw [e_X6_tryWorks_68]
    refine isI_e (tw2 L xs O d (by omega) b (nI a) h hh hW M1 (CL_fr hL f1 (sH_land 3)) r1 nh fuel _ 0 (by omega) (by omega)) (isI_i ⟨CQ_fr hM (Fr_mono (fun _ _ _ => sH_K) f1), Fr_trans hk (Fr_mono (fun _ _ _ => sH_K) f1)⟩)
  | succ r ih =>
    intro fuel k w u5 u6 M hj hf hM hk hL
    obtain ⟨f, rfl⟩ : ∃ f, fuel = f + 1 := ⟨fuel - 1, by omega⟩
    have v8 : nw ≤ 8 := hM.2.1.2.2.2.2.2.2.2.2.1
    have g13 := (hM.2.2.1 3 13 rfl).trans hM.2.1.2.2.2.1
    have q1 := x6_bit L xs O (D := d + 1) (by omega) b w M
    have hp : perfS V b (w + 1) = if bitB b w = true then perfV (perfS V b w) w else perfS V b w := rfl
    cases c : bitB b w with
    | false =>
      rw [c, if_neg Bool.false_ne_true] at hp
      rw [c, b2i_f] at q1
      simp (disch := first | omega | rfl | decide) only [e_X6_tryWorks_14, e_X6_tryWorks_32, e_X6_tryWorks_44, xr_v, xr_n, hl_of, hl_cl, hl_toInt, hl_le, hl_lt, hl_eq, nI_add, hl_sub, pk_mul, hl_div, if_pos, if_neg, ↓reduceIte, Nat.reduceAdd, Nat.reduceSub, Nat.reduceMul, Nat.add_zero, Nat.zero_add, mp_s, mp_k, mp_i, mp_g, mr_s, mr_i, mr_g, zlt_0, zlt_1, zlt_2, zlt_3, zlt_4, zlt_5, zlt_6, zlt_8, zlt_12, zlt_15, zlt_20, zlt_24, zlt_36, zlt_40, zlt_48, zlt_80, zlt_97, zlt_120, zlt_256, zlt_600, zlt_99999999, zadd_1, zadd_2, zadd_5, zadd_6, zadd_8, zadd_20, zadd_24, zeq_0, zeq_1, zeq_2, zeq_3, zeq_4, zeq_5, zeq_6, zeq_7, zeq_8, zeq_13, zeq_14, zeq_20, zeq_32, zeq_59, zeq_60, zeq_80, zmul_2, zmul_4, zmul_6, zmul_8, zmul_10, zmul_24, zsub_1, zsub_2, zsub_10, zsub_48, zsub_97, zle_0, zle_1, zle_2, zle_6, zle_11, zle_200, zle_600, zle_100000000, ylt_0, ylt_1, ylt_2, ylt_3, ylt_6, ylt_9, ylt_20, ylt_24, ylt_57, ylt_60, ylt_99, ylt_120, ylt_122, ylt_999, ylt_9999, yle_0, yle_2, yle_4, yle_5, yle_6, yle_7, yle_8, yle_10, yle_12, yle_13, yle_15, yle_16, yle_20, yle_24, yle_40, yle_60, yle_64, yle_80, yadd_1, yadd_22, ymul_2, ymul_4, ymul_6, ymul_8, ymul_10, ymul_24, ymul_27, ymul_100, ysub_1, ysub_24, zdiv_2, zdiv_4, zdiv_24, g13, q1]
      refine isI_e (RN_s _ _ _ _ _ _ _ _ _ _ _ _) ?_
      exact ih f _ (w + 1) u5 u6 M (by omega) (by omega) hM hk (hp ▸ hL)
    | true =>
      rw [c, if_pos rfl] at hp
      rw [c, b2i_t] at q1
      obtain ⟨M1, q2, f2, l2⟩ := x1_perform L xs O (D := d + 1) (by omega) 3 w (perfS_ok hM.2.1 b w (by omega)) (by omega) M hL
      simp (disch := first | omega | rfl | decide) only [e_X6_tryWorks_14, e_X6_tryWorks_32, e_X6_tryWorks_44, xr_v, xr_n, hl_of, hl_cl, hl_toInt, hl_le, hl_lt, hl_eq, nI_add, hl_sub, pk_mul, hl_div, if_pos, if_neg, ↓reduceIte, Nat.reduceAdd, Nat.reduceSub, Nat.reduceMul, Nat.add_zero, Nat.zero_add, mp_s, mp_k, mp_i, mp_g, mr_s, mr_i, mr_g, zlt_0, zlt_1, zlt_2, zlt_3, zlt_4, zlt_5, zlt_6, zlt_8, zlt_12, zlt_15, zlt_20, zlt_24, zlt_36, zlt_40, zlt_48, zlt_80, zlt_97, zlt_120, zlt_256, zlt_600, zlt_99999999, zadd_1, zadd_2, zadd_5, zadd_6, zadd_8, zadd_20, zadd_24, zeq_0, zeq_1, zeq_2, zeq_3, zeq_4, zeq_5, zeq_6, zeq_7, zeq_8, zeq_13, zeq_14, zeq_20, zeq_32, zeq_59, zeq_60, zeq_80, zmul_2, zmul_4, zmul_6, zmul_8, zmul_10, zmul_24, zsub_1, zsub_2, zsub_10, zsub_48, zsub_97, zle_0, zle_1, zle_2, zle_6, zle_11, zle_200, zle_600, zle_100000000, ylt_0, ylt_1, ylt_2, ylt_3, ylt_6, ylt_9, ylt_20, ylt_24, ylt_57, ylt_60, ylt_99, ylt_120, ylt_122, ylt_999, ylt_9999, yle_0, yle_2, yle_4, yle_5, yle_6, yle_7, yle_8, yle_10, yle_12, yle_13, yle_15, yle_16, yle_20, yle_24, yle_40, yle_60, yle_64, yle_80, yadd_1, yadd_22, ymul_2, ymul_4, ymul_6, ymul_8, ymul_10, ymul_24, ymul_27, ymul_100, ysub_1, ysub_24, zdiv_2, zdiv_4, zdiv_24, g13, q1, q2]
      refine isI_e (RN_s _ _ _ _ _ _ _ _ _ _ _ _) ?_
      exact ih f _ (w + 1) u5 u6 M1 (by omega) (by omega) (CQ_fr hM (Fr_mono (fun _ _ _ => sK_ld) f2)) (Fr_trans hk (Fr_mono (fun _ _ _ => sK_ld) f2)) (hp ▸ l2)
theorem x6_tryWorks {M0 : Mem} {V : Vw} {As : Nat → Nat → Int32} {n nh ns nw na : Nat} {D : Nat} (hD : 6 ≤ D) (b : Int32) (a h : Nat) (ha : a < na) (hh : h < 24) (M : Mem) (hM : CQ M0 V As n nh ns nw na M) : isI (EX L xs (D) q_X6_tryWorks [.inr (.inr (0, 0)), .inl (b), .inl (nI a), .inl (nI h)] M O) O (tryF V (As a) n nh ns nw h b) (fun M' => CQ M0 V As n nh ns nw na M' ∧ Fr sK M M') := by
  have v8 : nw ≤ 8 := hM.2.1.2.2.2.2.2.2.2.2.1
  obtain ⟨d, rfl⟩ : ∃ d, D = d + 2 := ⟨D - 2, by omega⟩
  refine isI_e (EX_in mi_X6_tryWorks rfl rfl rfl (ls := [some (.inr (.inr (0, 0))), some (.inl (b)), some (.inl (nI a)), some (.inl (nI h)), none, none, none]) rfl) ?_
  obtain ⟨M1, q1, f1, l1⟩ := x1_copyFrom L xs O (D := d + 1) (by omega) 3 2 (by omega) M hM.2.2.1
  rw [e_X6_tryWorks_0, q1]
  simp only [xr_n, Nat.reduceAdd, Nat.add_zero]
  rw [e_X6_tryWorks_11]
  exact tw1 L xs O d (by omega) b a h ha hh M nw FUEL _ 0 none none M1 (by omega) (Nat.le_of_lt (FU (by omega))) (CQ_fr hM (Fr_mono (fun _ _ _ => sK_ld) f1)) (Fr_mono (fun _ _ _ => sK_ld) f1) l1
/-- what is kept of HOUSES that hear, put in -/
theorem CC_hear {V : Vw} {As : Nat → Nat → Int32} {n nh ns nw na : Nat} {M M' : Mem} (h : CC M V As n nh ns nw na) (e27 : ∀ i k, M' 27 i k = M 27 i k) (e28 : ∀ k, M' 28 0 k = M 28 0 k) (h' : M' 0 0 12 = -1 ∨ ∃ a h, a < na ∧ h < 24 ∧ M' 0 0 12 = nI a ∧ M' 0 0 13 = nI h ∧ ∀ b, b < 256 → M' 33 0 b = -1 ∨ M' 33 0 b = tryF V (As a) n nh ns nw h (nI b)) : CC M' V As n nh ns nw na := by
  refine ⟨fun i hi => ?_, h'⟩
  rw [e28 i]
  rcases h.1 i hi with h1 | ⟨h1, a, s, ha, hs, hi', hr⟩
  · exact Or.inl h1
  · refine Or.inr ⟨h1, a, s, ha, hs, hi', fun y hy => ?_⟩
    rw [e27 i y]
    exact hr y hy
theorem x6_hearersWith {M0 : Mem} {V : Vw} {As : Nat → Nat → Int32} {n nh ns nw na : Nat} {D : Nat} (hD : 7 ≤ D) (b a h : Nat) (hb : b < 256) (ha : a < na) (hh : h < 24) (M : Mem) (hM : CQ M0 V As n nh ns nw na M) : isI (EX L xs (D) q_X6_hearersWith [.inr (.inr (0, 0)), .inl (nI b), .inl (nI a), .inl (nI h)] M O) O (tryF V (As a) n nh ns nw h (nI b)) (CQ M0 V As n nh ns nw na) := by
  have h6 := hM.2.2.2.2.1
  have hin := in_256 hb
  have hcl : (nI b).toNatClampNeg = b := hl_cl (by omega)
  obtain ⟨d, rfl⟩ : ∃ d, D = d + 2 := ⟨D - 2, by omega⟩
  refine isI_e (EX_in mi_X6_hearersWith rfl rfl rfl (ls := [some (.inr (.inr (0, 0))), some (.inl (nI b)), some (.inl (nI a)), some (.inl (nI h))]) rfl) ?_
  have key : ∀ k M, CQ M0 V As n nh ns nw na M → M 0 0 12 = nI a → M 0 0 13 = nI h → (∀ c, c < 256 → M 33 0 c = -1 ∨ M 33 0 c = tryF V (As a) n nh ns nw h (nI c)) →
      isI (BK L xs (EX L xs (d + 1)) mi_X6_hearersWith (RN L xs (d) mi_X6_hearersWith FUEL) (k + 60) 34 [some (.inr (.inr (0, 0))), some (.inl (nI b)), some (.inl (nI a)), some (.inl (nI h))] [] M O none 0 0) O (tryF V (As a) n nh ns nw h (nI b)) (CQ M0 V As n nh ns nw na) := by
    intro k M hM h12 h13 hk
    rw [e_X6_hearersWith_34, if_pos hin, hcl]
    by_cases c : M 33 0 b = -1
    · obtain ⟨M1, q1, h1, k1⟩ := x6_tryWorks L xs O (D := d + 1) (by omega) (nI b) a h ha hh M hM
      rw [if_pos c, q1]
      simp only [xr_v, Nat.reduceAdd, Nat.add_zero]
      rw [e_X6_hearersWith_56, if_pos hin, hcl, e_X6_hearersWith_57, if_pos hin, hcl, mp_s]
      refine isI_i ⟨Fr_put h1.1 rfl, CW_fr h1.2 (Fr_put Fr_refl rfl) ?_⟩
      refine CC_hear h1.2.2.2.2.2.2 (fun i k => mp_g (by omega)) (fun k => mp_g (by omega)) ?_
      rw [mp_g (by omega), mp_g (by omega)]
      refine Or.inr ⟨a, h, ha, hh, (k1 0 0 12 rfl).trans h12, (k1 0 0 13 rfl).trans h13, fun c hc => ?_⟩
      by_cases e : c = b
      · rw [e, mp_s]
        exact Or.inr rfl
      · rw [mp_k e, k1 33 0 c rfl]
        exact hk c hc
    · rw [if_neg c, e_X6_hearersWith_57, if_pos hin, hcl, (hk b hb).resolve_left c]
      exact isI_i hM
  have new : ∀ k, isI (BK L xs (EX L xs (d + 1)) mi_X6_hearersWith (RN L xs (d) mi_X6_hearersWith FUEL) (k + 100) 16 [some (.inr (.inr (0, 0))), some (.inl (nI b)), some (.inl (nI a)), some (.inl (nI h))] [] M O none 0 0) O (tryF V (As a) n nh ns nw h (nI b)) (CQ M0 V As n nh ns nw na) := by
    intro k
    obtain ⟨M1, q1, f1, r1⟩ := x_fill10 L xs O (D := d + 1) (by omega) 0 (-1) M
    rw [e_X6_hearersWith_16, q1]
    simp only [xr_n, Nat.reduceAdd, Nat.add_zero]
    rw [e_X6_hearersWith_24]
    have f2 : Fr sC M (mput (mput M1 0 0 12 (nI a)) 0 0 13 (nI h)) := Fr_put (Fr_put (Fr_mono (fun _ _ _ => sC_row (by omega)) f1) rfl) rfl
    have r2 : ∀ c, c < 256 → mput (mput M1 0 0 12 (nI a)) 0 0 13 (nI h) 33 0 c = -1 := fun c hc => by
      rw [mp_g (by omega), mp_g (by omega)]
      exact r1 c hc
    refine key _ _ ⟨Fr_trans hM.1 f2, CW_fr hM.2 f2 (CC_hear hM.2.2.2.2.2.2 (fun i k => ?_) (fun k => ?_) ?_)⟩ (by rw [mp_k (by omega), mp_s]) (by rw [mp_s]) (fun c hc => Or.inl (r2 c hc))
    · rw [mp_g (by omega), mp_g (by omega)]
      exact f1 27 i k rfl
    · rw [mp_g (by omega), mp_g (by omega)]
      exact f1 28 0 k rfl
    · exact Or.inr ⟨a, h, ha, hh, by rw [mp_k (by omega), mp_s], by rw [mp_s], fun c hc => Or.inl (r2 c hc)⟩
  rw [e_X6_hearersWith_0]
  by_cases c1 : M 0 0 12 = nI a
  · by_cases c2 : M 0 0 13 = nI h
    · rw [if_pos c1, if_pos c2]
      refine key _ M hM c1 c2 ?_
      rcases hM.2.2.2.2.2.2.2 with h2 | ⟨a', t, ha', ht, h2, h3, h4⟩
      · rw [c1] at h2
        exact absurd h2 (by
          intro e
          have := nn_n a (by omega)
          rw [e] at this
          exact this (by decide))
      · rw [c1, hl_eq (by omega) (by omega)] at h2
        rw [c2, hl_eq (by omega) (by omega)] at h3
        subst h2
        subst h3
        exact h4
    · rw [if_pos c1, if_neg c2]
      exact new _
  · rw [if_neg c1]
    exact new _
end
