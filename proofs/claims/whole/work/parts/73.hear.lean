/-! The class: who hears; WORKS tried. -/
def sH (g _i _k : Nat) : Bool := decide (g = 25 ∨ g = 29 ∨ g = 30)
theorem sH_K {g i k : Nat} (h : sK g i k = false) : sH g i k = false := by
  have := of_decide_eq_false h
  exact decide_eq_false (by omega)
theorem sH_sp {ir g i k : Nat} (h : sH g i k = false) : sSp 29 ir g i k = false := by
  have := of_decide_eq_false h
  unfold sSp
  rw [beq_n (by omega), beq_n (by omega)]
  rfl
theorem sH_row {ir g i k : Nat} (h : sH g i k = false) : sRow 30 ir g i k = false := by
  have := of_decide_eq_false h
  exact sRow_g (by omega)
theorem sH_land (i g k : Nat) (h : isLand g = true) : sH g i k = false := by
  have := isLand_le h
  exact decide_eq_false (by omega)
section
variable (L : Nat) (xs : Nat → Int32) (O : Int64)
theorem x6_houseHears {M0 : Mem} {V : Vw} {As : Nat → Nat → Int32} {n nh ns nw na : Nat} {D : Nat} (hD : 8 ≤ D) (k a h : Nat) (hk : k < nh) (ha : a < na) (hh : h < 24) (M : Mem) (hM : CQ M0 V As n nh ns nw na M) : isI (EX L xs (D) q_X6_houseHears [.inr (.inr (0, 0)), .inl (nI k), .inl (nI a), .inl (nI h)] M O) O (b2i (hearF V (As a) n ns h k)) (CQ M0 V As n nh ns nw na) := by
  have hV := hM.2.1
  have v6 : nh ≤ 8 := hV.2.2.2.2.2.2.1
  have vc := hV.2.2.2.2.2.2.2.2.2.2.2.2.1 k hk
  have g7 := (hM.2.2.1 7 k (decide_eq_true (show k < 8 by omega))).trans vc.1
  obtain ⟨d, rfl⟩ : ∃ d, D = d + 2 := ⟨D - 2, by omega⟩
  refine isI_e (EX_in mi_X6_houseHears rfl rfl rfl (ls := [some (.inr (.inr (0, 0))), some (.inl (nI k)), some (.inl (nI a)), some (.inl (nI h))]) rfl) ?_
  obtain ⟨M1, q1, h1⟩ := x6_loudIn L xs O (D := d + 1) (by omega) (vN V 7 k) a h vc.2 ha M hM
  rw [e_X6_houseHears_0, if_pos (in_8 (by omega)), hl_cl (by omega), g7, q1]
  simp only [xr_v, Nat.reduceAdd, Nat.add_zero]
  rw [e_X6_houseHears_15, x1_need L xs O (D := d + 1) (by omega) 2 k h (by omega) hh M1 h1.2.2.1]
  simp only [xr_v, Nat.reduceAdd, Nat.add_zero]
  rw [e_X6_houseHears_24]
  unfold hearF
  by_cases c : mostF V (As a) n h (vN V 7 k) ns < needF (V 8) (V 9) k h
  · rw [if_pos c, decide_eq_false (fun e => e c), e_X6_houseHears_32, if_pos (Or.inl rfl)]
    exact isI_i h1
  · rw [if_neg c, decide_eq_true c, e_X6_houseHears_32, if_pos (Or.inr rfl)]
    exact isI_i h1
theorem x6_hearsAlone {M0 : Mem} {V : Vw} {As : Nat → Nat → Int32} {n nh ns nw na : Nat} {D : Nat} (hD : 7 ≤ D) (k a s h : Nat) (hk : k < nh) (ha : a < na) (hs : s < ns) (hh : h < 24) (M : Mem) (hM : CQ M0 V As n nh ns nw na M) : isI (EX L xs (D) q_X6_hearsAlone [.inr (.inr (0, 0)), .inl (nI k), .inl (nI a), .inl (nI s), .inl (nI h)] M O) O (b2i (oneF V (As a) n h k s)) (CQ M0 V As n nh ns nw na) := by
  have hV := hM.2.1
  have v5 : n ≤ 40 := hV.2.2.2.2.2.1
  have v6 : nh ≤ 8 := hV.2.2.2.2.2.2.1
  have v7 : ns ≤ 6 := hV.2.2.2.2.2.2.2.1
  have vc := hV.2.2.2.2.2.2.2.2.2.2.2.2.1 k hk
  obtain ⟨d, rfl⟩ : ∃ d, D = d + 2 := ⟨D - 2, by omega⟩
  refine isI_e (EX_in mi_X6_hearsAlone rfl rfl rfl (ls := [some (.inr (.inr (0, 0))), some (.inl (nI k)), some (.inl (nI a)), some (.inl (nI s)), some (.inl (nI h))]) rfl) ?_
  rw [e_X6_hearsAlone_0, x1_snd L xs O (D := d + 1) (by omega) 2 s h (by omega) M hM.2.2.1]
  simp only [xr_v, Nat.reduceAdd, Nat.add_zero]
  unfold oneF
  cases c : sndF V s h with
  | false =>
    rw [b2i_f, e_X6_hearsAlone_10, if_pos rfl, e_X6_hearsAlone_46, e_X6_hearsAlone_47, if_pos (Or.inl rfl)]
    exact isI_i hM
  | true =>
    obtain ⟨M1, q1, h1, r1⟩ := x6_rowOf L xs O (D := d + 1) (by omega) a s ha hs M hM
    have g7 := (h1.2.2.1 7 k (decide_eq_true (show k < 8 by omega))).trans vc.1
    rw [b2i_t, e_X6_hearsAlone_10, if_neg (by decide), q1]
    simp only [xr_v, Nat.reduceAdd, Nat.add_zero]
    rw [e_X6_hearsAlone_19, if_pos (in_8 (by omega)), hl_cl (by omega), g7, if_pos (in_40 (by omega)), hl_cl (by omega), r1 _ (by omega), x1_need L xs O (D := d + 1) (by omega) 2 k h (by omega) hh M1 h1.2.2.1]
    simp only [xr_v, Nat.reduceAdd, Nat.add_zero]
    rw [e_X6_hearsAlone_39, Bool.true_and]
    by_cases c : srcF V (As a) n s (vN V 7 k) < needF (V 8) (V 9) k h
    · rw [if_pos c, decide_eq_false (fun e => e c), e_X6_hearsAlone_46, e_X6_hearsAlone_47, if_pos (Or.inl rfl)]
      exact isI_i h1
    · rw [if_neg c, decide_eq_true c, e_X6_hearsAlone_47, if_pos (Or.inr rfl)]
      exact isI_i h1
theorem hal_l {M0 : Mem} {V : Vw} {As : Nat → Nat → Int32} {n nh ns nw na : Nat} (d : Nat) (hd : 7 ≤ d + 1) (k0 a h : Nat) (t : Int32) (hk : k0 < nh) (ha : a < na) (hh : h < 24) : ∀ r fuel k s M, s + r = ns → r ≤ fuel → CQ M0 V As n nh ns nw na M →
    isI (BK L xs (EX L xs (d + 1)) mi_X6_heardAlone (RN L xs (d) mi_X6_heardAlone fuel) (k + 100) 6 [some (.inr (.inr (0, 0))), some (.inl (nI k0)), some (.inl (nI a)), some (.inl (nI h)), some (.inl (t)), some (.inl (bitsF (fun s => bitB t s && oneF V (As a) n h k0 s) s)), some (.inl (nI s))] [] M O none 0 0) O (bitsF (fun s => bitB t s && oneF V (As a) n h k0 s) ns) (CQ M0 V As n nh ns nw na) := by
  intro r
  induction r with
  | zero =>
    intro fuel k s M hj hf hM
    obtain rfl : s = ns := by omega
    have v7 : s ≤ 6 := hM.2.1.2.2.2.2.2.2.2.1
    have g8 := (hM.2.2.1 3 8 rfl).trans hM.2.1.2.2.1
    simp (disch := first | omega | rfl | decide) only [e_X6_heardAlone_6, xr_v, xr_n, hl_of, hl_cl, hl_toInt, hl_le, hl_lt, hl_eq, nI_add, hl_sub, pk_mul, hl_div, if_pos, if_neg, ↓reduceIte, Nat.reduceAdd, Nat.reduceSub, Nat.reduceMul, Nat.add_zero, Nat.zero_add, mp_s, mp_k, mp_i, mp_g, mr_s, mr_i, mr_g, zlt_0, zlt_1, zlt_2, zlt_3, zlt_4, zlt_5, zlt_6, zlt_8, zlt_12, zlt_15, zlt_20, zlt_24, zlt_36, zlt_40, zlt_48, zlt_80, zlt_97, zlt_120, zlt_256, zlt_600, zlt_99999999, zadd_1, zadd_2, zadd_5, zadd_6, zadd_8, zadd_20, zadd_24, zeq_0, zeq_1, zeq_2, zeq_3, zeq_4, zeq_5, zeq_6, zeq_7, zeq_8, zeq_13, zeq_14, zeq_20, zeq_32, zeq_59, zeq_60, zeq_80, zmul_2, zmul_4, zmul_6, zmul_8, zmul_10, zmul_24, zsub_1, zsub_2, zsub_10, zsub_48, zsub_97, zle_0, zle_1, zle_2, zle_6, zle_11, zle_200, zle_600, zle_100000000, ylt_0, ylt_1, ylt_2, ylt_3, ylt_6, ylt_9, ylt_20, ylt_24, ylt_57, ylt_60, ylt_99, ylt_120, ylt_122, ylt_999, ylt_9999, yle_0, yle_2, yle_4, yle_5, yle_6, yle_7, yle_8, yle_10, yle_12, yle_13, yle_15, yle_16, yle_20, yle_24, yle_40, yle_60, yle_64, yle_80, yadd_1, yadd_22, ymul_2, ymul_4, ymul_6, ymul_8, ymul_10, ymul_24, ymul_27, ymul_100, ysub_1, ysub_24, zdiv_2, zdiv_4, zdiv_24, g8]
    exact isI_i hM
  | succ r ih =>
    intro fuel k s M hj hf hM
    have v7 : ns ≤ 6 := hM.2.1.2.2.2.2.2.2.2.1
    obtain ⟨f, rfl⟩ : ∃ f, fuel = f + 1 := ⟨fuel - 1, by omega⟩
    have g8 := (hM.2.2.1 3 8 rfl).trans hM.2.1.2.2.1
    have q1 := x6_bit L xs O (D := d + 1) (by omega) t s M
    have hm : bitsF (fun s => bitB t s && oneF V (As a) n h k0 s) (s + 1) = if (bitB t s && oneF V (As a) n h k0 s) = true then bitsF (fun s => bitB t s && oneF V (As a) n h k0 s) s ||| (1 <<< (nI s &&& 31)) else bitsF (fun s => bitB t s && oneF V (As a) n h k0 s) s := rfl
    cases c : bitB t s with
    | false =>
      have ih' := ih f 2900 (s + 1) M (by omega) (by omega) hM
      rw [c, b2i_f] at q1
      rw [hm, c, Bool.false_and, if_neg Bool.false_ne_true] at ih'
      simp (disch := first | omega | rfl | decide) only [e_X6_heardAlone_6, e_X6_heardAlone_25, e_X6_heardAlone_49, xr_v, xr_n, hl_of, hl_cl, hl_toInt, hl_le, hl_lt, hl_eq, nI_add, hl_sub, pk_mul, hl_div, if_pos, if_neg, ↓reduceIte, Nat.reduceAdd, Nat.reduceSub, Nat.reduceMul, Nat.add_zero, Nat.zero_add, mp_s, mp_k, mp_i, mp_g, mr_s, mr_i, mr_g, zlt_0, zlt_1, zlt_2, zlt_3, zlt_4, zlt_5, zlt_6, zlt_8, zlt_12, zlt_15, zlt_20, zlt_24, zlt_36, zlt_40, zlt_48, zlt_80, zlt_97, zlt_120, zlt_256, zlt_600, zlt_99999999, zadd_1, zadd_2, zadd_5, zadd_6, zadd_8, zadd_20, zadd_24, zeq_0, zeq_1, zeq_2, zeq_3, zeq_4, zeq_5, zeq_6, zeq_7, zeq_8, zeq_13, zeq_14, zeq_20, zeq_32, zeq_59, zeq_60, zeq_80, zmul_2, zmul_4, zmul_6, zmul_8, zmul_10, zmul_24, zsub_1, zsub_2, zsub_10, zsub_48, zsub_97, zle_0, zle_1, zle_2, zle_6, zle_11, zle_200, zle_600, zle_100000000, ylt_0, ylt_1, ylt_2, ylt_3, ylt_6, ylt_9, ylt_20, ylt_24, ylt_57, ylt_60, ylt_99, ylt_120, ylt_122, ylt_999, ylt_9999, yle_0, yle_2, yle_4, yle_5, yle_6, yle_7, yle_8, yle_10, yle_12, yle_13, yle_15, yle_16, yle_20, yle_24, yle_40, yle_60, yle_64, yle_80, yadd_1, yadd_22, ymul_2, ymul_4, ymul_6, ymul_8, ymul_10, ymul_24, ymul_27, ymul_100, ysub_1, ysub_24, zdiv_2, zdiv_4, zdiv_24, g8, q1]
      refine isI_e (RN_s _ _ _ _ _ _ _ _ _ _ _ _) ?_
      exact ih'
    | true =>
      rw [c, b2i_t] at q1
      obtain ⟨M1, q2, h1⟩ := x6_hearsAlone L xs O (D := d + 1) (by omega) k0 a s h hk ha (by omega) hh M hM
      have ih' := ih f 2900 (s + 1) M1 (by omega) (by omega) h1
      rw [hm, c, Bool.true_and] at ih'
      cases c2 : oneF V (As a) n h k0 s with
      | false =>
        rw [c2, if_neg Bool.false_ne_true] at ih'
        rw [c2, b2i_f] at q2
        simp (disch := first | omega | rfl | decide) only [e_X6_heardAlone_6, e_X6_heardAlone_25, e_X6_heardAlone_37, e_X6_heardAlone_49, xr_v, xr_n, hl_of, hl_cl, hl_toInt, hl_le, hl_lt, hl_eq, nI_add, hl_sub, pk_mul, hl_div, if_pos, if_neg, ↓reduceIte, Nat.reduceAdd, Nat.reduceSub, Nat.reduceMul, Nat.add_zero, Nat.zero_add, mp_s, mp_k, mp_i, mp_g, mr_s, mr_i, mr_g, zlt_0, zlt_1, zlt_2, zlt_3, zlt_4, zlt_5, zlt_6, zlt_8, zlt_12, zlt_15, zlt_20, zlt_24, zlt_36, zlt_40, zlt_48, zlt_80, zlt_97, zlt_120, zlt_256, zlt_600, zlt_99999999, zadd_1, zadd_2, zadd_5, zadd_6, zadd_8, zadd_20, zadd_24, zeq_0, zeq_1, zeq_2, zeq_3, zeq_4, zeq_5, zeq_6, zeq_7, zeq_8, zeq_13, zeq_14, zeq_20, zeq_32, zeq_59, zeq_60, zeq_80, zmul_2, zmul_4, zmul_6, zmul_8, zmul_10, zmul_24, zsub_1, zsub_2, zsub_10, zsub_48, zsub_97, zle_0, zle_1, zle_2, zle_6, zle_11, zle_200, zle_600, zle_100000000, ylt_0, ylt_1, ylt_2, ylt_3, ylt_6, ylt_9, ylt_20, ylt_24, ylt_57, ylt_60, ylt_99, ylt_120, ylt_122, ylt_999, ylt_9999, yle_0, yle_2, yle_4, yle_5, yle_6, yle_7, yle_8, yle_10, yle_12, yle_13, yle_15, yle_16, yle_20, yle_24, yle_40, yle_60, yle_64, yle_80, yadd_1, yadd_22, ymul_2, ymul_4, ymul_6, ymul_8, ymul_10, ymul_24, ymul_27, ymul_100, ysub_1, ysub_24, zdiv_2, zdiv_4, zdiv_24, g8, q1, q2]
        refine isI_e (RN_s _ _ _ _ _ _ _ _ _ _ _ _) ?_
        exact ih'
      | true =>
        rw [c2, if_pos rfl] at ih'
        rw [c2, b2i_t] at q2
        simp (disch := first | omega | rfl | decide) only [e_X6_heardAlone_6, e_X6_heardAlone_25, e_X6_heardAlone_37, e_X6_heardAlone_49, xr_v, xr_n, hl_of, hl_cl, hl_toInt, hl_le, hl_lt, hl_eq, nI_add, hl_sub, pk_mul, hl_div, if_pos, if_neg, ↓reduceIte, Nat.reduceAdd, Nat.reduceSub, Nat.reduceMul, Nat.add_zero, Nat.zero_add, mp_s, mp_k, mp_i, mp_g, mr_s, mr_i, mr_g, zlt_0, zlt_1, zlt_2, zlt_3, zlt_4, zlt_5, zlt_6, zlt_8, zlt_12, zlt_15, zlt_20, zlt_24, zlt_36, zlt_40, zlt_48, zlt_80, zlt_97, zlt_120, zlt_256, zlt_600, zlt_99999999, zadd_1, zadd_2, zadd_5, zadd_6, zadd_8, zadd_20, zadd_24, zeq_0, zeq_1, zeq_2, zeq_3, zeq_4, zeq_5, zeq_6, zeq_7, zeq_8, zeq_13, zeq_14, zeq_20, zeq_32, zeq_59, zeq_60, zeq_80, zmul_2, zmul_4, zmul_6, zmul_8, zmul_10, zmul_24, zsub_1, zsub_2, zsub_10, zsub_48, zsub_97, zle_0, zle_1, zle_2, zle_6, zle_11, zle_200, zle_600, zle_100000000, ylt_0, ylt_1, ylt_2, ylt_3, ylt_6, ylt_9, ylt_20, ylt_24, ylt_57, ylt_60, ylt_99, ylt_120, ylt_122, ylt_999, ylt_9999, yle_0, yle_2, yle_4, yle_5, yle_6, yle_7, yle_8, yle_10, yle_12, yle_13, yle_15, yle_16, yle_20, yle_24, yle_40, yle_60, yle_64, yle_80, yadd_1, yadd_22, ymul_2, ymul_4, ymul_6, ymul_8, ymul_10, ymul_24, ymul_27, ymul_100, ysub_1, ysub_24, zdiv_2, zdiv_4, zdiv_24, g8, q1, q2]
        refine isI_e (RN_s _ _ _ _ _ _ _ _ _ _ _ _) ?_
        exact ih'
theorem x6_heardAlone {M0 : Mem} {V : Vw} {As : Nat → Nat → Int32} {n nh ns nw na : Nat} {D : Nat} (hD : 8 ≤ D) (k0 a h : Nat) (t : Int32) (hk : k0 < nh) (ha : a < na) (hh : h < 24) (M : Mem) (hM : CQ M0 V As n nh ns nw na M) : isI (EX L xs (D) q_X6_heardAlone [.inr (.inr (0, 0)), .inl (nI k0), .inl (nI a), .inl (nI h), .inl (t)] M O) O (bitsF (fun s => bitB t s && oneF V (As a) n h k0 s) ns) (CQ M0 V As n nh ns nw na) := by
  have v7 : ns ≤ 6 := hM.2.1.2.2.2.2.2.2.2.1
  obtain ⟨d, rfl⟩ : ∃ d, D = d + 2 := ⟨D - 2, by omega⟩
  refine isI_e (EX_in mi_X6_heardAlone rfl rfl rfl (ls := [some (.inr (.inr (0, 0))), some (.inl (nI k0)), some (.inl (nI a)), some (.inl (nI h)), some (.inl (t)), none, none]) rfl) ?_
  rw [e_X6_heardAlone_0]
  exact hal_l L xs O d (by omega) k0 a h t hk ha hh ns FUEL _ 0 M (by omega) (Nat.le_of_lt (FU (by omega))) hM
theorem x4_alone {M0 : Mem} {V : Vw} {As : Nat → Nat → Int32} {n nh ns nw na : Nat} {D : Nat} (hD : 5 ≤ D) (a x : Nat) (up lv pt : Int32) (ha : a < na) (hx : x < n) (hlv : ¬ lv < 0) (M : Mem) (hM : CQ M0 V As n nh ns nw na M) :
    isR (EX L xs (D) q_X4_alone [.inr (.inr (24, 0)), .inr (.inr (3, 2)), .inr (.inr (18, a)), .inl (nI x), .inl (up), .inl (lv), .inl (pt)] M O) O 29 0 (fun M' => CQ M0 V As n nh ns nw na M' ∧ ∀ y, y < 40 → M' 29 0 y = loudF V (As a) n x up lv pt y) := by
  obtain ⟨d, rfl⟩ : ∃ d, D = d + 2 := ⟨D - 2, by omega⟩
  refine isR_e (EX_in mi_X4_alone rfl rfl rfl (ls := [some (.inr (.inr (24, 0))), some (.inr (.inr (3, 2))), some (.inr (.inr (18, a))), some (.inl (nI x)), some (.inl (up)), some (.inl (lv)), some (.inl (pt))]) rfl) ?_
  rw [e_X4_alone_0, x3_setSound L xs O (D := d + 1) (by omega)]
  simp only [xr_n, Nat.reduceAdd, Nat.add_zero]
  generalize hM1 : mput (mput (mput (mput M 25 0 0 (nI x)) 25 0 1 up) 25 0 2 lv) 25 0 3 pt = M1
  have f1 : Fr sK M M1 := hM1 ▸ Fr_put (Fr_put (Fr_put (Fr_put Fr_refl rfl) rfl) rfl) rfl
  have c1 := CQ_fr hM f1
  obtain ⟨M2, q2, f2, r2⟩ := x4_spread2 L xs O (D := d + 1) (by omega) c1.2.1 2 a 0 M1 c1.2.2.1 (c1.2.2.2.2.2.1 a ha) (x := x) (up := up) (lv := lv) (pt := pt) hx
    (by rw [← hM1, mp_k (by omega), mp_k (by omega), mp_k (by omega), mp_s]) (by rw [← hM1, mp_k (by omega), mp_k (by omega), mp_s]) (by rw [← hM1, mp_k (by omega), mp_s]) (by rw [← hM1, mp_s]) hlv
  rw [e_X4_alone_14, q2]
  simp only [xr_n, Nat.reduceAdd, Nat.add_zero]
  rw [e_X4_alone_24]
  exact isR_i ⟨CQ_fr c1 (Fr_mono (fun _ _ _ h => sH_sp (sH_K h)) f2), r2⟩
theorem ih_in (d : Nat) (i1 i2 h s : Nat) {W : Vw} {A : Nat → Int32} {n : Nat} (hn : n ≤ 40) (M0 : Mem) (h0 : M0 3 i1 0 = nI n) (m0 m1 : Nat → Int32) (hm : ∀ y, y < n → M0 30 0 y = m0 y) (ho : ∀ y, y < n → M0 29 0 y = m1 y) (P : Res → Prop) : ∀ r fuel k j M, j + r = n → r ≤ fuel → Fr (sRow 30 0) M0 M → (∀ y, y < n → M 30 0 y = if y < j then imax (m0 y) (m1 y) else m0 y) →
    (∀ f' u5 M', fuel ≤ f' + r → Fr (sRow 30 0) M0 M' → (∀ y, y < n → M' 30 0 y = imax (m0 y) (m1 y)) → P (RN L xs (d) mi_X4_inHour (f') 11 [some (.inr (.inr (24, 0))), some (.inr (.inr (3, i1))), some (.inr (.inr (18, i2))), some (.inl (nI h)), some (.inl (nI (s + 1))), u5] M' O none 0 0)) →
    P (BK L xs (EX L xs (d + 1)) mi_X4_inHour (RN L xs (d) mi_X4_inHour fuel) (k + 100) 53 [some (.inr (.inr (24, 0))), some (.inr (.inr (3, i1))), some (.inr (.inr (18, i2))), some (.inl (nI h)), some (.inl (nI s)), some (.inl (nI j))] [] M O none 0 0) := by
  intro r
  induction r with
  | zero =>
    intro fuel k j M hj hf fr hr hex
    have g0 := (fr 3 i1 0 rfl).trans h0
    simp (disch := first | omega | rfl | decide) only [e_X4_inHour_53, e_X4_inHour_92, xr_v, xr_n, hl_of, hl_cl, hl_toInt, hl_le, hl_lt, hl_eq, nI_add, hl_sub, pk_mul, hl_div, if_pos, if_neg, ↓reduceIte, Nat.reduceAdd, Nat.reduceSub, Nat.reduceMul, Nat.add_zero, Nat.zero_add, mp_s, mp_k, mp_i, mp_g, mr_s, mr_i, mr_g, zlt_0, zlt_1, zlt_2, zlt_3, zlt_4, zlt_5, zlt_6, zlt_8, zlt_12, zlt_15, zlt_20, zlt_24, zlt_36, zlt_40, zlt_48, zlt_80, zlt_97, zlt_120, zlt_256, zlt_600, zlt_99999999, zadd_1, zadd_2, zadd_5, zadd_6, zadd_8, zadd_20, zadd_24, zeq_0, zeq_1, zeq_2, zeq_3, zeq_4, zeq_5, zeq_6, zeq_7, zeq_8, zeq_13, zeq_14, zeq_20, zeq_32, zeq_59, zeq_60, zeq_80, zmul_2, zmul_4, zmul_6, zmul_8, zmul_10, zmul_24, zsub_1, zsub_2, zsub_10, zsub_48, zsub_97, zle_0, zle_1, zle_2, zle_6, zle_11, zle_200, zle_600, zle_100000000, ylt_0, ylt_1, ylt_2, ylt_3, ylt_6, ylt_9, ylt_20, ylt_24, ylt_57, ylt_60, ylt_99, ylt_120, ylt_122, ylt_999, ylt_9999, yle_0, yle_2, yle_4, yle_5, yle_6, yle_7, yle_8, yle_10, yle_12, yle_13, yle_15, yle_16, yle_20, yle_24, yle_40, yle_60, yle_64, yle_80, yadd_1, yadd_22, ymul_2, ymul_4, ymul_6, ymul_8, ymul_10, ymul_24, ymul_27, ymul_100, ysub_1, ysub_24, zdiv_2, zdiv_4, zdiv_24, g0]
    refine hex fuel _ M (by omega) fr (fun y hy => ?_)
    rw [hr y hy, if_pos (by omega)]
  | succ r ih =>
    intro fuel k j M hj hf fr hr hex
    obtain ⟨f, rfl⟩ : ∃ f, fuel = f + 1 := ⟨fuel - 1, by omega⟩
    have g0 := (fr 3 i1 0 rfl).trans h0
    have g29 := (fr 29 0 j rfl).trans (ho j (by omega))
    have g30 := hr j (by omega)
    rw [if_neg (Nat.lt_irrefl j)] at g30
    simp (disch := first | omega | rfl | decide) only [e_X4_inHour_53, e_X4_inHour_85, xr_v, xr_n, hl_of, hl_cl, hl_toInt, hl_le, hl_lt, hl_eq, nI_add, hl_sub, pk_mul, hl_div, if_pos, if_neg, ↓reduceIte, Nat.reduceAdd, Nat.reduceSub, Nat.reduceMul, Nat.add_zero, Nat.zero_add, mp_s, mp_k, mp_i, mp_g, mr_s, mr_i, mr_g, zlt_0, zlt_1, zlt_2, zlt_3, zlt_4, zlt_5, zlt_6, zlt_8, zlt_12, zlt_15, zlt_20, zlt_24, zlt_36, zlt_40, zlt_48, zlt_80, zlt_97, zlt_120, zlt_256, zlt_600, zlt_99999999, zadd_1, zadd_2, zadd_5, zadd_6, zadd_8, zadd_20, zadd_24, zeq_0, zeq_1, zeq_2, zeq_3, zeq_4, zeq_5, zeq_6, zeq_7, zeq_8, zeq_13, zeq_14, zeq_20, zeq_32, zeq_59, zeq_60, zeq_80, zmul_2, zmul_4, zmul_6, zmul_8, zmul_10, zmul_24, zsub_1, zsub_2, zsub_10, zsub_48, zsub_97, zle_0, zle_1, zle_2, zle_6, zle_11, zle_200, zle_600, zle_100000000, ylt_0, ylt_1, ylt_2, ylt_3, ylt_6, ylt_9, ylt_20, ylt_24, ylt_57, ylt_60, ylt_99, ylt_120, ylt_122, ylt_999, ylt_9999, yle_0, yle_2, yle_4, yle_5, yle_6, yle_7, yle_8, yle_10, yle_12, yle_13, yle_15, yle_16, yle_20, yle_24, yle_40, yle_60, yle_64, yle_80, yadd_1, yadd_22, ymul_2, ymul_4, ymul_6, ymul_8, ymul_10, ymul_24, ymul_27, ymul_100, ysub_1, ysub_24, zdiv_2, zdiv_4, zdiv_24, g0, g29, g30]
    refine P_e (RN_s _ _ _ _ _ _ _ _ _ _ _ _) ?_
    refine ih f _ (j + 1) _ (by omega) (by omega) (Fr_put fr rfl) ?_ (fun f' u5 M' e => hex f' u5 M' (by omega))
    intro y hy
    by_cases e : y = j
    · rw [e, mp_s]
      exact (if_pos (show j < j + 1 by omega)).symm
    · rw [mp_k e, hr y hy]
      by_cases c : y < j
      · rw [if_pos c, if_pos (by omega)]
      · rw [if_neg c, if_neg (by omega)]
theorem ih_out (d : Nat) (hd : 4 ≤ d + 1) (i1 i2 h : Nat) {W : Vw} {A : Nat → Int32} {n nh ns nw : Nat} (hW : VOK W n nh ns nw) (M0 : Mem) (hL : CL M0 i1 W) (hA : CA M0 i2 A) (Q : Mem → Prop) (hQ : ∀ M', Fr sH M0 M' → (∀ y, y < n → M' 30 0 y = mostF W A n h y ns) → Q M') : ∀ r fuel k s u5 M, s + r = ns → r * 41 ≤ fuel → Fr sH M0 M → (∀ y, y < n → M 30 0 y = mostF W A n h y s) →
    isR (BK L xs (EX L xs (d + 1)) mi_X4_inHour (RN L xs (d) mi_X4_inHour fuel) (k + 200) 11 [some (.inr (.inr (24, 0))), some (.inr (.inr (3, i1))), some (.inr (.inr (18, i2))), some (.inl (nI h)), some (.inl (nI s)), u5] [] M O none 0 0) O 30 0 Q := by
  have v7 : ns ≤ 6 := hW.2.2.2.2.2.2.2.1
  have v5 : n ≤ 40 := hW.2.2.2.2.2.1
  intro r
  induction r with
  | zero =>
    intro fuel k s u5 M hj hf fr hr
    obtain rfl : s = ns := by omega
    have g8 := (CL_fr hL fr (sH_land i1) 3 8 rfl).trans hW.2.2.1
    simp (disch := first | omega | rfl | decide) only [e_X4_inHour_11, xr_v, xr_n, hl_of, hl_cl, hl_toInt, hl_le, hl_lt, hl_eq, nI_add, hl_sub, pk_mul, hl_div, if_pos, if_neg, ↓reduceIte, Nat.reduceAdd, Nat.reduceSub, Nat.reduceMul, Nat.add_zero, Nat.zero_add, mp_s, mp_k, mp_i, mp_g, mr_s, mr_i, mr_g, zlt_0, zlt_1, zlt_2, zlt_3, zlt_4, zlt_5, zlt_6, zlt_8, zlt_12, zlt_15, zlt_20, zlt_24, zlt_36, zlt_40, zlt_48, zlt_80, zlt_97, zlt_120, zlt_256, zlt_600, zlt_99999999, zadd_1, zadd_2, zadd_5, zadd_6, zadd_8, zadd_20, zadd_24, zeq_0, zeq_1, zeq_2, zeq_3, zeq_4, zeq_5, zeq_6, zeq_7, zeq_8, zeq_13, zeq_14, zeq_20, zeq_32, zeq_59, zeq_60, zeq_80, zmul_2, zmul_4, zmul_6, zmul_8, zmul_10, zmul_24, zsub_1, zsub_2, zsub_10, zsub_48, zsub_97, zle_0, zle_1, zle_2, zle_6, zle_11, zle_200, zle_600, zle_100000000, ylt_0, ylt_1, ylt_2, ylt_3, ylt_6, ylt_9, ylt_20, ylt_24, ylt_57, ylt_60, ylt_99, ylt_120, ylt_122, ylt_999, ylt_9999, yle_0, yle_2, yle_4, yle_5, yle_6, yle_7, yle_8, yle_10, yle_12, yle_13, yle_15, yle_16, yle_20, yle_24, yle_40, yle_60, yle_64, yle_80, yadd_1, yadd_22, ymul_2, ymul_4, ymul_6, ymul_8, ymul_10, ymul_24, ymul_27, ymul_100, ysub_1, ysub_24, zdiv_2, zdiv_4, zdiv_24, g8]
    exact isR_i (hQ M fr hr)
  | succ r ih =>
    intro fuel k s u5 M hj hf fr hr
    obtain ⟨f, rfl⟩ : ∃ f, fuel = f + 1 := ⟨fuel - 1, by omega⟩
    have hLM := CL_fr hL fr (sH_land i1)
    have hAM := CA_fr hA fr (fun _ => rfl) (fun _ => rfl)
    have g8 := (hLM 3 8 rfl).trans hW.2.2.1
    have q1 := x1_snd L xs O (D := d + 1) (by omega) i1 s h (by omega) M hLM
    have hm : ∀ y, mostF W A n h y (s + 1) = if sndF W s h = true then imax (mostF W A n h y s) (srcF W A n s y) else mostF W A n h y s := fun _ => rfl
    cases c : sndF W s h with
    | false =>
      rw [c, b2i_f] at q1
      simp (disch := first | omega | rfl | decide) only [e_X4_inHour_11, e_X4_inHour_27, e_X4_inHour_92, xr_v, xr_n, hl_of, hl_cl, hl_toInt, hl_le, hl_lt, hl_eq, nI_add, hl_sub, pk_mul, hl_div, if_pos, if_neg, ↓reduceIte, Nat.reduceAdd, Nat.reduceSub, Nat.reduceMul, Nat.add_zero, Nat.zero_add, mp_s, mp_k, mp_i, mp_g, mr_s, mr_i, mr_g, zlt_0, zlt_1, zlt_2, zlt_3, zlt_4, zlt_5, zlt_6, zlt_8, zlt_12, zlt_15, zlt_20, zlt_24, zlt_36, zlt_40, zlt_48, zlt_80, zlt_97, zlt_120, zlt_256, zlt_600, zlt_99999999, zadd_1, zadd_2, zadd_5, zadd_6, zadd_8, zadd_20, zadd_24, zeq_0, zeq_1, zeq_2, zeq_3, zeq_4, zeq_5, zeq_6, zeq_7, zeq_8, zeq_13, zeq_14, zeq_20, zeq_32, zeq_59, zeq_60, zeq_80, zmul_2, zmul_4, zmul_6, zmul_8, zmul_10, zmul_24, zsub_1, zsub_2, zsub_10, zsub_48, zsub_97, zle_0, zle_1, zle_2, zle_6, zle_11, zle_200, zle_600, zle_100000000, ylt_0, ylt_1, ylt_2, ylt_3, ylt_6, ylt_9, ylt_20, ylt_24, ylt_57, ylt_60, ylt_99, ylt_120, ylt_122, ylt_999, ylt_9999, yle_0, yle_2, yle_4, yle_5, yle_6, yle_7, yle_8, yle_10, yle_12, yle_13, yle_15, yle_16, yle_20, yle_24, yle_40, yle_60, yle_64, yle_80, yadd_1, yadd_22, ymul_2, ymul_4, ymul_6, ymul_8, ymul_10, ymul_24, ymul_27, ymul_100, ysub_1, ysub_24, zdiv_2, zdiv_4, zdiv_24, g8, q1]
      refine isR_e (RN_s _ _ _ _ _ _ _ _ _ _ _ _) ?_
      refine ih f _ (s + 1) u5 M (by omega) (by omega) fr (fun y hy => ?_)
      rw [hm, c, if_neg Bool.false_ne_true]
      exact hr y hy
    | true =>
      rw [c, b2i_t] at q1
      have g10 := (hLM 10 s (decide_eq_true (show s < 6 by omega))).trans ((hW.2.2.2.2.2.2.2.2.2.2.2.2.2.1) s (by omega)).1
      have g11 := hLM 11 s (decide_eq_true (show s < 6 by omega))
      have g12 := hLM 12 s (decide_eq_true (show s < 6 by omega))
      have l11 := (hW.2.2.2.2.2.2.2.2.2.2.2.2.2.2.1) s (by omega)
      have q2 := x3_setSource L xs O (D := d + 1) (by omega) i1 s (by omega) M
      rw [g10, g11, g12] at q2
      rw [e_X4_inHour_11, g8, if_neg (by rw [hl_le (by omega) (by omega)]; omega), q1]
      simp only [xr_v, Nat.reduceAdd, Nat.add_zero]
      rw [e_X4_inHour_27, if_neg (by decide), q2]
      simp only [xr_n, Nat.reduceAdd, Nat.add_zero]
      generalize hM1 : mput (mput (mput (mput M 25 0 0 (nI (vN W 10 s))) 25 0 1 1) 25 0 2 (W 11 s)) 25 0 3 (W 12 s) = M1
      have f1 : Fr sH M M1 := hM1 ▸ Fr_put (Fr_put (Fr_put (Fr_put Fr_refl rfl) rfl) rfl) rfl
      obtain ⟨M2, q3, f2, r2⟩ := x4_spread2 L xs O (D := d + 1) (by omega) hW i1 i2 0 M1 (CL_fr hLM f1 (sH_land i1)) (CA_fr hAM f1 (fun _ => rfl) (fun _ => rfl)) (x := vN W 10 s) (up := 1) (lv := W 11 s) (pt := W 12 s) ((hW.2.2.2.2.2.2.2.2.2.2.2.2.2.1) s (by omega)).2
        (by rw [← hM1, mp_k (by omega), mp_k (by omega), mp_k (by omega), mp_s]) (by rw [← hM1, mp_k (by omega), mp_k (by omega), mp_s]) (by rw [← hM1, mp_k (by omega), mp_s]) (by rw [← hM1, mp_s]) (by rw [l11.1]; exact nn_n _ (by omega))
      have fr2 := Fr_trans fr (Fr_trans f1 (Fr_mono (fun _ _ _ => sH_sp) f2))
      rw [e_X4_inHour_40, q3]
      simp only [xr_n, Nat.reduceAdd, Nat.add_zero]
      rw [e_X4_inHour_50]
      refine ih_in L xs O d i1 i2 h s (W := W) (A := A) v5 M2 ((CL_fr hL fr2 (sH_land i1) 3 0 rfl).trans hW.1) (fun y => mostF W A n h y s) (fun y => srcF W A n s y) ?_ (fun y hy => r2 y (by omega)) (fun r => isR r O 30 0 Q) n (f + 1) _ 0 M2 (by omega) (by omega) Fr_refl ?_ ?_
      · intro y hy
        rw [f2 30 0 y rfl, ← hM1, mp_g (by omega), mp_g (by omega), mp_g (by omega), mp_g (by omega)]
        exact hr y hy
      · intro y hy
        rw [if_neg (Nat.not_lt_zero y), f2 30 0 y rfl, ← hM1, mp_g (by omega), mp_g (by omega), mp_g (by omega), mp_g (by omega)]
        exact hr y hy
      · intro f' u5 M' hf' fr' hr'
        obtain ⟨f'', rfl⟩ : ∃ f, f' = f + 1 := ⟨f' - 1, by omega⟩
        refine isR_e (RN_s _ _ _ _ _ _ _ _ _ _ _ _) ?_
        refine ih f'' _ (s + 1) u5 M' (by omega) (by omega) (Fr_trans fr2 (Fr_mono (fun _ _ _ => sH_row) fr')) (fun y hy => ?_)
        rw [hm, c, if_pos rfl]
        exact hr' y hy
theorem x4_inHour {D : Nat} (hD : 5 ≤ D) (i1 i2 h : Nat) {W : Vw} {A : Nat → Int32} {n nh ns nw : Nat} (hW : VOK W n nh ns nw) (M : Mem) (hL : CL M i1 W) (hA : CA M i2 A) :
    isR (EX L xs (D) q_X4_inHour [.inr (.inr (24, 0)), .inr (.inr (3, i1)), .inr (.inr (18, i2)), .inl (nI h)] M O) O 30 0 (fun M' => Fr sH M M' ∧ ∀ y, y < n → M' 30 0 y = mostF W A n h y ns) := by
  have v7 : ns ≤ 6 := hW.2.2.2.2.2.2.2.1
  have v5 : n ≤ 40 := hW.2.2.2.2.2.1
  obtain ⟨d, rfl⟩ : ∃ d, D = d + 2 := ⟨D - 2, by omega⟩
  refine isR_e (EX_in mi_X4_inHour rfl rfl rfl (ls := [some (.inr (.inr (24, 0))), some (.inr (.inr (3, i1))), some (.inr (.inr (18, i2))), some (.inl (nI h)), none, none]) rfl) ?_
  obtain ⟨M1, q1, f1, r1⟩ := x_fill8 L xs O (D := d + 1) (by omega) 0 0 M
  rw [e_X4_inHour_0, q1]
  simp only [xr_n, Nat.reduceAdd, Nat.add_zero]
  rw [e_X4_inHour_8]
  exact ih_out L xs O d (by omega) i1 i2 h hW M hL hA _ (fun M' a b => ⟨a, b⟩) ns FUEL _ 0 none M1 (by omega) (Nat.le_of_lt (FU (by omega))) (Fr_mono (fun _ _ _ => sH_row) f1) (fun y hy => r1 y (by omega))
end
