/-! Whom a wall helps. -/
theorem vw_n {V : Vw} {x g k : Nat} {t : Int32} (h : g ≠ 6) : vN (vput V 6 x t) g k = vN V g k := by
  unfold vN
  rw [vp_g h]
theorem wall_ok {V : Vw} {n nh ns nw x t : Nat} (hV : VOK V n nh ns nw) (ht : t ≤ 9) : VOK (vput V 6 x (nI t)) n nh ns nw := by
  obtain ⟨v0, v1, v2, v3, v4, v5, v6, v7, v8, vk, vh, vw, vc, vs, vl, vwk, vcn⟩ := hV
  refine ⟨?_, ?_, ?_, ?_, v4, v5, v6, v7, v8, fun j hj => ?_, fun j hj => ?_, fun j hj => ?_, fun j hj => ?_, fun j hj => ?_, fun j hj => ?_, fun j hj => ?_, fun j hj => ?_⟩
  · rw [vp_g (by omega), v0]
  · rw [vp_g (by omega), v1]
  · rw [vp_g (by omega), v2]
  · rw [vp_g (by omega), v3]
  · rw [vw_n (by omega), vp_g (by omega)]
    exact vk j hj
  · rw [vw_n (by omega), vp_g (by omega)]
    exact vh j hj
  · by_cases e : j = x
    · have h1 : vput V 6 x (nI t) 6 j = nI t := by rw [e, vp_s]
      rw [vN_nI h1 (by omega), h1]
      exact ⟨rfl, ht⟩
    · have h1 : vput V 6 x (nI t) 6 j = V 6 j := vp_k e
      rw [vN_nI (h1.trans (vw j hj).1) (by have := (vw j hj).2; omega), h1]
      exact vw j hj
  · rw [vw_n (by omega), vp_g (by omega)]
    exact vc j hj
  · rw [vw_n (by omega), vp_g (by omega)]
    exact vs j hj
  · rw [vw_n (by omega), vp_g (by omega)]
    exact vl j hj
  · unfold WOK
    rw [vw_n (by omega), vw_n (by omega), vp_g (by omega), vp_g (by omega), vp_g (by omega)]
    exact vwk j hj
  · rw [vw_n (by omega), vp_g (by omega)]
    exact vcn j hj
def lesF (V : Vw) (A : Nat → Int32) (n ns h x : Nat) (t : Int32) (k : Nat) : Int32 := mostF V A n h (vN V 7 k) ns - mostF (vput V 6 x t) A n h (vN V 7 k) ns
def hlpF (V : Vw) (A : Nat → Int32) (n nh ns h x : Nat) (t : Int32) (w : Nat) : Int32 := if w = 0 then bitsF (fun k => decide (¬ lesF V A n ns h x t k ≤ 0)) nh else sumF (lesF V A n ns h x t) (fun k => decide (¬ lesF V A n ns h x t k ≤ 0)) nh
section
variable (L : Nat) (xs : Nat → Int32) (O : Int64)
theorem x6_loudIns {M0 : Mem} {V : Vw} {As : Nat → Nat → Int32} {n nh ns nw na : Nat} {D : Nat} (hD : 7 ≤ D) (y a h : Nat) (hy : y < n) (ha : a < na) (R : Nat → Int32) (M : Mem) (hM : CQ M0 V As n nh ns nw na M) (hR : ∀ y, M 30 0 y = R y) : isI (EX L xs (D) q_X6_loudIn [.inr (.inr (0, 0)), .inl (nI y), .inl (nI a), .inl (nI h)] M O) O (mostF V (As a) n h y ns) (fun M' => CQ M0 V As n nh ns nw na M' ∧ ∀ y, M' 30 0 y = R y) := by
  have hV := hM.2.1
  have v5 : n ≤ 40 := hV.2.2.2.2.2.1
  have v6 : nh ≤ 8 := hV.2.2.2.2.2.2.1
  have v7 : ns ≤ 6 := hV.2.2.2.2.2.2.2.1
  have v8 : nw ≤ 8 := hV.2.2.2.2.2.2.2.2.1
  have h6 : na ≤ 6 := hM.2.2.2.2.1
  have g0 := (hM.2.2.1 3 0 rfl).trans hV.1
  have g4 := (hM.2.2.1 3 4 rfl).trans hV.2.1
  have g8 := (hM.2.2.1 3 8 rfl).trans hV.2.2.1
  have g13 := (hM.2.2.1 3 13 rfl).trans hV.2.2.2.1
  have g6 := hM.2.2.2.1
  obtain ⟨d, rfl⟩ : ∃ d, D = d + 2 := ⟨D - 2, by omega⟩
  refine isI_e (EX_in mi_X6_loudIn rfl rfl rfl (ls := [some (.inr (.inr (0, 0))), some (.inl (nI y)), some (.inl (nI a)), some (.inl (nI h)), none, none]) rfl) ?_
  rw [e_X6_loudIn_0]
  refine loopA L xs O (P := fun r => isI r O _ _) (fun j ls M => ∃ v, v = mostF V (As a) n h y j ∧ ls = [some (.inr (.inr (0, 0))), some (.inl (nI y)), some (.inl (nI a)), some (.inl (nI h)), some (.inl (v)), some (.inl (nI j))] ∧ CQ M0 V As n nh ns nw na M ∧ ∀ y, M 30 0 y = R y) ns 100 (by omega) ?_ ?_ (Nat.le_of_lt (FU (by omega))) ⟨_, rfl, rfl, hM, hR⟩
  · rintro f k s _ M hs ⟨_, rfl, rfl, hM, hR⟩ ih
    have hV := hM.2.1
    have v5 : n ≤ 40 := hV.2.2.2.2.2.1
    have v6 : nh ≤ 8 := hV.2.2.2.2.2.2.1
    have v7 : ns ≤ 6 := hV.2.2.2.2.2.2.2.1
    have v8 : nw ≤ 8 := hV.2.2.2.2.2.2.2.2.1
    have h6 : na ≤ 6 := hM.2.2.2.2.1
    have g0 := (hM.2.2.1 3 0 rfl).trans hV.1
    have g4 := (hM.2.2.1 3 4 rfl).trans hV.2.1
    have g8 := (hM.2.2.1 3 8 rfl).trans hV.2.2.1
    have g13 := (hM.2.2.1 3 13 rfl).trans hV.2.2.2.1
    have g6 := hM.2.2.2.1
    have q1 := x1_snd L xs O (D := d + 1) (by omega) 2 s h (by omega) M hM.2.2.1
    cases c : sndF V s h with
    | false =>
      rw [c, b2i_f] at q1
      simp (disch := first | omega | rfl | decide) only [e_X6_loudIn_0, e_X6_loudIn_6, e_X6_loudIn_28, e_X6_loudIn_47, e_X6_loudIn_40, e_X6_loudIn_45, xr_v, xr_n, hl_of, hl_cl, hl_toInt, hl_le, hl_lt, hl_eq, nI_add, hl_sub, pk_mul, hl_div, if_pos, if_neg, ↓reduceIte, Nat.reduceAdd, Nat.reduceSub, Nat.reduceMul, Nat.add_zero, Nat.zero_add, mp_s, mp_k, mp_i, mp_g, mr_s, mr_i, mr_g, zlt_0, zlt_1, zlt_2, zlt_3, zlt_4, zlt_5, zlt_6, zlt_8, zlt_12, zlt_15, zlt_20, zlt_24, zlt_36, zlt_40, zlt_48, zlt_80, zlt_97, zlt_120, zlt_256, zlt_600, zlt_99999999, zadd_1, zadd_2, zadd_5, zadd_6, zadd_8, zadd_20, zadd_24, zeq_0, zeq_1, zeq_2, zeq_3, zeq_4, zeq_5, zeq_6, zeq_7, zeq_8, zeq_13, zeq_14, zeq_20, zeq_32, zeq_59, zeq_60, zeq_80, zmul_2, zmul_4, zmul_6, zmul_8, zmul_10, zmul_24, zsub_1, zsub_2, zsub_10, zsub_48, zsub_97, zle_0, zle_1, zle_2, zle_6, zle_11, zle_200, zle_600, zle_100000000, ylt_0, ylt_1, ylt_2, ylt_3, ylt_6, ylt_9, ylt_20, ylt_24, ylt_57, ylt_60, ylt_99, ylt_120, ylt_122, ylt_999, ylt_9999, yle_0, yle_2, yle_4, yle_5, yle_6, yle_7, yle_8, yle_10, yle_12, yle_13, yle_15, yle_16, yle_20, yle_24, yle_40, yle_60, yle_64, yle_80, yadd_1, yadd_22, ymul_2, ymul_4, ymul_6, ymul_8, ymul_10, ymul_24, ymul_27, ymul_100, ysub_1, ysub_24, zdiv_2, zdiv_4, zdiv_24, g8, q1]
      refine ih _ _ ⟨_, ?_, rfl, hM, hR⟩
      exact (if_neg (by rw [c]; exact Bool.false_ne_true)).symm
    | true =>
      rw [c, b2i_t] at q1
      obtain ⟨M1, q2, h1, r1, -, r3⟩ := x6_rowOfs L xs O (D := d + 1) (by omega) a s ha hs M hM
      have g27 := r1 y (by omega)
      simp (disch := first | omega | rfl | decide) only [e_X6_loudIn_0, e_X6_loudIn_6, e_X6_loudIn_28, e_X6_loudIn_47, e_X6_loudIn_40, e_X6_loudIn_45, xr_v, xr_n, hl_of, hl_cl, hl_toInt, hl_le, hl_lt, hl_eq, nI_add, hl_sub, pk_mul, hl_div, if_pos, if_neg, ↓reduceIte, Nat.reduceAdd, Nat.reduceSub, Nat.reduceMul, Nat.add_zero, Nat.zero_add, mp_s, mp_k, mp_i, mp_g, mr_s, mr_i, mr_g, zlt_0, zlt_1, zlt_2, zlt_3, zlt_4, zlt_5, zlt_6, zlt_8, zlt_12, zlt_15, zlt_20, zlt_24, zlt_36, zlt_40, zlt_48, zlt_80, zlt_97, zlt_120, zlt_256, zlt_600, zlt_99999999, zadd_1, zadd_2, zadd_5, zadd_6, zadd_8, zadd_20, zadd_24, zeq_0, zeq_1, zeq_2, zeq_3, zeq_4, zeq_5, zeq_6, zeq_7, zeq_8, zeq_13, zeq_14, zeq_20, zeq_32, zeq_59, zeq_60, zeq_80, zmul_2, zmul_4, zmul_6, zmul_8, zmul_10, zmul_24, zsub_1, zsub_2, zsub_10, zsub_48, zsub_97, zle_0, zle_1, zle_2, zle_6, zle_11, zle_200, zle_600, zle_100000000, ylt_0, ylt_1, ylt_2, ylt_3, ylt_6, ylt_9, ylt_20, ylt_24, ylt_57, ylt_60, ylt_99, ylt_120, ylt_122, ylt_999, ylt_9999, yle_0, yle_2, yle_4, yle_5, yle_6, yle_7, yle_8, yle_10, yle_12, yle_13, yle_15, yle_16, yle_20, yle_24, yle_40, yle_60, yle_64, yle_80, yadd_1, yadd_22, ymul_2, ymul_4, ymul_6, ymul_8, ymul_10, ymul_24, ymul_27, ymul_100, ysub_1, ysub_24, zdiv_2, zdiv_4, zdiv_24, g8, q1, q2, g27]
      refine ih _ _ ⟨_, ?_, rfl, h1, fun y => (r3 y).trans (hR y)⟩
      exact (if_pos c).symm
  · rintro f k _ M ⟨_, rfl, rfl, hM, hR⟩
    have hV := hM.2.1
    have v5 : n ≤ 40 := hV.2.2.2.2.2.1
    have v6 : nh ≤ 8 := hV.2.2.2.2.2.2.1
    have v7 : ns ≤ 6 := hV.2.2.2.2.2.2.2.1
    have v8 : nw ≤ 8 := hV.2.2.2.2.2.2.2.2.1
    have h6 : na ≤ 6 := hM.2.2.2.2.1
    have g0 := (hM.2.2.1 3 0 rfl).trans hV.1
    have g4 := (hM.2.2.1 3 4 rfl).trans hV.2.1
    have g8 := (hM.2.2.1 3 8 rfl).trans hV.2.2.1
    have g13 := (hM.2.2.1 3 13 rfl).trans hV.2.2.2.1
    have g6 := hM.2.2.2.1
    simp (disch := first | omega | rfl | decide) only [e_X6_loudIn_0, e_X6_loudIn_6, e_X6_loudIn_28, e_X6_loudIn_47, e_X6_loudIn_40, e_X6_loudIn_45, xr_v, xr_n, hl_of, hl_cl, hl_toInt, hl_le, hl_lt, hl_eq, nI_add, hl_sub, pk_mul, hl_div, if_pos, if_neg, ↓reduceIte, Nat.reduceAdd, Nat.reduceSub, Nat.reduceMul, Nat.add_zero, Nat.zero_add, mp_s, mp_k, mp_i, mp_g, mr_s, mr_i, mr_g, zlt_0, zlt_1, zlt_2, zlt_3, zlt_4, zlt_5, zlt_6, zlt_8, zlt_12, zlt_15, zlt_20, zlt_24, zlt_36, zlt_40, zlt_48, zlt_80, zlt_97, zlt_120, zlt_256, zlt_600, zlt_99999999, zadd_1, zadd_2, zadd_5, zadd_6, zadd_8, zadd_20, zadd_24, zeq_0, zeq_1, zeq_2, zeq_3, zeq_4, zeq_5, zeq_6, zeq_7, zeq_8, zeq_13, zeq_14, zeq_20, zeq_32, zeq_59, zeq_60, zeq_80, zmul_2, zmul_4, zmul_6, zmul_8, zmul_10, zmul_24, zsub_1, zsub_2, zsub_10, zsub_48, zsub_97, zle_0, zle_1, zle_2, zle_6, zle_11, zle_200, zle_600, zle_100000000, ylt_0, ylt_1, ylt_2, ylt_3, ylt_6, ylt_9, ylt_20, ylt_24, ylt_57, ylt_60, ylt_99, ylt_120, ylt_122, ylt_999, ylt_9999, yle_0, yle_2, yle_4, yle_5, yle_6, yle_7, yle_8, yle_10, yle_12, yle_13, yle_15, yle_16, yle_20, yle_24, yle_40, yle_60, yle_64, yle_80, yadd_1, yadd_22, ymul_2, ymul_4, ymul_6, ymul_8, ymul_10, ymul_24, ymul_27, ymul_100, ysub_1, ysub_24, zdiv_2, zdiv_4, zdiv_24, g8]
    exact isI_i ⟨hM, hR⟩
theorem c_helps {M0 : Mem} {V : Vw} {As : Nat → Nat → Int32} {n nh ns nw na : Nat} {D : Nat} (hD : 9 ≤ D) (x a h t w : Nat) (hx : x < n) (ha : a < na) (hh : h < 24) (ht1 : 1 ≤ t) (ht : t ≤ 9) (hw : w < 2) (M : Mem) (hM : CQ M0 V As n nh ns nw na M) : isI (EX L xs (D) q_X6_helps [.inr (.inr (0, 0)), .inl (nI x), .inl (nI a), .inl (nI h), .inl (nI t), .inl (nI w)] M O) O (hlpF V (As a) n nh ns h x (nI t) w) (CQ M0 V As n nh ns nw na) := by
  have hV := hM.2.1
  have v5 : n ≤ 40 := hV.2.2.2.2.2.1
  have v6 : nh ≤ 8 := hV.2.2.2.2.2.2.1
  have v7 : ns ≤ 6 := hV.2.2.2.2.2.2.2.1
  have v8 : nw ≤ 8 := hV.2.2.2.2.2.2.2.2.1
  have h6 : na ≤ 6 := hM.2.2.2.2.1
  have g0 := (hM.2.2.1 3 0 rfl).trans hV.1
  have g4 := (hM.2.2.1 3 4 rfl).trans hV.2.1
  have g8 := (hM.2.2.1 3 8 rfl).trans hV.2.2.1
  have g13 := (hM.2.2.1 3 13 rfl).trans hV.2.2.2.1
  have g6 := hM.2.2.2.1
  obtain ⟨d, rfl⟩ : ∃ d, D = d + 2 := ⟨D - 2, by omega⟩
  refine isI_e (EX_in mi_X6_helps rfl rfl rfl (ls := [some (.inr (.inr (0, 0))), some (.inl (nI x)), some (.inl (nI a)), some (.inl (nI h)), some (.inl (nI t)), some (.inl (nI w)), none, none, none, none, none]) rfl) ?_
  have q1 := x6_needCell_in L xs O (D := d + 1) (by omega) v5 x M g0 hx
  have q2 := x6_needAir_in L xs O (D := d + 1) (by omega) (by omega) a M g6 ha
  have q3 := x6_needHour_in L xs O (D := d + 1) (by omega) h M hh
  have q4 := x6_needArg_1 L xs O (D := d + 1) (by omega) M
  have q5 := x6_w2_in L xs O (D := d + 1) (by omega) w M hw
  obtain ⟨M1, q6, f1, l1⟩ := x1_copyFrom L xs O (D := d + 1) (by omega) 3 2 (by omega) M hM.2.2.1
  have f1' : Fr sK M (mput M1 6 3 x (nI t)) := Fr_put (Fr_mono (fun _ _ _ => sK_ld) f1) (decide_eq_true (by omega))
  have h1 := CQ_fr hM f1'
  obtain ⟨M2, q7, f2, r2⟩ := x4_inHour L xs O (D := d + 1) (by omega) 3 a h (wall_ok hV ht (x := x)) (mput M1 6 3 x (nI t)) (CL_put l1) (h1.2.2.2.2.2.1 a ha)
  have h2 := CQ_fr h1 (Fr_mono (fun _ _ _ => sH_K) f2)
  simp (disch := first | omega | rfl | decide) only [e_X6_helps_0, e_X6_helps_5, e_X6_helps_10, e_X6_helps_15, e_X6_helps_33, e_X6_helps_34, e_X6_helps_37, e_X6_helps_44, e_X6_helps_55, e_X6_helps_84, e_X6_helps_178, e_X6_helps_123, e_X6_helps_160, xr_v, xr_n, hl_of, hl_cl, hl_toInt, hl_le, hl_lt, hl_eq, nI_add, hl_sub, pk_mul, hl_div, if_pos, if_neg, ↓reduceIte, Nat.reduceAdd, Nat.reduceSub, Nat.reduceMul, Nat.add_zero, Nat.zero_add, mp_s, mp_k, mp_i, mp_g, mr_s, mr_i, mr_g, zlt_0, zlt_1, zlt_2, zlt_3, zlt_4, zlt_5, zlt_6, zlt_8, zlt_12, zlt_15, zlt_20, zlt_24, zlt_36, zlt_40, zlt_48, zlt_80, zlt_97, zlt_120, zlt_256, zlt_600, zlt_99999999, zadd_1, zadd_2, zadd_5, zadd_6, zadd_8, zadd_20, zadd_24, zeq_0, zeq_1, zeq_2, zeq_3, zeq_4, zeq_5, zeq_6, zeq_7, zeq_8, zeq_13, zeq_14, zeq_20, zeq_32, zeq_59, zeq_60, zeq_80, zmul_2, zmul_4, zmul_6, zmul_8, zmul_10, zmul_24, zsub_1, zsub_2, zsub_10, zsub_48, zsub_97, zle_0, zle_1, zle_2, zle_6, zle_11, zle_200, zle_600, zle_100000000, ylt_0, ylt_1, ylt_2, ylt_3, ylt_6, ylt_9, ylt_20, ylt_24, ylt_57, ylt_60, ylt_99, ylt_120, ylt_122, ylt_999, ylt_9999, yle_0, yle_2, yle_4, yle_5, yle_6, yle_7, yle_8, yle_10, yle_12, yle_13, yle_15, yle_16, yle_20, yle_24, yle_40, yle_60, yle_64, yle_80, yadd_1, yadd_22, ymul_2, ymul_4, ymul_6, ymul_8, ymul_10, ymul_24, ymul_27, ymul_100, ysub_1, ysub_24, zdiv_2, zdiv_4, zdiv_24, q1, q2, q3, q4, q5, q6, q7]
  refine loopA L xs O (P := fun r => isI r O _ (CQ M0 V As n nh ns nw na)) (fun j ls M => ∃ b s u10, b = bitsF (fun k => decide (¬ lesF V (As a) n ns h x (nI t) k ≤ 0)) j ∧ s = sumF (lesF V (As a) n ns h x (nI t)) (fun k => decide (¬ lesF V (As a) n ns h x (nI t) k ≤ 0)) j ∧ ls = [some (.inr (.inr (0, 0))), some (.inl (nI x)), some (.inl (nI a)), some (.inl (nI h)), some (.inl (nI t)), some (.inl (nI w)), some (.inr (.inr (30, 0))), some (.inl (b)), some (.inl (s)), some (.inl (nI j)), u10] ∧ CQ M0 V As n nh ns nw na M ∧ ∀ y, M 30 0 y = M2 30 0 y) nh 100 (by omega) ?_ ?_ (Nat.le_of_lt (FU (by omega))) ⟨_, _, _, rfl, rfl, rfl, h2, fun _ => rfl⟩
  · rintro f k j _ M hj ⟨_, _, u10, rfl, rfl, rfl, hM, hR⟩ ih
    have hV := hM.2.1
    have v5 : n ≤ 40 := hV.2.2.2.2.2.1
    have v6 : nh ≤ 8 := hV.2.2.2.2.2.2.1
    have v7 : ns ≤ 6 := hV.2.2.2.2.2.2.2.1
    have v8 : nw ≤ 8 := hV.2.2.2.2.2.2.2.2.1
    have h6 : na ≤ 6 := hM.2.2.2.2.1
    have g0 := (hM.2.2.1 3 0 rfl).trans hV.1
    have g4 := (hM.2.2.1 3 4 rfl).trans hV.2.1
    have g8 := (hM.2.2.1 3 8 rfl).trans hV.2.2.1
    have g13 := (hM.2.2.1 3 13 rfl).trans hV.2.2.2.1
    have g6 := hM.2.2.2.1
    have vc := hV.2.2.2.2.2.2.2.2.2.2.2.2.1 j hj
    have vc2 := vc.2
    have g7 := (hM.2.2.1 7 j (decide_eq_true (show j < 8 by omega))).trans vc.1
    obtain ⟨M3, q8, h3, r3⟩ := x6_loudIns L xs O (D := d + 1) (by omega) (vN V 7 j) a h vc.2 ha _ M hM hR
    have g7' := (h3.2.2.1 7 j (decide_eq_true (show j < 8 by omega))).trans vc.1
    have g30 := (r3 (vN V 7 j)).trans (r2 _ vc2)
    have el : mostF V (As a) n h (vN V 7 j) ns - mostF (vput V 6 x (nI t)) (As a) n h (vN V 7 j) ns = lesF V (As a) n ns h x (nI t) j := rfl
    by_cases c : lesF V (As a) n ns h x (nI t) j ≤ 0
    · simp (disch := first | omega | rfl | decide) only [e_X6_helps_0, e_X6_helps_5, e_X6_helps_10, e_X6_helps_15, e_X6_helps_33, e_X6_helps_34, e_X6_helps_37, e_X6_helps_44, e_X6_helps_55, e_X6_helps_84, e_X6_helps_95, e_X6_helps_178, e_X6_helps_123, e_X6_helps_160, xr_v, xr_n, hl_of, hl_cl, hl_toInt, hl_le, hl_lt, hl_eq, nI_add, hl_sub, pk_mul, hl_div, if_pos, if_neg, ↓reduceIte, Nat.reduceAdd, Nat.reduceSub, Nat.reduceMul, Nat.add_zero, Nat.zero_add, mp_s, mp_k, mp_i, mp_g, mr_s, mr_i, mr_g, zlt_0, zlt_1, zlt_2, zlt_3, zlt_4, zlt_5, zlt_6, zlt_8, zlt_12, zlt_15, zlt_20, zlt_24, zlt_36, zlt_40, zlt_48, zlt_80, zlt_97, zlt_120, zlt_256, zlt_600, zlt_99999999, zadd_1, zadd_2, zadd_5, zadd_6, zadd_8, zadd_20, zadd_24, zeq_0, zeq_1, zeq_2, zeq_3, zeq_4, zeq_5, zeq_6, zeq_7, zeq_8, zeq_13, zeq_14, zeq_20, zeq_32, zeq_59, zeq_60, zeq_80, zmul_2, zmul_4, zmul_6, zmul_8, zmul_10, zmul_24, zsub_1, zsub_2, zsub_10, zsub_48, zsub_97, zle_0, zle_1, zle_2, zle_6, zle_11, zle_200, zle_600, zle_100000000, ylt_0, ylt_1, ylt_2, ylt_3, ylt_6, ylt_9, ylt_20, ylt_24, ylt_57, ylt_60, ylt_99, ylt_120, ylt_122, ylt_999, ylt_9999, yle_0, yle_2, yle_4, yle_5, yle_6, yle_7, yle_8, yle_10, yle_12, yle_13, yle_15, yle_16, yle_20, yle_24, yle_40, yle_60, yle_64, yle_80, yadd_1, yadd_22, ymul_2, ymul_4, ymul_6, ymul_8, ymul_10, ymul_24, ymul_27, ymul_100, ysub_1, ysub_24, zdiv_2, zdiv_4, zdiv_24, g4, g7, q8, g7', g30, el, c]
      exact ih _ _ ⟨_, _, _, bits_f (decide_eq_false (fun e => e c)), sum_f (decide_eq_false (fun e => e c)), rfl, h3, r3⟩
    · simp (disch := first | omega | rfl | decide) only [e_X6_helps_0, e_X6_helps_5, e_X6_helps_10, e_X6_helps_15, e_X6_helps_33, e_X6_helps_34, e_X6_helps_37, e_X6_helps_44, e_X6_helps_55, e_X6_helps_84, e_X6_helps_95, e_X6_helps_178, e_X6_helps_123, e_X6_helps_160, xr_v, xr_n, hl_of, hl_cl, hl_toInt, hl_le, hl_lt, hl_eq, nI_add, hl_sub, pk_mul, hl_div, if_pos, if_neg, ↓reduceIte, Nat.reduceAdd, Nat.reduceSub, Nat.reduceMul, Nat.add_zero, Nat.zero_add, mp_s, mp_k, mp_i, mp_g, mr_s, mr_i, mr_g, zlt_0, zlt_1, zlt_2, zlt_3, zlt_4, zlt_5, zlt_6, zlt_8, zlt_12, zlt_15, zlt_20, zlt_24, zlt_36, zlt_40, zlt_48, zlt_80, zlt_97, zlt_120, zlt_256, zlt_600, zlt_99999999, zadd_1, zadd_2, zadd_5, zadd_6, zadd_8, zadd_20, zadd_24, zeq_0, zeq_1, zeq_2, zeq_3, zeq_4, zeq_5, zeq_6, zeq_7, zeq_8, zeq_13, zeq_14, zeq_20, zeq_32, zeq_59, zeq_60, zeq_80, zmul_2, zmul_4, zmul_6, zmul_8, zmul_10, zmul_24, zsub_1, zsub_2, zsub_10, zsub_48, zsub_97, zle_0, zle_1, zle_2, zle_6, zle_11, zle_200, zle_600, zle_100000000, ylt_0, ylt_1, ylt_2, ylt_3, ylt_6, ylt_9, ylt_20, ylt_24, ylt_57, ylt_60, ylt_99, ylt_120, ylt_122, ylt_999, ylt_9999, yle_0, yle_2, yle_4, yle_5, yle_6, yle_7, yle_8, yle_10, yle_12, yle_13, yle_15, yle_16, yle_20, yle_24, yle_40, yle_60, yle_64, yle_80, yadd_1, yadd_22, ymul_2, ymul_4, ymul_6, ymul_8, ymul_10, ymul_24, ymul_27, ymul_100, ysub_1, ysub_24, zdiv_2, zdiv_4, zdiv_24, g4, g7, q8, g7', g30, el, c]
      exact ih _ _ ⟨_, _, _, bits_t (decide_eq_true c), sum_t (decide_eq_true c), rfl, h3, r3⟩
  · rintro f k _ M ⟨_, _, u10, rfl, rfl, rfl, hM, hR⟩
    have hV := hM.2.1
    have v5 : n ≤ 40 := hV.2.2.2.2.2.1
    have v6 : nh ≤ 8 := hV.2.2.2.2.2.2.1
    have v7 : ns ≤ 6 := hV.2.2.2.2.2.2.2.1
    have v8 : nw ≤ 8 := hV.2.2.2.2.2.2.2.2.1
    have h6 : na ≤ 6 := hM.2.2.2.2.1
    have g0 := (hM.2.2.1 3 0 rfl).trans hV.1
    have g4 := (hM.2.2.1 3 4 rfl).trans hV.2.1
    have g8 := (hM.2.2.1 3 8 rfl).trans hV.2.2.1
    have g13 := (hM.2.2.1 3 13 rfl).trans hV.2.2.2.1
    have g6 := hM.2.2.2.1
    unfold hlpF
    by_cases c : w = 0
    · rw [if_pos c]
      simp (disch := first | omega | rfl | decide) only [e_X6_helps_0, e_X6_helps_5, e_X6_helps_10, e_X6_helps_15, e_X6_helps_33, e_X6_helps_34, e_X6_helps_37, e_X6_helps_44, e_X6_helps_55, e_X6_helps_84, e_X6_helps_95, e_X6_helps_178, e_X6_helps_123, e_X6_helps_160, xr_v, xr_n, hl_of, hl_cl, hl_toInt, hl_le, hl_lt, hl_eq, nI_add, hl_sub, pk_mul, hl_div, if_pos, if_neg, ↓reduceIte, Nat.reduceAdd, Nat.reduceSub, Nat.reduceMul, Nat.add_zero, Nat.zero_add, mp_s, mp_k, mp_i, mp_g, mr_s, mr_i, mr_g, zlt_0, zlt_1, zlt_2, zlt_3, zlt_4, zlt_5, zlt_6, zlt_8, zlt_12, zlt_15, zlt_20, zlt_24, zlt_36, zlt_40, zlt_48, zlt_80, zlt_97, zlt_120, zlt_256, zlt_600, zlt_99999999, zadd_1, zadd_2, zadd_5, zadd_6, zadd_8, zadd_20, zadd_24, zeq_0, zeq_1, zeq_2, zeq_3, zeq_4, zeq_5, zeq_6, zeq_7, zeq_8, zeq_13, zeq_14, zeq_20, zeq_32, zeq_59, zeq_60, zeq_80, zmul_2, zmul_4, zmul_6, zmul_8, zmul_10, zmul_24, zsub_1, zsub_2, zsub_10, zsub_48, zsub_97, zle_0, zle_1, zle_2, zle_6, zle_11, zle_200, zle_600, zle_100000000, ylt_0, ylt_1, ylt_2, ylt_3, ylt_6, ylt_9, ylt_20, ylt_24, ylt_57, ylt_60, ylt_99, ylt_120, ylt_122, ylt_999, ylt_9999, yle_0, yle_2, yle_4, yle_5, yle_6, yle_7, yle_8, yle_10, yle_12, yle_13, yle_15, yle_16, yle_20, yle_24, yle_40, yle_60, yle_64, yle_80, yadd_1, yadd_22, ymul_2, ymul_4, ymul_6, ymul_8, ymul_10, ymul_24, ymul_27, ymul_100, ysub_1, ysub_24, zdiv_2, zdiv_4, zdiv_24, g4]
      exact isI_i hM
    · rw [if_neg c]
      simp (disch := first | omega | rfl | decide) only [e_X6_helps_0, e_X6_helps_5, e_X6_helps_10, e_X6_helps_15, e_X6_helps_33, e_X6_helps_34, e_X6_helps_37, e_X6_helps_44, e_X6_helps_55, e_X6_helps_84, e_X6_helps_95, e_X6_helps_178, e_X6_helps_123, e_X6_helps_160, xr_v, xr_n, hl_of, hl_cl, hl_toInt, hl_le, hl_lt, hl_eq, nI_add, hl_sub, pk_mul, hl_div, if_pos, if_neg, ↓reduceIte, Nat.reduceAdd, Nat.reduceSub, Nat.reduceMul, Nat.add_zero, Nat.zero_add, mp_s, mp_k, mp_i, mp_g, mr_s, mr_i, mr_g, zlt_0, zlt_1, zlt_2, zlt_3, zlt_4, zlt_5, zlt_6, zlt_8, zlt_12, zlt_15, zlt_20, zlt_24, zlt_36, zlt_40, zlt_48, zlt_80, zlt_97, zlt_120, zlt_256, zlt_600, zlt_99999999, zadd_1, zadd_2, zadd_5, zadd_6, zadd_8, zadd_20, zadd_24, zeq_0, zeq_1, zeq_2, zeq_3, zeq_4, zeq_5, zeq_6, zeq_7, zeq_8, zeq_13, zeq_14, zeq_20, zeq_32, zeq_59, zeq_60, zeq_80, zmul_2, zmul_4, zmul_6, zmul_8, zmul_10, zmul_24, zsub_1, zsub_2, zsub_10, zsub_48, zsub_97, zle_0, zle_1, zle_2, zle_6, zle_11, zle_200, zle_600, zle_100000000, ylt_0, ylt_1, ylt_2, ylt_3, ylt_6, ylt_9, ylt_20, ylt_24, ylt_57, ylt_60, ylt_99, ylt_120, ylt_122, ylt_999, ylt_9999, yle_0, yle_2, yle_4, yle_5, yle_6, yle_7, yle_8, yle_10, yle_12, yle_13, yle_15, yle_16, yle_20, yle_24, yle_40, yle_60, yle_64, yle_80, yadd_1, yadd_22, ymul_2, ymul_4, ymul_6, ymul_8, ymul_10, ymul_24, ymul_27, ymul_100, ysub_1, ysub_24, zdiv_2, zdiv_4, zdiv_24, g4]
      exact isI_i hM
end
def isN (r : Res) (O : Int64) (x : Int32) (mc ms : Nat) (Q : Mem → Prop) : Prop := ∃ M', r = some (.inl (some (.inl x)), M', O, mc, ms) ∧ Q M'
theorem isN_i {O : Int64} {x : Int32} {mc ms : Nat} {M' : Mem} {Q : Mem → Prop} (h : Q M') : isN (some (.inl (some (.inl x)), M', O, mc, ms)) O x mc ms Q := ⟨M', rfl, h⟩
theorem isN_e {r r' : Res} {O : Int64} {x : Int32} {mc ms : Nat} {Q : Mem → Prop} (h : r = r') (h' : isN r' O x mc ms Q) : isN r O x mc ms Q := h ▸ h'
/-- a loop that writes its own row -/
theorem loopT (L : Nat) (xs : Nat → Int32) (O : Int64) {P : Res → Prop} {mi : MI} {d pc : Nat} {c0 s0 : Nat} (St : Nat → Lcs → Mem → Tmp → Prop) (m K : Nat) (hK : K ≤ 3000) {f0 k : Nat} {ls : Lcs} {M : Mem} {T : Tmp}
    (step : ∀ f k j ls M T, j < m → St j ls M T → (∀ ls' M' T', St (j + 1) ls' M' T' → P (RN L xs d mi f pc ls' M' O T' c0 s0)) → P (BK L xs (EX L xs (d + 1)) mi (RN L xs d mi f) (k + K) pc ls [] M O T c0 s0))
    (last : ∀ f k ls M T, f0 ≤ f + m → St m ls M T → P (BK L xs (EX L xs (d + 1)) mi (RN L xs d mi f) (k + K) pc ls [] M O T c0 s0)) (hm : m ≤ f0) (h : St 0 ls M T) :
    P (BK L xs (EX L xs (d + 1)) mi (RN L xs d mi f0) (k + K) pc ls [] M O T c0 s0) := by
  have key : ∀ r f k j ls M T, j + r = m → r ≤ f → f0 ≤ f + j → St j ls M T → P (BK L xs (EX L xs (d + 1)) mi (RN L xs d mi f) (k + K) pc ls [] M O T c0 s0) := by
    intro r
    induction r with
    | zero =>
      intro f k j ls M T hj hf hF h
      obtain rfl : j = m := by omega
      exact last f k ls M T hF h
    | succ r ih =>
      intro f k j ls M T hj hf hF h
      refine step f k j ls M T (by omega) h ?_
      intro ls' M' T' h'
      obtain ⟨f'', rfl⟩ : ∃ f'', f = f'' + 1 := ⟨f - 1, by omega⟩
      obtain ⟨k', hk'⟩ : ∃ k', 3000 = k' + K := ⟨3000 - K, by omega⟩
      refine P_e (RN_s _ _ _ _ _ _ _ _ _ _ _ _) ?_
      rw [hk']
      exact ih f'' k' (j + 1) ls' M' T' (by omega) (by omega) (by omega) h'
  exact key m f0 k 0 ls M T (by omega) (by omega) (by omega) h
section
variable (L : Nat) (xs : Nat → Int32) (O : Int64) {T : Vw} {f : Nat → Nat} {As : Nat → Nat → Int32} {n nh ns nw na nd : Nat}
theorem MV_wall {M : Mem} {V : Vw} {x t : Nat} (h : MV M V As n nh ns nw na) (ht : t ≤ 9) : MV (mput M 74 0 x (nI t)) (vput V 6 x (nI t)) As n nh ns nw na := by
  have fr : Fr (sRow 74 0) M (mput M 74 0 x (nI t)) := Fr_put Fr_refl rfl
  have e : ∀ g i k, g ≠ 74 → mput M 74 0 x (nI t) g i k = M g i k := fun g i k hg => mp_g hg
  refine ⟨wall_ok h.1 ht, MS_g (MS_fr h.2.1 fr (fun g i k a b => sRow_g (by omega))) (fun g k _ h6 _ _ => vp_g h6), ⟨fun j hj => ?_, fun k hk => ?_, fun s hs => ?_⟩, ?_, h.2.2.2.2.1, fun a ha => MA_fr (h.2.2.2.2.2 a ha) fr (fun k => sRow_g (by omega))⟩
  · rw [e 73 0 j (by omega), vp_g (by omega)]
    refine ⟨(h.2.2.1.1 j hj).1, ?_⟩
    by_cases ej : j = x
    · rw [ej, mp_s, vp_s]
    · rw [mp_k ej, vp_k ej]
      exact (h.2.2.1.1 j hj).2
  · rw [e 75 0 k (by omega), vp_g (by omega)]
    exact h.2.2.1.2.1 k hk
  · rw [e 76 0 s (by omega), vp_g (by omega)]
    exact h.2.2.1.2.2 s hs
  · rw [e 40 0 26 (by omega)]
    exact h.2.2.2.1
theorem m_helps {D : Nat} (hD : 11 ≤ D) (x a h t w : Nat) (hx : x < n) (ha : a < na) (hh : h < 24) (ht1 : 1 ≤ t) (ht : t ≤ 9) (hw : w < 2) (M : Mem) (hB : MB M T f As n nh ns nw na nd) : isN (EX L xs (D) q_X7_helps [.inr (.inr (40, 0)), .inl (nI x), .inl (nI a), .inl (nI h), .inl (nI t), .inl (nI w)] M O) O (hlpF (perfL T f nd) (As a) n nh ns h x (nI t) w) 1 8 (MP M) := by
  obtain ⟨d, rfl⟩ : ∃ d, D = d + 2 := ⟨D - 2, by omega⟩
  refine isN_e (EX_in mi_X7_helps rfl rfl rfl (ls := [some (.inr (.inr (40, 0))), some (.inl (nI x)), some (.inl (nI a)), some (.inl (nI h)), some (.inl (nI t)), some (.inl (nI w)), none, none, none, none, none]) rfl) ?_
  obtain ⟨M1, e1, fr1, hB1, t1⟩ := m_start hB
  have v4 : 8 ≤ n := hB1.1.2.2.2.2.1
  have v5 : n ≤ 40 := hB1.1.2.2.2.2.2.1
  have v6 : nh ≤ 8 := hB1.1.2.2.2.2.2.2.1
  have v7 : ns ≤ 6 := hB1.1.2.2.2.2.2.2.2.1
  have v8 : nw ≤ 8 := hB1.1.2.2.2.2.2.2.2.2.1
  have h6 : na ≤ 6 := hB1.2.2.2.2.2.1
  have z0 := hB1.2.1.1
  have z1 := hB1.2.1.2.1
  have z2 := hB1.2.1.2.2.1
  have z3 := hB1.2.1.2.2.2.1
  have z26 := hB1.2.2.2.2.1
  have b0 := fun w q => x7_bad_0 L xs O (D := d + 1) (by omega) w q M1 t1
  obtain ⟨M2, ql, h2⟩ := x7_laidR L xs O (D := d + 1) (by omega) hB fr1 hB1 t1
  have p1 := x7_isCell_i L xs O (D := d + 1) (by omega) (by omega) x M1 z0 hx
  have p2 := x7_isAir_i L xs O (D := d + 1) (by omega) (by omega) a M1 z26 ha
  have p3 := x7_isHour_i L xs O (D := d + 1) (by omega) h M1 hh
  have p4 := x7_r_in L xs O (D := d + 1) (by omega) (nI t) 1 9 M1 (by rw [zlt_1 (by omega)]; omega) (by rw [ylt_9 (by omega)]; omega)
  have p5 := x7_i2_in L xs O (D := d + 1) (by omega) w M1 hw
  obtain ⟨M3, q3, h3, l3⟩ := x7_loudR L xs O (D := d + 1) (by omega) a ha M2 h2
  simp (disch := first | omega | rfl | decide) only [e_X7_helps_0, e_X7_helps_11, e_X7_helps_19, e_X7_helps_24, e_X7_helps_33, e_X7_helps_91, e_X7_helps_41, e_X7_helps_46, e_X7_helps_54, e_X7_helps_78, e_X7_helps_65, e_X7_helps_83, e_X7_helps_75, e_X7_helps_88, e_X7_helps_109, e_X7_helps_114, e_X7_helps_166, e_X7_helps_146, e_X7_helps_254, e_X7_helps_199, e_X7_helps_217, e_X7_helps_233, xr_v, xr_n, hl_of, hl_cl, hl_toInt, hl_le, hl_lt, hl_eq, nI_add, hl_sub, pk_mul, hl_div, if_pos, if_neg, ↓reduceIte, Nat.reduceAdd, Nat.reduceSub, Nat.reduceMul, Nat.add_zero, Nat.zero_add, mp_s, mp_k, mp_i, mp_g, mr_s, mr_i, mr_g, zlt_0, zlt_1, zlt_2, zlt_3, zlt_4, zlt_5, zlt_6, zlt_8, zlt_12, zlt_15, zlt_20, zlt_24, zlt_36, zlt_40, zlt_48, zlt_80, zlt_97, zlt_120, zlt_256, zlt_600, zlt_99999999, zadd_1, zadd_2, zadd_5, zadd_6, zadd_8, zadd_20, zadd_24, zeq_0, zeq_1, zeq_2, zeq_3, zeq_4, zeq_5, zeq_6, zeq_7, zeq_8, zeq_13, zeq_14, zeq_20, zeq_32, zeq_59, zeq_60, zeq_80, zmul_2, zmul_4, zmul_6, zmul_8, zmul_10, zmul_24, zsub_1, zsub_2, zsub_10, zsub_48, zsub_97, zle_0, zle_1, zle_2, zle_6, zle_11, zle_200, zle_600, zle_100000000, ylt_0, ylt_1, ylt_2, ylt_3, ylt_6, ylt_9, ylt_20, ylt_24, ylt_57, ylt_60, ylt_99, ylt_120, ylt_122, ylt_999, ylt_9999, yle_0, yle_2, yle_4, yle_5, yle_6, yle_7, yle_8, yle_10, yle_12, yle_13, yle_15, yle_16, yle_20, yle_24, yle_40, yle_60, yle_64, yle_80, yadd_1, yadd_22, ymul_2, ymul_4, ymul_6, ymul_8, ymul_10, ymul_24, ymul_27, ymul_100, ysub_1, ysub_24, zdiv_2, zdiv_4, zdiv_24, e1, p1, p2, p3, p4, p5, b0, ql, q3]
  generalize hW : (perfL T f nd) = V at *
  refine loopT L xs O (P := fun r => isN r O _ 1 8 (MP M)) (fun j ls M' T' => ∃ tf u10, ls = [some (.inr (.inr (40, 0))), some (.inl (nI x)), some (.inl (nI a)), some (.inl (nI h)), some (.inl (nI t)), some (.inl (nI w)), some (.inr (.inr (90, 0))), some (.inl (0)), some (.inl (0)), some (.inl (nI j)), u10] ∧ T' = some tf ∧ (∀ i, i < j → tf i = mostF V (As a) n h (vN V 7 i) ns) ∧ M' = M3) nh 300 (by omega) ?_ ?_ (Nat.le_of_lt (FU (by omega))) ⟨_, _, rfl, rfl, fun i hi => absurd hi (by omega), rfl⟩
  · rintro fu k j _ M' _ hj ⟨tf, u10, rfl, rfl, htf, e⟩ ih
    rw [e]
    have hV3 : MV M3 V As n nh ns nw na := hW ▸ h3.2.1
    have k1 := hV3.2.1.2.1
    have vc := hV3.1.2.2.2.2.2.2.2.2.2.2.2.2.1 j hj
    have g56 := (hV3.2.1.2.2.2.2.2.1 j hj).trans vc.1
    have q4 := x7_most L xs O (D := d + 1) (by omega) (As a) v7 v5 (vN V 7 j) h vc.2 M3 hV3.2.1 l3
    simp (disch := first | omega | rfl | decide) only [e_X7_helps_0, e_X7_helps_11, e_X7_helps_19, e_X7_helps_24, e_X7_helps_33, e_X7_helps_91, e_X7_helps_41, e_X7_helps_46, e_X7_helps_54, e_X7_helps_78, e_X7_helps_65, e_X7_helps_83, e_X7_helps_75, e_X7_helps_88, e_X7_helps_109, e_X7_helps_114, e_X7_helps_117, e_X7_helps_166, e_X7_helps_146, e_X7_helps_169, e_X7_helps_254, e_X7_helps_199, e_X7_helps_217, e_X7_helps_233, xr_v, xr_n, hl_of, hl_cl, hl_toInt, hl_le, hl_lt, hl_eq, nI_add, hl_sub, pk_mul, hl_div, if_pos, if_neg, ↓reduceIte, Nat.reduceAdd, Nat.reduceSub, Nat.reduceMul, Nat.add_zero, Nat.zero_add, mp_s, mp_k, mp_i, mp_g, mr_s, mr_i, mr_g, zlt_0, zlt_1, zlt_2, zlt_3, zlt_4, zlt_5, zlt_6, zlt_8, zlt_12, zlt_15, zlt_20, zlt_24, zlt_36, zlt_40, zlt_48, zlt_80, zlt_97, zlt_120, zlt_256, zlt_600, zlt_99999999, zadd_1, zadd_2, zadd_5, zadd_6, zadd_8, zadd_20, zadd_24, zeq_0, zeq_1, zeq_2, zeq_3, zeq_4, zeq_5, zeq_6, zeq_7, zeq_8, zeq_13, zeq_14, zeq_20, zeq_32, zeq_59, zeq_60, zeq_80, zmul_2, zmul_4, zmul_6, zmul_8, zmul_10, zmul_24, zsub_1, zsub_2, zsub_10, zsub_48, zsub_97, zle_0, zle_1, zle_2, zle_6, zle_11, zle_200, zle_600, zle_100000000, ylt_0, ylt_1, ylt_2, ylt_3, ylt_6, ylt_9, ylt_20, ylt_24, ylt_57, ylt_60, ylt_99, ylt_120, ylt_122, ylt_999, ylt_9999, yle_0, yle_2, yle_4, yle_5, yle_6, yle_7, yle_8, yle_10, yle_12, yle_13, yle_15, yle_16, yle_20, yle_24, yle_40, yle_60, yle_64, yle_80, yadd_1, yadd_22, ymul_2, ymul_4, ymul_6, ymul_8, ymul_10, ymul_24, ymul_27, ymul_100, ysub_1, ysub_24, zdiv_2, zdiv_4, zdiv_24, k1, g56, q4]
    refine ih _ _ _ ⟨_, _, rfl, rfl, fun i hi => ?_, rfl⟩
    by_cases ei : i = j
    · rw [ei, pk_us]
    · rw [pk_un ei]
      exact htf i (by omega)
  · rintro fu k _ M' _ hf ⟨tf, u10, rfl, rfl, htf, e⟩
    have hf' : 999999 ≤ fu + nh := hf
    rw [e]
    have hV3 : MV M3 V As n nh ns nw na := hW ▸ h3.2.1
    have k1 := hV3.2.1.2.1
    have hV4 := MV_wall (x := x) hV3 ht
    obtain ⟨M4, q5, f5, l5⟩ := x7_laysLoud L xs O (D := d + 1) (by omega) a ha _ hV4
    have hV5 := MV_q hV4 f5
    have hP : MP M M4 := by
      have f4 : Fr sNt M3 M4 := Fr_trans (Fr_put Fr_refl (decide_eq_true (by omega))) (Fr_mono (fun _ _ _ => sNt_q) f5)
      refine ⟨Fr_trans h3.1 f4, ?_⟩
      rw [f5 40 0 0 rfl, mp_g (by omega)]
      exact h3.2.2
    have k1' := hV5.2.1.2.1
    simp (disch := first | omega | rfl | decide) only [e_X7_helps_0, e_X7_helps_11, e_X7_helps_19, e_X7_helps_24, e_X7_helps_33, e_X7_helps_91, e_X7_helps_41, e_X7_helps_46, e_X7_helps_54, e_X7_helps_78, e_X7_helps_65, e_X7_helps_83, e_X7_helps_75, e_X7_helps_88, e_X7_helps_109, e_X7_helps_114, e_X7_helps_117, e_X7_helps_166, e_X7_helps_146, e_X7_helps_254, e_X7_helps_199, e_X7_helps_217, e_X7_helps_233, xr_v, xr_n, hl_of, hl_cl, hl_toInt, hl_le, hl_lt, hl_eq, nI_add, hl_sub, pk_mul, hl_div, if_pos, if_neg, ↓reduceIte, Nat.reduceAdd, Nat.reduceSub, Nat.reduceMul, Nat.add_zero, Nat.zero_add, mp_s, mp_k, mp_i, mp_g, mr_s, mr_i, mr_g, zlt_0, zlt_1, zlt_2, zlt_3, zlt_4, zlt_5, zlt_6, zlt_8, zlt_12, zlt_15, zlt_20, zlt_24, zlt_36, zlt_40, zlt_48, zlt_80, zlt_97, zlt_120, zlt_256, zlt_600, zlt_99999999, zadd_1, zadd_2, zadd_5, zadd_6, zadd_8, zadd_20, zadd_24, zeq_0, zeq_1, zeq_2, zeq_3, zeq_4, zeq_5, zeq_6, zeq_7, zeq_8, zeq_13, zeq_14, zeq_20, zeq_32, zeq_59, zeq_60, zeq_80, zmul_2, zmul_4, zmul_6, zmul_8, zmul_10, zmul_24, zsub_1, zsub_2, zsub_10, zsub_48, zsub_97, zle_0, zle_1, zle_2, zle_6, zle_11, zle_200, zle_600, zle_100000000, ylt_0, ylt_1, ylt_2, ylt_3, ylt_6, ylt_9, ylt_20, ylt_24, ylt_57, ylt_60, ylt_99, ylt_120, ylt_122, ylt_999, ylt_9999, yle_0, yle_2, yle_4, yle_5, yle_6, yle_7, yle_8, yle_10, yle_12, yle_13, yle_15, yle_16, yle_20, yle_24, yle_40, yle_60, yle_64, yle_80, yadd_1, yadd_22, ymul_2, ymul_4, ymul_6, ymul_8, ymul_10, ymul_24, ymul_27, ymul_100, ysub_1, ysub_24, zdiv_2, zdiv_4, zdiv_24, k1, q5]
    refine loopA L xs O (P := fun r => isN r O _ 1 8 (MP M)) (fun j ls M' => ∃ b s u10, b = bitsF (fun k => decide (¬ lesF V (As a) n ns h x (nI t) k ≤ 0)) j ∧ s = sumF (lesF V (As a) n ns h x (nI t)) (fun k => decide (¬ lesF V (As a) n ns h x (nI t) k ≤ 0)) j ∧ ls = [some (.inr (.inr (40, 0))), some (.inl (nI x)), some (.inl (nI a)), some (.inl (nI h)), some (.inl (nI t)), some (.inl (nI w)), some (.inr (.inr (90, 0))), some (.inl (b)), some (.inl (s)), some (.inl (nI j)), u10] ∧ M' = M4) nh 200 (by omega) ?_ ?_ (by omega) ⟨_, _, _, rfl, rfl, rfl, rfl⟩
    · rintro fu k j _ M' hj ⟨_, _, u10, rfl, rfl, rfl, e⟩ ih
      rw [e]
      have vc := hV3.1.2.2.2.2.2.2.2.2.2.2.2.2.1 j hj
      have vc' := hV5.1.2.2.2.2.2.2.2.2.2.2.2.2.1 j hj
      rw [vw_n (by omega)] at vc'
      have g56 := (hV5.2.1.2.2.2.2.2.1 j hj).trans vc'.1
      have q4 := x7_most L xs O (D := d + 1) (by omega) (As a) v7 v5 (vN V 7 j) h vc.2 M4 hV5.2.1 l5
      have htj := htf j hj
      have el : mostF V (As a) n h (vN V 7 j) ns - mostF (vput V 6 x (nI t)) (As a) n h (vN V 7 j) ns = lesF V (As a) n ns h x (nI t) j := rfl
      by_cases c : lesF V (As a) n ns h x (nI t) j ≤ 0
      · simp (disch := first | omega | rfl | decide) only [e_X7_helps_0, e_X7_helps_11, e_X7_helps_19, e_X7_helps_24, e_X7_helps_33, e_X7_helps_91, e_X7_helps_41, e_X7_helps_46, e_X7_helps_54, e_X7_helps_78, e_X7_helps_65, e_X7_helps_83, e_X7_helps_75, e_X7_helps_88, e_X7_helps_109, e_X7_helps_114, e_X7_helps_117, e_X7_helps_166, e_X7_helps_146, e_X7_helps_169, e_X7_helps_254, e_X7_helps_199, e_X7_helps_217, e_X7_helps_233, xr_v, xr_n, hl_of, hl_cl, hl_toInt, hl_le, hl_lt, hl_eq, nI_add, hl_sub, pk_mul, hl_div, if_pos, if_neg, ↓reduceIte, Nat.reduceAdd, Nat.reduceSub, Nat.reduceMul, Nat.add_zero, Nat.zero_add, mp_s, mp_k, mp_i, mp_g, mr_s, mr_i, mr_g, zlt_0, zlt_1, zlt_2, zlt_3, zlt_4, zlt_5, zlt_6, zlt_8, zlt_12, zlt_15, zlt_20, zlt_24, zlt_36, zlt_40, zlt_48, zlt_80, zlt_97, zlt_120, zlt_256, zlt_600, zlt_99999999, zadd_1, zadd_2, zadd_5, zadd_6, zadd_8, zadd_20, zadd_24, zeq_0, zeq_1, zeq_2, zeq_3, zeq_4, zeq_5, zeq_6, zeq_7, zeq_8, zeq_13, zeq_14, zeq_20, zeq_32, zeq_59, zeq_60, zeq_80, zmul_2, zmul_4, zmul_6, zmul_8, zmul_10, zmul_24, zsub_1, zsub_2, zsub_10, zsub_48, zsub_97, zle_0, zle_1, zle_2, zle_6, zle_11, zle_200, zle_600, zle_100000000, ylt_0, ylt_1, ylt_2, ylt_3, ylt_6, ylt_9, ylt_20, ylt_24, ylt_57, ylt_60, ylt_99, ylt_120, ylt_122, ylt_999, ylt_9999, yle_0, yle_2, yle_4, yle_5, yle_6, yle_7, yle_8, yle_10, yle_12, yle_13, yle_15, yle_16, yle_20, yle_24, yle_40, yle_60, yle_64, yle_80, yadd_1, yadd_22, ymul_2, ymul_4, ymul_6, ymul_8, ymul_10, ymul_24, ymul_27, ymul_100, ysub_1, ysub_24, zdiv_2, zdiv_4, zdiv_24, k1', g56, q4, htj, el, c, Int32.or_zero, Int32.add_zero]
        exact ih _ _ ⟨_, _, _, bits_f (decide_eq_false (fun e => e c)), sum_f (decide_eq_false (fun e => e c)), rfl, rfl⟩
      · simp (disch := first | omega | rfl | decide) only [e_X7_helps_0, e_X7_helps_11, e_X7_helps_19, e_X7_helps_24, e_X7_helps_33, e_X7_helps_91, e_X7_helps_41, e_X7_helps_46, e_X7_helps_54, e_X7_helps_78, e_X7_helps_65, e_X7_helps_83, e_X7_helps_75, e_X7_helps_88, e_X7_helps_109, e_X7_helps_114, e_X7_helps_117, e_X7_helps_166, e_X7_helps_146, e_X7_helps_169, e_X7_helps_254, e_X7_helps_199, e_X7_helps_217, e_X7_helps_233, xr_v, xr_n, hl_of, hl_cl, hl_toInt, hl_le, hl_lt, hl_eq, nI_add, hl_sub, pk_mul, hl_div, if_pos, if_neg, ↓reduceIte, Nat.reduceAdd, Nat.reduceSub, Nat.reduceMul, Nat.add_zero, Nat.zero_add, mp_s, mp_k, mp_i, mp_g, mr_s, mr_i, mr_g, zlt_0, zlt_1, zlt_2, zlt_3, zlt_4, zlt_5, zlt_6, zlt_8, zlt_12, zlt_15, zlt_20, zlt_24, zlt_36, zlt_40, zlt_48, zlt_80, zlt_97, zlt_120, zlt_256, zlt_600, zlt_99999999, zadd_1, zadd_2, zadd_5, zadd_6, zadd_8, zadd_20, zadd_24, zeq_0, zeq_1, zeq_2, zeq_3, zeq_4, zeq_5, zeq_6, zeq_7, zeq_8, zeq_13, zeq_14, zeq_20, zeq_32, zeq_59, zeq_60, zeq_80, zmul_2, zmul_4, zmul_6, zmul_8, zmul_10, zmul_24, zsub_1, zsub_2, zsub_10, zsub_48, zsub_97, zle_0, zle_1, zle_2, zle_6, zle_11, zle_200, zle_600, zle_100000000, ylt_0, ylt_1, ylt_2, ylt_3, ylt_6, ylt_9, ylt_20, ylt_24, ylt_57, ylt_60, ylt_99, ylt_120, ylt_122, ylt_999, ylt_9999, yle_0, yle_2, yle_4, yle_5, yle_6, yle_7, yle_8, yle_10, yle_12, yle_13, yle_15, yle_16, yle_20, yle_24, yle_40, yle_60, yle_64, yle_80, yadd_1, yadd_22, ymul_2, ymul_4, ymul_6, ymul_8, ymul_10, ymul_24, ymul_27, ymul_100, ysub_1, ysub_24, zdiv_2, zdiv_4, zdiv_24, k1', g56, q4, htj, el, c]
        exact ih _ _ ⟨_, _, _, bits_t (decide_eq_true c), sum_t (decide_eq_true c), rfl, rfl⟩
    · rintro fu k _ M' ⟨_, _, u10, rfl, rfl, rfl, e⟩
      rw [e]
      unfold hlpF
      by_cases c : w = 0
      · rw [if_pos c]
        simp (disch := first | omega | rfl | decide) only [e_X7_helps_0, e_X7_helps_11, e_X7_helps_19, e_X7_helps_24, e_X7_helps_33, e_X7_helps_91, e_X7_helps_41, e_X7_helps_46, e_X7_helps_54, e_X7_helps_78, e_X7_helps_65, e_X7_helps_83, e_X7_helps_75, e_X7_helps_88, e_X7_helps_109, e_X7_helps_114, e_X7_helps_117, e_X7_helps_166, e_X7_helps_146, e_X7_helps_169, e_X7_helps_254, e_X7_helps_199, e_X7_helps_217, e_X7_helps_233, xr_v, xr_n, hl_of, hl_cl, hl_toInt, hl_le, hl_lt, hl_eq, nI_add, hl_sub, pk_mul, hl_div, if_pos, if_neg, ↓reduceIte, Nat.reduceAdd, Nat.reduceSub, Nat.reduceMul, Nat.add_zero, Nat.zero_add, mp_s, mp_k, mp_i, mp_g, mr_s, mr_i, mr_g, zlt_0, zlt_1, zlt_2, zlt_3, zlt_4, zlt_5, zlt_6, zlt_8, zlt_12, zlt_15, zlt_20, zlt_24, zlt_36, zlt_40, zlt_48, zlt_80, zlt_97, zlt_120, zlt_256, zlt_600, zlt_99999999, zadd_1, zadd_2, zadd_5, zadd_6, zadd_8, zadd_20, zadd_24, zeq_0, zeq_1, zeq_2, zeq_3, zeq_4, zeq_5, zeq_6, zeq_7, zeq_8, zeq_13, zeq_14, zeq_20, zeq_32, zeq_59, zeq_60, zeq_80, zmul_2, zmul_4, zmul_6, zmul_8, zmul_10, zmul_24, zsub_1, zsub_2, zsub_10, zsub_48, zsub_97, zle_0, zle_1, zle_2, zle_6, zle_11, zle_200, zle_600, zle_100000000, ylt_0, ylt_1, ylt_2, ylt_3, ylt_6, ylt_9, ylt_20, ylt_24, ylt_57, ylt_60, ylt_99, ylt_120, ylt_122, ylt_999, ylt_9999, yle_0, yle_2, yle_4, yle_5, yle_6, yle_7, yle_8, yle_10, yle_12, yle_13, yle_15, yle_16, yle_20, yle_24, yle_40, yle_60, yle_64, yle_80, yadd_1, yadd_22, ymul_2, ymul_4, ymul_6, ymul_8, ymul_10, ymul_24, ymul_27, ymul_100, ysub_1, ysub_24, zdiv_2, zdiv_4, zdiv_24, k1']
        exact isN_i hP
      · rw [if_neg c]
        simp (disch := first | omega | rfl | decide) only [e_X7_helps_0, e_X7_helps_11, e_X7_helps_19, e_X7_helps_24, e_X7_helps_33, e_X7_helps_91, e_X7_helps_41, e_X7_helps_46, e_X7_helps_54, e_X7_helps_78, e_X7_helps_65, e_X7_helps_83, e_X7_helps_75, e_X7_helps_88, e_X7_helps_109, e_X7_helps_114, e_X7_helps_117, e_X7_helps_166, e_X7_helps_146, e_X7_helps_169, e_X7_helps_254, e_X7_helps_199, e_X7_helps_217, e_X7_helps_233, xr_v, xr_n, hl_of, hl_cl, hl_toInt, hl_le, hl_lt, hl_eq, nI_add, hl_sub, pk_mul, hl_div, if_pos, if_neg, ↓reduceIte, Nat.reduceAdd, Nat.reduceSub, Nat.reduceMul, Nat.add_zero, Nat.zero_add, mp_s, mp_k, mp_i, mp_g, mr_s, mr_i, mr_g, zlt_0, zlt_1, zlt_2, zlt_3, zlt_4, zlt_5, zlt_6, zlt_8, zlt_12, zlt_15, zlt_20, zlt_24, zlt_36, zlt_40, zlt_48, zlt_80, zlt_97, zlt_120, zlt_256, zlt_600, zlt_99999999, zadd_1, zadd_2, zadd_5, zadd_6, zadd_8, zadd_20, zadd_24, zeq_0, zeq_1, zeq_2, zeq_3, zeq_4, zeq_5, zeq_6, zeq_7, zeq_8, zeq_13, zeq_14, zeq_20, zeq_32, zeq_59, zeq_60, zeq_80, zmul_2, zmul_4, zmul_6, zmul_8, zmul_10, zmul_24, zsub_1, zsub_2, zsub_10, zsub_48, zsub_97, zle_0, zle_1, zle_2, zle_6, zle_11, zle_200, zle_600, zle_100000000, ylt_0, ylt_1, ylt_2, ylt_3, ylt_6, ylt_9, ylt_20, ylt_24, ylt_57, ylt_60, ylt_99, ylt_120, ylt_122, ylt_999, ylt_9999, yle_0, yle_2, yle_4, yle_5, yle_6, yle_7, yle_8, yle_10, yle_12, yle_13, yle_15, yle_16, yle_20, yle_24, yle_40, yle_60, yle_64, yle_80, yadd_1, yadd_22, ymul_2, ymul_4, ymul_6, ymul_8, ymul_10, ymul_24, ymul_27, ymul_100, ysub_1, ysub_24, zdiv_2, zdiv_4, zdiv_24, k1']
        exact isN_i hP
end
