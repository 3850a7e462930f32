/-! Which AIR it is; a saying. -/
theorem bt_not (t : Int32) {i : Nat} (hi : i < 32) : bt (t ^^^ (-1)) i = !bt t i := by
  have h1 : ∀ i, i < 32 → bt (-1) i = true := by decide +kernel
  rw [b_xor, h1 i hi, Bool.xor_true]
theorem in_bits {t : Int32} {m : Nat} (hm : m ≤ 8) (h : inN t (2 ^ m)) : ∀ i, i < 32 → m ≤ i → bt t i = false := by
  intro i hi hmi
  have := (and_0.mp ((mask_0 hm).mpr h)) i hi
  rw [mask_b m (by omega) i hi, decide_eq_true hmi, Bool.and_true] at this
  exact this
def whF (p : Nat → Bool) (t hd : Int32) : Nat → Bool
  | 0 => true
  | s + 1 => whF p t hd s && (!bitB t s || (p s == bitB hd s))
theorem wh_iff (p : Nat → Bool) (t hd : Int32) : ∀ m, whF p t hd m = true ↔ ∀ s, s < m → (!bitB t s || (p s == bitB hd s)) = true := by
  intro m
  induction m with
  | zero => exact ⟨fun _ k hk => absurd hk (by omega), fun _ => rfl⟩
  | succ m ih =>
    unfold whF
    rw [Bool.and_eq_true, ih]
    refine ⟨fun h k hk => ?_, fun h => ⟨fun k hk => h k (by omega), h m (by omega)⟩⟩
    by_cases e : k = m
    · rw [e]
      exact h.2
    · exact h.1 k (by omega)
theorem sub_in {t hd : Int32} {m : Nat} (hm : m ≤ 8) (h : inN t (2 ^ m)) (h2 : hd &&& (t ^^^ (-1)) = 0) : inN hd (2 ^ m) := by
  rw [← mask_0 hm, and_0]
  intro i hi
  rw [mask_b m (by omega) i hi]
  by_cases c : m ≤ i
  · have h3 := (and_0.mp h2) i hi
    rw [bt_not t hi, in_bits hm h i hi c] at h3
    rw [decide_eq_true c]
    revert h3
    cases bt hd i <;> simp
  · rw [decide_eq_false c, Bool.and_false]
theorem wh_bits {p : Nat → Bool} {t hd : Int32} {m : Nat} (hm : m ≤ 8) (h : inN t (2 ^ m)) (h2 : hd &&& (t ^^^ (-1)) = 0) : bitsF (fun s => bitB t s && p s) m = hd ↔ whF p t hd m = true := by
  rw [wh_iff]
  have hsub : ∀ i, i < 32 → bt t i = false → bt hd i = false := by
    intro i hi ht
    have h3 := (and_0.mp h2) i hi
    rw [bt_not t hi, ht] at h3
    revert h3
    cases bt hd i <;> simp
  refine ⟨fun e s hs => ?_, fun e => b_ext (fun i hi => ?_)⟩
  · have h3 := bt_bits (fun s => bitB t s && p s) m (by omega) s (by omega)
    rw [e, decide_eq_true hs, Bool.true_and] at h3
    rw [bitB_bt hd (by omega), h3]
    cases bitB t s <;> cases p s <;> rfl
  · rw [bt_bits _ m (by omega) i hi]
    by_cases c : i < m
    · rw [decide_eq_true c, Bool.true_and]
      have h3 := e i c
      rw [bitB_bt t hi, bitB_bt hd hi] at h3
      rw [bitB_bt t hi]
      cases c2 : bt t i with
      | false =>
        rw [hsub i hi c2]
        rfl
      | true =>
        rw [c2] at h3
        rw [Bool.true_and]
        revert h3
        cases p i <;> cases bt hd i <;> simp
    · rw [decide_eq_false c, Bool.false_and]
      exact (hsub i hi (in_bits hm h i hi (by omega))).symm
section
variable (L : Nat) (xs : Nat → Int32) (O : Int64)
theorem c_which {M0 : Mem} {V : Vw} {As : Nat → Nat → Int32} {n nh ns nw na : Nat} {D : Nat} (hD : 10 ≤ D) (k0 h : Nat) (t hd : Int32) (hk : k0 < nh) (hh : h < 24) (ht : inN t (2 ^ ns)) (h2 : hd &&& (t ^^^ (-1)) = 0) (M : Mem) (hM : CQ M0 V As n nh ns nw na M) : isI (EX L xs (D) q_X6_which [.inr (.inr (0, 0)), .inl (nI k0), .inl (nI h), .inl (t), .inl (hd)] M O) O (bitsF (fun a => whF (oneF V (As a) n h k0) t hd ns) na) (CQ M0 V As n nh ns nw na) := by
  have hV := hM.2.1
  have v5 : n ≤ 40 := hV.2.2.2.2.2.1
  have v6 : nh ≤ 8 := hV.2.2.2.2.2.2.1
  have v7 : ns ≤ 6 := hV.2.2.2.2.2.2.2.1
  have v8 : nw ≤ 8 := hV.2.2.2.2.2.2.2.2.1
  have h6 : na ≤ 6 := hM.2.2.2.2.1
  have g0 := (hM.2.2.1 3 0 rfl).trans hV.1
  have g4 := (hM.2.2.1 3 4 rfl).trans hV.2.1
  have g8 := (hM.2.2.1 3 8 rfl).trans hV.2.2.1
  have g13 := (hM.2.2.1 3 13 rfl).trans hV.2.2.2.1
  have g6 := hM.2.2.2.1
  obtain ⟨d, rfl⟩ : ∃ d, D = d + 2 := ⟨D - 2, by omega⟩
  refine isI_e (EX_in mi_X6_which rfl rfl rfl (ls := [some (.inr (.inr (0, 0))), some (.inl (nI k0)), some (.inl (nI h)), some (.inl (t)), some (.inl (hd)), none, none]) rfl) ?_
  have q1 := x6_needHouse_in L xs O (D := d + 1) (by omega) (by omega) k0 M g4 hk
  have q2 := x6_needHour_in L xs O (D := d + 1) (by omega) h M hh
  have q3 := x6_needBits_in L xs O (D := d + 1) (by omega) ns (by omega) t M ht
  have q4 := x6_needArg_1 L xs O (D := d + 1) (by omega) M
  simp (disch := first | omega | rfl | decide) only [e_X6_which_0, e_X6_which_5, e_X6_which_10, e_X6_which_22, e_X6_which_37, e_X6_which_40, e_X6_which_64, e_X6_which_78, xr_v, xr_n, hl_of, hl_cl, hl_toInt, hl_le, hl_lt, hl_eq, nI_add, hl_sub, pk_mul, hl_div, if_pos, if_neg, ↓reduceIte, Nat.reduceAdd, Nat.reduceSub, Nat.reduceMul, Nat.add_zero, Nat.zero_add, mp_s, mp_k, mp_i, mp_g, mr_s, mr_i, mr_g, zlt_0, zlt_1, zlt_2, zlt_3, zlt_4, zlt_5, zlt_6, zlt_8, zlt_12, zlt_15, zlt_20, zlt_24, zlt_36, zlt_40, zlt_48, zlt_80, zlt_97, zlt_120, zlt_256, zlt_600, zlt_99999999, zadd_1, zadd_2, zadd_5, zadd_6, zadd_8, zadd_20, zadd_24, zeq_0, zeq_1, zeq_2, zeq_3, zeq_4, zeq_5, zeq_6, zeq_7, zeq_8, zeq_13, zeq_14, zeq_20, zeq_32, zeq_59, zeq_60, zeq_80, zmul_2, zmul_4, zmul_6, zmul_8, zmul_10, zmul_24, zsub_1, zsub_2, zsub_10, zsub_48, zsub_97, zle_0, zle_1, zle_2, zle_6, zle_11, zle_200, zle_600, zle_100000000, ylt_0, ylt_1, ylt_2, ylt_3, ylt_6, ylt_9, ylt_20, ylt_24, ylt_57, ylt_60, ylt_99, ylt_120, ylt_122, ylt_999, ylt_9999, yle_0, yle_2, yle_4, yle_5, yle_6, yle_7, yle_8, yle_10, yle_12, yle_13, yle_15, yle_16, yle_20, yle_24, yle_40, yle_60, yle_64, yle_80, yadd_1, yadd_22, ymul_2, ymul_4, ymul_6, ymul_8, ymul_10, ymul_24, ymul_27, ymul_100, ysub_1, ysub_24, zdiv_2, zdiv_4, zdiv_24, q1, q2, g8, q3, h2, q4]
  refine loopA L xs O (P := fun r => isI r O _ (CQ M0 V As n nh ns nw na)) (fun j ls M => ∃ v, v = bitsF (fun a => whF (oneF V (As a) n h k0) t hd ns) j ∧ ls = [some (.inr (.inr (0, 0))), some (.inl (nI k0)), some (.inl (nI h)), some (.inl (t)), some (.inl (hd)), some (.inl (v)), some (.inl (nI j))] ∧ CQ M0 V As n nh ns nw na M) na 100 (by omega) ?_ ?_ (Nat.le_of_lt (FU (by omega))) ⟨_, rfl, rfl, hM⟩
  · rintro f k j _ M hj ⟨_, rfl, rfl, hM⟩ ih
    have hV := hM.2.1
    have v5 : n ≤ 40 := hV.2.2.2.2.2.1
    have v6 : nh ≤ 8 := hV.2.2.2.2.2.2.1
    have v7 : ns ≤ 6 := hV.2.2.2.2.2.2.2.1
    have v8 : nw ≤ 8 := hV.2.2.2.2.2.2.2.2.1
    have h6 : na ≤ 6 := hM.2.2.2.2.1
    have g0 := (hM.2.2.1 3 0 rfl).trans hV.1
    have g4 := (hM.2.2.1 3 4 rfl).trans hV.2.1
    have g8 := (hM.2.2.1 3 8 rfl).trans hV.2.2.1
    have g13 := (hM.2.2.1 3 13 rfl).trans hV.2.2.2.1
    have g6 := hM.2.2.2.1
    obtain ⟨M1, q5, h1⟩ := x6_heardAlone L xs O (D := d + 1) (by omega) k0 j h t hk hj hh M hM
    have hw := wh_bits (p := oneF V (As j) n h k0) (m := ns) (by omega) ht h2
    by_cases c : bitsF (fun s => bitB t s && oneF V (As j) n h k0 s) ns = hd
    · rw [c] at q5
      simp (disch := first | omega | rfl | decide) only [e_X6_which_0, e_X6_which_5, e_X6_which_10, e_X6_which_22, e_X6_which_37, e_X6_which_40, e_X6_which_46, e_X6_which_64, e_X6_which_78, xr_v, xr_n, hl_of, hl_cl, hl_toInt, hl_le, hl_lt, hl_eq, nI_add, hl_sub, pk_mul, hl_div, if_pos, if_neg, ↓reduceIte, Nat.reduceAdd, Nat.reduceSub, Nat.reduceMul, Nat.add_zero, Nat.zero_add, mp_s, mp_k, mp_i, mp_g, mr_s, mr_i, mr_g, zlt_0, zlt_1, zlt_2, zlt_3, zlt_4, zlt_5, zlt_6, zlt_8, zlt_12, zlt_15, zlt_20, zlt_24, zlt_36, zlt_40, zlt_48, zlt_80, zlt_97, zlt_120, zlt_256, zlt_600, zlt_99999999, zadd_1, zadd_2, zadd_5, zadd_6, zadd_8, zadd_20, zadd_24, zeq_0, zeq_1, zeq_2, zeq_3, zeq_4, zeq_5, zeq_6, zeq_7, zeq_8, zeq_13, zeq_14, zeq_20, zeq_32, zeq_59, zeq_60, zeq_80, zmul_2, zmul_4, zmul_6, zmul_8, zmul_10, zmul_24, zsub_1, zsub_2, zsub_10, zsub_48, zsub_97, zle_0, zle_1, zle_2, zle_6, zle_11, zle_200, zle_600, zle_100000000, ylt_0, ylt_1, ylt_2, ylt_3, ylt_6, ylt_9, ylt_20, ylt_24, ylt_57, ylt_60, ylt_99, ylt_120, ylt_122, ylt_999, ylt_9999, yle_0, yle_2, yle_4, yle_5, yle_6, yle_7, yle_8, yle_10, yle_12, yle_13, yle_15, yle_16, yle_20, yle_24, yle_40, yle_60, yle_64, yle_80, yadd_1, yadd_22, ymul_2, ymul_4, ymul_6, ymul_8, ymul_10, ymul_24, ymul_27, ymul_100, ysub_1, ysub_24, zdiv_2, zdiv_4, zdiv_24, g6, q5]
      exact ih _ _ ⟨_, bits_t (hw.mp c), rfl, h1⟩
    · simp (disch := first | omega | rfl | decide) only [e_X6_which_0, e_X6_which_5, e_X6_which_10, e_X6_which_22, e_X6_which_37, e_X6_which_40, e_X6_which_46, e_X6_which_64, e_X6_which_78, xr_v, xr_n, hl_of, hl_cl, hl_toInt, hl_le, hl_lt, hl_eq, nI_add, hl_sub, pk_mul, hl_div, if_pos, if_neg, ↓reduceIte, Nat.reduceAdd, Nat.reduceSub, Nat.reduceMul, Nat.add_zero, Nat.zero_add, mp_s, mp_k, mp_i, mp_g, mr_s, mr_i, mr_g, zlt_0, zlt_1, zlt_2, zlt_3, zlt_4, zlt_5, zlt_6, zlt_8, zlt_12, zlt_15, zlt_20, zlt_24, zlt_36, zlt_40, zlt_48, zlt_80, zlt_97, zlt_120, zlt_256, zlt_600, zlt_99999999, zadd_1, zadd_2, zadd_5, zadd_6, zadd_8, zadd_20, zadd_24, zeq_0, zeq_1, zeq_2, zeq_3, zeq_4, zeq_5, zeq_6, zeq_7, zeq_8, zeq_13, zeq_14, zeq_20, zeq_32, zeq_59, zeq_60, zeq_80, zmul_2, zmul_4, zmul_6, zmul_8, zmul_10, zmul_24, zsub_1, zsub_2, zsub_10, zsub_48, zsub_97, zle_0, zle_1, zle_2, zle_6, zle_11, zle_200, zle_600, zle_100000000, ylt_0, ylt_1, ylt_2, ylt_3, ylt_6, ylt_9, ylt_20, ylt_24, ylt_57, ylt_60, ylt_99, ylt_120, ylt_122, ylt_999, ylt_9999, yle_0, yle_2, yle_4, yle_5, yle_6, yle_7, yle_8, yle_10, yle_12, yle_13, yle_15, yle_16, yle_20, yle_24, yle_40, yle_60, yle_64, yle_80, yadd_1, yadd_22, ymul_2, ymul_4, ymul_6, ymul_8, ymul_10, ymul_24, ymul_27, ymul_100, ysub_1, ysub_24, zdiv_2, zdiv_4, zdiv_24, g6, q5, c]
      refine ih _ _ ⟨_, bits_f ?_, rfl, h1⟩
      cases c2 : whF (oneF V (As j) n h k0) t hd ns with
      | false => rfl
      | true => exact absurd (hw.mpr c2) c
  · rintro f k _ M ⟨_, rfl, rfl, hM⟩
    have hV := hM.2.1
    have v5 : n ≤ 40 := hV.2.2.2.2.2.1
    have v6 : nh ≤ 8 := hV.2.2.2.2.2.2.1
    have v7 : ns ≤ 6 := hV.2.2.2.2.2.2.2.1
    have v8 : nw ≤ 8 := hV.2.2.2.2.2.2.2.2.1
    have h6 : na ≤ 6 := hM.2.2.2.2.1
    have g0 := (hM.2.2.1 3 0 rfl).trans hV.1
    have g4 := (hM.2.2.1 3 4 rfl).trans hV.2.1
    have g8 := (hM.2.2.1 3 8 rfl).trans hV.2.2.1
    have g13 := (hM.2.2.1 3 13 rfl).trans hV.2.2.2.1
    have g6 := hM.2.2.2.1
    simp (disch := first | omega | rfl | decide) only [e_X6_which_0, e_X6_which_5, e_X6_which_10, e_X6_which_22, e_X6_which_37, e_X6_which_40, e_X6_which_46, e_X6_which_64, e_X6_which_78, xr_v, xr_n, hl_of, hl_cl, hl_toInt, hl_le, hl_lt, hl_eq, nI_add, hl_sub, pk_mul, hl_div, if_pos, if_neg, ↓reduceIte, Nat.reduceAdd, Nat.reduceSub, Nat.reduceMul, Nat.add_zero, Nat.zero_add, mp_s, mp_k, mp_i, mp_g, mr_s, mr_i, mr_g, zlt_0, zlt_1, zlt_2, zlt_3, zlt_4, zlt_5, zlt_6, zlt_8, zlt_12, zlt_15, zlt_20, zlt_24, zlt_36, zlt_40, zlt_48, zlt_80, zlt_97, zlt_120, zlt_256, zlt_600, zlt_99999999, zadd_1, zadd_2, zadd_5, zadd_6, zadd_8, zadd_20, zadd_24, zeq_0, zeq_1, zeq_2, zeq_3, zeq_4, zeq_5, zeq_6, zeq_7, zeq_8, zeq_13, zeq_14, zeq_20, zeq_32, zeq_59, zeq_60, zeq_80, zmul_2, zmul_4, zmul_6, zmul_8, zmul_10, zmul_24, zsub_1, zsub_2, zsub_10, zsub_48, zsub_97, zle_0, zle_1, zle_2, zle_6, zle_11, zle_200, zle_600, zle_100000000, ylt_0, ylt_1, ylt_2, ylt_3, ylt_6, ylt_9, ylt_20, ylt_24, ylt_57, ylt_60, ylt_99, ylt_120, ylt_122, ylt_999, ylt_9999, yle_0, yle_2, yle_4, yle_5, yle_6, yle_7, yle_8, yle_10, yle_12, yle_13, yle_15, yle_16, yle_20, yle_24, yle_40, yle_60, yle_64, yle_80, yadd_1, yadd_22, ymul_2, ymul_4, ymul_6, ymul_8, ymul_10, ymul_24, ymul_27, ymul_100, ysub_1, ysub_24, zdiv_2, zdiv_4, zdiv_24, g6]
    exact isI_i hM
end
section
variable (L : Nat) (xs : Nat → Int32) (O : Int64) {T : Vw} {f : Nat → Nat} {As : Nat → Nat → Int32} {n nh ns nw na nd : Nat}
theorem m_which {D : Nat} (hD : 11 ≤ D) (k0 h : Nat) (t hd : Int32) (hk : k0 < nh) (hh : h < 24) (ht : inN t (2 ^ ns)) (h2 : hd &&& (t ^^^ (-1)) = 0) (M : Mem) (hB : MB M T f As n nh ns nw na nd) : isI (EX L xs (D) q_X7_which [.inr (.inr (40, 0)), .inl (nI k0), .inl (nI h), .inl (t), .inl (hd)] M O) O (bitsF (fun a => whF (oneF (perfL T f nd) (As a) n h k0) t hd ns) na) (MP M) := by
  obtain ⟨d, rfl⟩ : ∃ d, D = d + 2 := ⟨D - 2, by omega⟩
  refine isI_e (EX_in mi_X7_which rfl rfl rfl (ls := [some (.inr (.inr (40, 0))), some (.inl (nI k0)), some (.inl (nI h)), some (.inl (t)), some (.inl (hd)), none, none, none, none]) rfl) ?_
  obtain ⟨M1, e1, fr1, hB1, t1⟩ := m_start hB
  have v4 : 8 ≤ n := hB1.1.2.2.2.2.1
  have v5 : n ≤ 40 := hB1.1.2.2.2.2.2.1
  have v6 : nh ≤ 8 := hB1.1.2.2.2.2.2.2.1
  have v7 : ns ≤ 6 := hB1.1.2.2.2.2.2.2.2.1
  have v8 : nw ≤ 8 := hB1.1.2.2.2.2.2.2.2.2.1
  have h6 : na ≤ 6 := hB1.2.2.2.2.2.1
  have z0 := hB1.2.1.1
  have z1 := hB1.2.1.2.1
  have z2 := hB1.2.1.2.2.1
  have z3 := hB1.2.1.2.2.2.1
  have z26 := hB1.2.2.2.2.1
  have b0 := fun w q => x7_bad_0 L xs O (D := d + 1) (by omega) w q M1 t1
  obtain ⟨M2, ql, h2'⟩ := x7_laidR L xs O (D := d + 1) (by omega) hB fr1 hB1 t1
  have hp := pow_le8 (show ns ≤ 8 by omega)
  have p1 := x7_isHouse_i L xs O (D := d + 1) (by omega) (by omega) k0 M1 z1 hk
  have p2 := x7_isHour_i L xs O (D := d + 1) (by omega) h M1 hh
  have s1 := shl1 ns (by omega)
  have p3 : EX L xs (d + 1) q_X7_in [.inl (t), .inl (0), .inl (nI (2 ^ ns) - 1)] M1 O = (some (.inl (some (.inl (1))), M1, O, 0, 0) : Res) := by
    obtain ⟨j, hj, rfl⟩ := ht
    rw [zsub_1 (by omega)]
    exact x7_in_in L xs O (by omega) (2 ^ ns) j (by omega) M1 hj
  have hdn : ¬ hd < 0 := by
    obtain ⟨j, hj, e⟩ := sub_in (by omega) ht h2
    rw [e]
    exact nn_n j (by omega)
  simp (disch := first | omega | rfl | decide) only [e_X7_which_0, e_X7_which_11, e_X7_which_19, e_X7_which_24, e_X7_which_32, e_X7_which_80, e_X7_which_67, e_X7_which_50, e_X7_which_72, e_X7_which_77, e_X7_which_86, e_X7_which_107, e_X7_which_193, e_X7_which_169, e_X7_which_165, e_X7_which_146, e_X7_which_170, e_X7_which_162, xr_v, xr_n, hl_of, hl_cl, hl_toInt, hl_le, hl_lt, hl_eq, nI_add, hl_sub, pk_mul, hl_div, if_pos, if_neg, ↓reduceIte, Nat.reduceAdd, Nat.reduceSub, Nat.reduceMul, Nat.add_zero, Nat.zero_add, mp_s, mp_k, mp_i, mp_g, mr_s, mr_i, mr_g, zlt_0, zlt_1, zlt_2, zlt_3, zlt_4, zlt_5, zlt_6, zlt_8, zlt_12, zlt_15, zlt_20, zlt_24, zlt_36, zlt_40, zlt_48, zlt_80, zlt_97, zlt_120, zlt_256, zlt_600, zlt_99999999, zadd_1, zadd_2, zadd_5, zadd_6, zadd_8, zadd_20, zadd_24, zeq_0, zeq_1, zeq_2, zeq_3, zeq_4, zeq_5, zeq_6, zeq_7, zeq_8, zeq_13, zeq_14, zeq_20, zeq_32, zeq_59, zeq_60, zeq_80, zmul_2, zmul_4, zmul_6, zmul_8, zmul_10, zmul_24, zsub_1, zsub_2, zsub_10, zsub_48, zsub_97, zle_0, zle_1, zle_2, zle_6, zle_11, zle_200, zle_600, zle_100000000, ylt_0, ylt_1, ylt_2, ylt_3, ylt_6, ylt_9, ylt_20, ylt_24, ylt_57, ylt_60, ylt_99, ylt_120, ylt_122, ylt_999, ylt_9999, yle_0, yle_2, yle_4, yle_5, yle_6, yle_7, yle_8, yle_10, yle_12, yle_13, yle_15, yle_16, yle_20, yle_24, yle_40, yle_60, yle_64, yle_80, yadd_1, yadd_22, ymul_2, ymul_4, ymul_6, ymul_8, ymul_10, ymul_24, ymul_27, ymul_100, ysub_1, ysub_24, zdiv_2, zdiv_4, zdiv_24, e1, p1, p2, z2, s1, p3, hdn, h2, b0, ql]
  refine loopB L xs O (P := fun r => isI r O _ (MP M)) (fun j ls M' => ∃ v u7 u8, v = bitsF (fun a => whF (oneF (perfL T f nd) (As a) n h k0) t hd ns) j ∧ ls = [some (.inr (.inr (40, 0))), some (.inl (nI k0)), some (.inl (nI h)), some (.inl (t)), some (.inl (hd)), some (.inl (v)), some (.inl (nI j)), u7, u8] ∧ MR T f As n nh ns nw na nd M M') na 8 300 0 (by omega) ?_ ?_ na FUEL _ 0 _ M2 (by omega) (Nat.le_of_lt (FU (by omega))) (by omega) ⟨_, _, _, rfl, rfl, h2'⟩
  · rintro fu k j _ M' hj hf ⟨_, u7, u8, rfl, rfl, h3⟩ ih
    have k26 := h3.2.1.2.2.2.1
    obtain ⟨M3, q3, h4, l4⟩ := x7_loudR L xs O (D := d + 1) (by omega) j hj M' h3
    have k2 := h4.2.1.2.1.2.2.1
    simp (disch := first | omega | rfl | decide) only [e_X7_which_0, e_X7_which_11, e_X7_which_19, e_X7_which_24, e_X7_which_32, e_X7_which_80, e_X7_which_67, e_X7_which_50, e_X7_which_72, e_X7_which_77, e_X7_which_86, e_X7_which_92, e_X7_which_107, e_X7_which_193, e_X7_which_169, e_X7_which_165, e_X7_which_146, e_X7_which_170, e_X7_which_162, xr_v, xr_n, hl_of, hl_cl, hl_toInt, hl_le, hl_lt, hl_eq, nI_add, hl_sub, pk_mul, hl_div, if_pos, if_neg, ↓reduceIte, Nat.reduceAdd, Nat.reduceSub, Nat.reduceMul, Nat.add_zero, Nat.zero_add, mp_s, mp_k, mp_i, mp_g, mr_s, mr_i, mr_g, zlt_0, zlt_1, zlt_2, zlt_3, zlt_4, zlt_5, zlt_6, zlt_8, zlt_12, zlt_15, zlt_20, zlt_24, zlt_36, zlt_40, zlt_48, zlt_80, zlt_97, zlt_120, zlt_256, zlt_600, zlt_99999999, zadd_1, zadd_2, zadd_5, zadd_6, zadd_8, zadd_20, zadd_24, zeq_0, zeq_1, zeq_2, zeq_3, zeq_4, zeq_5, zeq_6, zeq_7, zeq_8, zeq_13, zeq_14, zeq_20, zeq_32, zeq_59, zeq_60, zeq_80, zmul_2, zmul_4, zmul_6, zmul_8, zmul_10, zmul_24, zsub_1, zsub_2, zsub_10, zsub_48, zsub_97, zle_0, zle_1, zle_2, zle_6, zle_11, zle_200, zle_600, zle_100000000, ylt_0, ylt_1, ylt_2, ylt_3, ylt_6, ylt_9, ylt_20, ylt_24, ylt_57, ylt_60, ylt_99, ylt_120, ylt_122, ylt_999, ylt_9999, yle_0, yle_2, yle_4, yle_5, yle_6, yle_7, yle_8, yle_10, yle_12, yle_13, yle_15, yle_16, yle_20, yle_24, yle_40, yle_60, yle_64, yle_80, yadd_1, yadd_22, ymul_2, ymul_4, ymul_6, ymul_8, ymul_10, ymul_24, ymul_27, ymul_100, ysub_1, ysub_24, zdiv_2, zdiv_4, zdiv_24, k26, q3]
    refine loopC L xs O (P := fun r => isI r O _ (MP M)) (fun s ls M' => ls = [some (.inr (.inr (40, 0))), some (.inl (nI k0)), some (.inl (nI h)), some (.inl (t)), some (.inl (hd)), some (.inl (bitsF (fun a => whF (oneF (perfL T f nd) (As a) n h k0) t hd ns) j)), some (.inl (nI j)), some (.inl (b2i (whF (oneF (perfL T f nd) (As j) n h k0) t hd s))), some (.inl (nI s))] ∧ M' = M3) ns 100 (by omega) ?_ ?_ (by omega) ⟨rfl, rfl⟩
    · rintro fu k s _ M' hs ⟨rfl, e⟩ ih
      rw [e]
      have hw : whF (oneF (perfL T f nd) (As j) n h k0) t hd (s + 1) = (whF (oneF (perfL T f nd) (As j) n h k0) t hd s && (!bitB t s || (oneF (perfL T f nd) (As j) n h k0 s == bitB hd s))) := rfl
      have hz := bit_z t (show s < 32 by omega)
      cases c : whF (oneF (perfL T f nd) (As j) n h k0) t hd s with
      | false =>
        rw [c, Bool.false_and] at hw
        simp (disch := first | omega | rfl | decide) only [e_X7_which_0, e_X7_which_11, e_X7_which_19, e_X7_which_24, e_X7_which_32, e_X7_which_80, e_X7_which_67, e_X7_which_50, e_X7_which_72, e_X7_which_77, e_X7_which_86, e_X7_which_92, e_X7_which_107, e_X7_which_113, e_X7_which_193, e_X7_which_169, e_X7_which_165, e_X7_which_146, e_X7_which_170, e_X7_which_162, xr_v, xr_n, hl_of, hl_cl, hl_toInt, hl_le, hl_lt, hl_eq, nI_add, hl_sub, pk_mul, hl_div, if_pos, if_neg, ↓reduceIte, Nat.reduceAdd, Nat.reduceSub, Nat.reduceMul, Nat.add_zero, Nat.zero_add, mp_s, mp_k, mp_i, mp_g, mr_s, mr_i, mr_g, zlt_0, zlt_1, zlt_2, zlt_3, zlt_4, zlt_5, zlt_6, zlt_8, zlt_12, zlt_15, zlt_20, zlt_24, zlt_36, zlt_40, zlt_48, zlt_80, zlt_97, zlt_120, zlt_256, zlt_600, zlt_99999999, zadd_1, zadd_2, zadd_5, zadd_6, zadd_8, zadd_20, zadd_24, zeq_0, zeq_1, zeq_2, zeq_3, zeq_4, zeq_5, zeq_6, zeq_7, zeq_8, zeq_13, zeq_14, zeq_20, zeq_32, zeq_59, zeq_60, zeq_80, zmul_2, zmul_4, zmul_6, zmul_8, zmul_10, zmul_24, zsub_1, zsub_2, zsub_10, zsub_48, zsub_97, zle_0, zle_1, zle_2, zle_6, zle_11, zle_200, zle_600, zle_100000000, ylt_0, ylt_1, ylt_2, ylt_3, ylt_6, ylt_9, ylt_20, ylt_24, ylt_57, ylt_60, ylt_99, ylt_120, ylt_122, ylt_999, ylt_9999, yle_0, yle_2, yle_4, yle_5, yle_6, yle_7, yle_8, yle_10, yle_12, yle_13, yle_15, yle_16, yle_20, yle_24, yle_40, yle_60, yle_64, yle_80, yadd_1, yadd_22, ymul_2, ymul_4, ymul_6, ymul_8, ymul_10, ymul_24, ymul_27, ymul_100, ysub_1, ysub_24, zdiv_2, zdiv_4, zdiv_24, k2, b2i_f]
        exact ih _ _ ⟨by rw [hw]; rfl, rfl⟩
      | true =>
        rw [c, Bool.true_and] at hw
        cases c2 : bitB t s with
        | false =>
          rw [c2] at hw
          have hz' := hz.mpr c2
          simp (disch := first | omega | rfl | decide) only [e_X7_which_0, e_X7_which_11, e_X7_which_19, e_X7_which_24, e_X7_which_32, e_X7_which_80, e_X7_which_67, e_X7_which_50, e_X7_which_72, e_X7_which_77, e_X7_which_86, e_X7_which_92, e_X7_which_107, e_X7_which_113, e_X7_which_193, e_X7_which_169, e_X7_which_165, e_X7_which_146, e_X7_which_170, e_X7_which_162, xr_v, xr_n, hl_of, hl_cl, hl_toInt, hl_le, hl_lt, hl_eq, nI_add, hl_sub, pk_mul, hl_div, if_pos, if_neg, ↓reduceIte, Nat.reduceAdd, Nat.reduceSub, Nat.reduceMul, Nat.add_zero, Nat.zero_add, mp_s, mp_k, mp_i, mp_g, mr_s, mr_i, mr_g, zlt_0, zlt_1, zlt_2, zlt_3, zlt_4, zlt_5, zlt_6, zlt_8, zlt_12, zlt_15, zlt_20, zlt_24, zlt_36, zlt_40, zlt_48, zlt_80, zlt_97, zlt_120, zlt_256, zlt_600, zlt_99999999, zadd_1, zadd_2, zadd_5, zadd_6, zadd_8, zadd_20, zadd_24, zeq_0, zeq_1, zeq_2, zeq_3, zeq_4, zeq_5, zeq_6, zeq_7, zeq_8, zeq_13, zeq_14, zeq_20, zeq_32, zeq_59, zeq_60, zeq_80, zmul_2, zmul_4, zmul_6, zmul_8, zmul_10, zmul_24, zsub_1, zsub_2, zsub_10, zsub_48, zsub_97, zle_0, zle_1, zle_2, zle_6, zle_11, zle_200, zle_600, zle_100000000, ylt_0, ylt_1, ylt_2, ylt_3, ylt_6, ylt_9, ylt_20, ylt_24, ylt_57, ylt_60, ylt_99, ylt_120, ylt_122, ylt_999, ylt_9999, yle_0, yle_2, yle_4, yle_5, yle_6, yle_7, yle_8, yle_10, yle_12, yle_13, yle_15, yle_16, yle_20, yle_24, yle_40, yle_60, yle_64, yle_80, yadd_1, yadd_22, ymul_2, ymul_4, ymul_6, ymul_8, ymul_10, ymul_24, ymul_27, ymul_100, ysub_1, ysub_24, zdiv_2, zdiv_4, zdiv_24, k2, b2i_t, hz']
          exact ih _ _ ⟨by rw [hw]; rfl, rfl⟩
        | true =>
          rw [c2] at hw
          have hz' : ¬ (t >>> (nI s &&& 31)) &&& 1 = 0 := fun e => by rw [hz.mp e] at c2; cases c2
          have q4 := x7_hearsOne L xs O (D := d + 1) (by omega) (As j) k0 s h hk hs hh M3 h4.2.1 l4
          by_cases c3 : (hd >>> (nI s &&& 31)) &&& 1 = 1
          · rw [show bitB hd s = true from decide_eq_true c3] at hw
            cases c4 : oneF (perfL T f nd) (As j) n h k0 s with
            | false =>
              rw [c4] at hw
              rw [c4, b2i_f] at q4
              simp (disch := first | omega | rfl | decide) only [e_X7_which_0, e_X7_which_11, e_X7_which_19, e_X7_which_24, e_X7_which_32, e_X7_which_80, e_X7_which_67, e_X7_which_50, e_X7_which_72, e_X7_which_77, e_X7_which_86, e_X7_which_92, e_X7_which_107, e_X7_which_113, e_X7_which_193, e_X7_which_169, e_X7_which_165, e_X7_which_146, e_X7_which_170, e_X7_which_162, xr_v, xr_n, hl_of, hl_cl, hl_toInt, hl_le, hl_lt, hl_eq, nI_add, hl_sub, pk_mul, hl_div, if_pos, if_neg, ↓reduceIte, Nat.reduceAdd, Nat.reduceSub, Nat.reduceMul, Nat.add_zero, Nat.zero_add, mp_s, mp_k, mp_i, mp_g, mr_s, mr_i, mr_g, zlt_0, zlt_1, zlt_2, zlt_3, zlt_4, zlt_5, zlt_6, zlt_8, zlt_12, zlt_15, zlt_20, zlt_24, zlt_36, zlt_40, zlt_48, zlt_80, zlt_97, zlt_120, zlt_256, zlt_600, zlt_99999999, zadd_1, zadd_2, zadd_5, zadd_6, zadd_8, zadd_20, zadd_24, zeq_0, zeq_1, zeq_2, zeq_3, zeq_4, zeq_5, zeq_6, zeq_7, zeq_8, zeq_13, zeq_14, zeq_20, zeq_32, zeq_59, zeq_60, zeq_80, zmul_2, zmul_4, zmul_6, zmul_8, zmul_10, zmul_24, zsub_1, zsub_2, zsub_10, zsub_48, zsub_97, zle_0, zle_1, zle_2, zle_6, zle_11, zle_200, zle_600, zle_100000000, ylt_0, ylt_1, ylt_2, ylt_3, ylt_6, ylt_9, ylt_20, ylt_24, ylt_57, ylt_60, ylt_99, ylt_120, ylt_122, ylt_999, ylt_9999, yle_0, yle_2, yle_4, yle_5, yle_6, yle_7, yle_8, yle_10, yle_12, yle_13, yle_15, yle_16, yle_20, yle_24, yle_40, yle_60, yle_64, yle_80, yadd_1, yadd_22, ymul_2, ymul_4, ymul_6, ymul_8, ymul_10, ymul_24, ymul_27, ymul_100, ysub_1, ysub_24, zdiv_2, zdiv_4, zdiv_24, k2, b2i_t, hz', q4, c3]
              exact ih _ _ ⟨by rw [hw]; rfl, rfl⟩
            | true =>
              rw [c4] at hw
              rw [c4, b2i_t] at q4
              simp (disch := first | omega | rfl | decide) only [e_X7_which_0, e_X7_which_11, e_X7_which_19, e_X7_which_24, e_X7_which_32, e_X7_which_80, e_X7_which_67, e_X7_which_50, e_X7_which_72, e_X7_which_77, e_X7_which_86, e_X7_which_92, e_X7_which_107, e_X7_which_113, e_X7_which_193, e_X7_which_169, e_X7_which_165, e_X7_which_146, e_X7_which_170, e_X7_which_162, xr_v, xr_n, hl_of, hl_cl, hl_toInt, hl_le, hl_lt, hl_eq, nI_add, hl_sub, pk_mul, hl_div, if_pos, if_neg, ↓reduceIte, Nat.reduceAdd, Nat.reduceSub, Nat.reduceMul, Nat.add_zero, Nat.zero_add, mp_s, mp_k, mp_i, mp_g, mr_s, mr_i, mr_g, zlt_0, zlt_1, zlt_2, zlt_3, zlt_4, zlt_5, zlt_6, zlt_8, zlt_12, zlt_15, zlt_20, zlt_24, zlt_36, zlt_40, zlt_48, zlt_80, zlt_97, zlt_120, zlt_256, zlt_600, zlt_99999999, zadd_1, zadd_2, zadd_5, zadd_6, zadd_8, zadd_20, zadd_24, zeq_0, zeq_1, zeq_2, zeq_3, zeq_4, zeq_5, zeq_6, zeq_7, zeq_8, zeq_13, zeq_14, zeq_20, zeq_32, zeq_59, zeq_60, zeq_80, zmul_2, zmul_4, zmul_6, zmul_8, zmul_10, zmul_24, zsub_1, zsub_2, zsub_10, zsub_48, zsub_97, zle_0, zle_1, zle_2, zle_6, zle_11, zle_200, zle_600, zle_100000000, ylt_0, ylt_1, ylt_2, ylt_3, ylt_6, ylt_9, ylt_20, ylt_24, ylt_57, ylt_60, ylt_99, ylt_120, ylt_122, ylt_999, ylt_9999, yle_0, yle_2, yle_4, yle_5, yle_6, yle_7, yle_8, yle_10, yle_12, yle_13, yle_15, yle_16, yle_20, yle_24, yle_40, yle_60, yle_64, yle_80, yadd_1, yadd_22, ymul_2, ymul_4, ymul_6, ymul_8, ymul_10, ymul_24, ymul_27, ymul_100, ysub_1, ysub_24, zdiv_2, zdiv_4, zdiv_24, k2, b2i_t, hz', q4, c3]
              exact ih _ _ ⟨by rw [hw]; rfl, rfl⟩
          · rw [show bitB hd s = false from decide_eq_false c3] at hw
            cases c4 : oneF (perfL T f nd) (As j) n h k0 s with
            | false =>
              rw [c4] at hw
              rw [c4, b2i_f] at q4
              simp (disch := first | omega | rfl | decide) only [e_X7_which_0, e_X7_which_11, e_X7_which_19, e_X7_which_24, e_X7_which_32, e_X7_which_80, e_X7_which_67, e_X7_which_50, e_X7_which_72, e_X7_which_77, e_X7_which_86, e_X7_which_92, e_X7_which_107, e_X7_which_113, e_X7_which_193, e_X7_which_169, e_X7_which_165, e_X7_which_146, e_X7_which_170, e_X7_which_162, xr_v, xr_n, hl_of, hl_cl, hl_toInt, hl_le, hl_lt, hl_eq, nI_add, hl_sub, pk_mul, hl_div, if_pos, if_neg, ↓reduceIte, Nat.reduceAdd, Nat.reduceSub, Nat.reduceMul, Nat.add_zero, Nat.zero_add, mp_s, mp_k, mp_i, mp_g, mr_s, mr_i, mr_g, zlt_0, zlt_1, zlt_2, zlt_3, zlt_4, zlt_5, zlt_6, zlt_8, zlt_12, zlt_15, zlt_20, zlt_24, zlt_36, zlt_40, zlt_48, zlt_80, zlt_97, zlt_120, zlt_256, zlt_600, zlt_99999999, zadd_1, zadd_2, zadd_5, zadd_6, zadd_8, zadd_20, zadd_24, zeq_0, zeq_1, zeq_2, zeq_3, zeq_4, zeq_5, zeq_6, zeq_7, zeq_8, zeq_13, zeq_14, zeq_20, zeq_32, zeq_59, zeq_60, zeq_80, zmul_2, zmul_4, zmul_6, zmul_8, zmul_10, zmul_24, zsub_1, zsub_2, zsub_10, zsub_48, zsub_97, zle_0, zle_1, zle_2, zle_6, zle_11, zle_200, zle_600, zle_100000000, ylt_0, ylt_1, ylt_2, ylt_3, ylt_6, ylt_9, ylt_20, ylt_24, ylt_57, ylt_60, ylt_99, ylt_120, ylt_122, ylt_999, ylt_9999, yle_0, yle_2, yle_4, yle_5, yle_6, yle_7, yle_8, yle_10, yle_12, yle_13, yle_15, yle_16, yle_20, yle_24, yle_40, yle_60, yle_64, yle_80, yadd_1, yadd_22, ymul_2, ymul_4, ymul_6, ymul_8, ymul_10, ymul_24, ymul_27, ymul_100, ysub_1, ysub_24, zdiv_2, zdiv_4, zdiv_24, k2, b2i_t, hz', q4, c3]
              exact ih _ _ ⟨by rw [hw]; rfl, rfl⟩
            | true =>
              rw [c4] at hw
              rw [c4, b2i_t] at q4
              simp (disch := first | omega | rfl | decide) only [e_X7_which_0, e_X7_which_11, e_X7_which_19, e_X7_which_24, e_X7_which_32, e_X7_which_80, e_X7_which_67, e_X7_which_50, e_X7_which_72, e_X7_which_77, e_X7_which_86, e_X7_which_92, e_X7_which_107, e_X7_which_113, e_X7_which_193, e_X7_which_169, e_X7_which_165, e_X7_which_146, e_X7_which_170, e_X7_which_162, xr_v, xr_n, hl_of, hl_cl, hl_toInt, hl_le, hl_lt, hl_eq, nI_add, hl_sub, pk_mul, hl_div, if_pos, if_neg, ↓reduceIte, Nat.reduceAdd, Nat.reduceSub, Nat.reduceMul, Nat.add_zero, Nat.zero_add, mp_s, mp_k, mp_i, mp_g, mr_s, mr_i, mr_g, zlt_0, zlt_1, zlt_2, zlt_3, zlt_4, zlt_5, zlt_6, zlt_8, zlt_12, zlt_15, zlt_20, zlt_24, zlt_36, zlt_40, zlt_48, zlt_80, zlt_97, zlt_120, zlt_256, zlt_600, zlt_99999999, zadd_1, zadd_2, zadd_5, zadd_6, zadd_8, zadd_20, zadd_24, zeq_0, zeq_1, zeq_2, zeq_3, zeq_4, zeq_5, zeq_6, zeq_7, zeq_8, zeq_13, zeq_14, zeq_20, zeq_32, zeq_59, zeq_60, zeq_80, zmul_2, zmul_4, zmul_6, zmul_8, zmul_10, zmul_24, zsub_1, zsub_2, zsub_10, zsub_48, zsub_97, zle_0, zle_1, zle_2, zle_6, zle_11, zle_200, zle_600, zle_100000000, ylt_0, ylt_1, ylt_2, ylt_3, ylt_6, ylt_9, ylt_20, ylt_24, ylt_57, ylt_60, ylt_99, ylt_120, ylt_122, ylt_999, ylt_9999, yle_0, yle_2, yle_4, yle_5, yle_6, yle_7, yle_8, yle_10, yle_12, yle_13, yle_15, yle_16, yle_20, yle_24, yle_40, yle_60, yle_64, yle_80, yadd_1, yadd_22, ymul_2, ymul_4, ymul_6, ymul_8, ymul_10, ymul_24, ymul_27, ymul_100, ysub_1, ysub_24, zdiv_2, zdiv_4, zdiv_24, k2, b2i_t, hz', q4, c3]
              exact ih _ _ ⟨by rw [hw]; rfl, rfl⟩
    · rintro f1 k _ M' hf1 ⟨rfl, e⟩
      rw [e]
      cases c : whF (oneF (perfL T f nd) (As j) n h k0) t hd ns with
      | false =>
        simp (disch := first | omega | rfl | decide) only [e_X7_which_0, e_X7_which_11, e_X7_which_19, e_X7_which_24, e_X7_which_32, e_X7_which_80, e_X7_which_67, e_X7_which_50, e_X7_which_72, e_X7_which_77, e_X7_which_86, e_X7_which_92, e_X7_which_107, e_X7_which_113, e_X7_which_193, e_X7_which_169, e_X7_which_165, e_X7_which_146, e_X7_which_170, e_X7_which_162, xr_v, xr_n, hl_of, hl_cl, hl_toInt, hl_le, hl_lt, hl_eq, nI_add, hl_sub, pk_mul, hl_div, if_pos, if_neg, ↓reduceIte, Nat.reduceAdd, Nat.reduceSub, Nat.reduceMul, Nat.add_zero, Nat.zero_add, mp_s, mp_k, mp_i, mp_g, mr_s, mr_i, mr_g, zlt_0, zlt_1, zlt_2, zlt_3, zlt_4, zlt_5, zlt_6, zlt_8, zlt_12, zlt_15, zlt_20, zlt_24, zlt_36, zlt_40, zlt_48, zlt_80, zlt_97, zlt_120, zlt_256, zlt_600, zlt_99999999, zadd_1, zadd_2, zadd_5, zadd_6, zadd_8, zadd_20, zadd_24, zeq_0, zeq_1, zeq_2, zeq_3, zeq_4, zeq_5, zeq_6, zeq_7, zeq_8, zeq_13, zeq_14, zeq_20, zeq_32, zeq_59, zeq_60, zeq_80, zmul_2, zmul_4, zmul_6, zmul_8, zmul_10, zmul_24, zsub_1, zsub_2, zsub_10, zsub_48, zsub_97, zle_0, zle_1, zle_2, zle_6, zle_11, zle_200, zle_600, zle_100000000, ylt_0, ylt_1, ylt_2, ylt_3, ylt_6, ylt_9, ylt_20, ylt_24, ylt_57, ylt_60, ylt_99, ylt_120, ylt_122, ylt_999, ylt_9999, yle_0, yle_2, yle_4, yle_5, yle_6, yle_7, yle_8, yle_10, yle_12, yle_13, yle_15, yle_16, yle_20, yle_24, yle_40, yle_60, yle_64, yle_80, yadd_1, yadd_22, ymul_2, ymul_4, ymul_6, ymul_8, ymul_10, ymul_24, ymul_27, ymul_100, ysub_1, ysub_24, zdiv_2, zdiv_4, zdiv_24, k2, b2i_f, Int32.or_zero]
        exact ih f1 _ _ (by omega) ⟨_, _, _, bits_f c, rfl, h4⟩
      | true =>
        simp (disch := first | omega | rfl | decide) only [e_X7_which_0, e_X7_which_11, e_X7_which_19, e_X7_which_24, e_X7_which_32, e_X7_which_80, e_X7_which_67, e_X7_which_50, e_X7_which_72, e_X7_which_77, e_X7_which_86, e_X7_which_92, e_X7_which_107, e_X7_which_113, e_X7_which_193, e_X7_which_169, e_X7_which_165, e_X7_which_146, e_X7_which_170, e_X7_which_162, xr_v, xr_n, hl_of, hl_cl, hl_toInt, hl_le, hl_lt, hl_eq, nI_add, hl_sub, pk_mul, hl_div, if_pos, if_neg, ↓reduceIte, Nat.reduceAdd, Nat.reduceSub, Nat.reduceMul, Nat.add_zero, Nat.zero_add, mp_s, mp_k, mp_i, mp_g, mr_s, mr_i, mr_g, zlt_0, zlt_1, zlt_2, zlt_3, zlt_4, zlt_5, zlt_6, zlt_8, zlt_12, zlt_15, zlt_20, zlt_24, zlt_36, zlt_40, zlt_48, zlt_80, zlt_97, zlt_120, zlt_256, zlt_600, zlt_99999999, zadd_1, zadd_2, zadd_5, zadd_6, zadd_8, zadd_20, zadd_24, zeq_0, zeq_1, zeq_2, zeq_3, zeq_4, zeq_5, zeq_6, zeq_7, zeq_8, zeq_13, zeq_14, zeq_20, zeq_32, zeq_59, zeq_60, zeq_80, zmul_2, zmul_4, zmul_6, zmul_8, zmul_10, zmul_24, zsub_1, zsub_2, zsub_10, zsub_48, zsub_97, zle_0, zle_1, zle_2, zle_6, zle_11, zle_200, zle_600, zle_100000000, ylt_0, ylt_1, ylt_2, ylt_3, ylt_6, ylt_9, ylt_20, ylt_24, ylt_57, ylt_60, ylt_99, ylt_120, ylt_122, ylt_999, ylt_9999, yle_0, yle_2, yle_4, yle_5, yle_6, yle_7, yle_8, yle_10, yle_12, yle_13, yle_15, yle_16, yle_20, yle_24, yle_40, yle_60, yle_64, yle_80, yadd_1, yadd_22, ymul_2, ymul_4, ymul_6, ymul_8, ymul_10, ymul_24, ymul_27, ymul_100, ysub_1, ysub_24, zdiv_2, zdiv_4, zdiv_24, k2, b2i_t]
        exact ih f1 _ _ (by omega) ⟨_, _, _, bits_t c, rfl, h4⟩
  · rintro fu k _ M' - ⟨_, u7, u8, rfl, rfl, h3⟩
    have k26 := h3.2.1.2.2.2.1
    simp (disch := first | omega | rfl | decide) only [e_X7_which_0, e_X7_which_11, e_X7_which_19, e_X7_which_24, e_X7_which_32, e_X7_which_80, e_X7_which_67, e_X7_which_50, e_X7_which_72, e_X7_which_77, e_X7_which_86, e_X7_which_92, e_X7_which_107, e_X7_which_113, e_X7_which_193, e_X7_which_169, e_X7_which_165, e_X7_which_146, e_X7_which_170, e_X7_which_162, xr_v, xr_n, hl_of, hl_cl, hl_toInt, hl_le, hl_lt, hl_eq, nI_add, hl_sub, pk_mul, hl_div, if_pos, if_neg, ↓reduceIte, Nat.reduceAdd, Nat.reduceSub, Nat.reduceMul, Nat.add_zero, Nat.zero_add, mp_s, mp_k, mp_i, mp_g, mr_s, mr_i, mr_g, zlt_0, zlt_1, zlt_2, zlt_3, zlt_4, zlt_5, zlt_6, zlt_8, zlt_12, zlt_15, zlt_20, zlt_24, zlt_36, zlt_40, zlt_48, zlt_80, zlt_97, zlt_120, zlt_256, zlt_600, zlt_99999999, zadd_1, zadd_2, zadd_5, zadd_6, zadd_8, zadd_20, zadd_24, zeq_0, zeq_1, zeq_2, zeq_3, zeq_4, zeq_5, zeq_6, zeq_7, zeq_8, zeq_13, zeq_14, zeq_20, zeq_32, zeq_59, zeq_60, zeq_80, zmul_2, zmul_4, zmul_6, zmul_8, zmul_10, zmul_24, zsub_1, zsub_2, zsub_10, zsub_48, zsub_97, zle_0, zle_1, zle_2, zle_6, zle_11, zle_200, zle_600, zle_100000000, ylt_0, ylt_1, ylt_2, ylt_3, ylt_6, ylt_9, ylt_20, ylt_24, ylt_57, ylt_60, ylt_99, ylt_120, ylt_122, ylt_999, ylt_9999, yle_0, yle_2, yle_4, yle_5, yle_6, yle_7, yle_8, yle_10, yle_12, yle_13, yle_15, yle_16, yle_20, yle_24, yle_40, yle_60, yle_64, yle_80, yadd_1, yadd_22, ymul_2, ymul_4, ymul_6, ymul_8, ymul_10, ymul_24, ymul_27, ymul_100, ysub_1, ysub_24, zdiv_2, zdiv_4, zdiv_24, k26]
    exact isI_i (MR_P h3)
end
