/-! The TAPE is fed. -/
def shF (j : Nat) : Int32 := 24 - 8 * nI j
def byt (v : Int32) (j : Nat) : Int32 := (v >>> (shF j &&& 31)) &&& 255
theorem sh_s : ∀ j, j < 4 → shF j + (-8) = shF (j + 1) := by decide
theorem sh_c : ∀ j, j < 4 → ¬ shF j < 0 := by decide
theorem sh_m : ∀ k, k < 20 → nI (24 - 8 * (k - k / 4 * 4)) = shF (k % 4) := by decide
theorem byt_n (v : Int32) (j : Nat) : ∃ b, b < 256 ∧ byt v j = nI b := by
  have h : inN (byt v j) (2 ^ 8) := by
    rw [← mask_0 (by omega), and_0]
    intro i hi
    rw [mask_b 8 (by omega) i hi]
    unfold byt
    rw [b_and, b_255]
    by_cases c : 8 ≤ i
    · rw [decide_eq_true c, decide_eq_false (by omega), Bool.and_false, Bool.false_and]
    · rw [decide_eq_false c, Bool.and_false]
  exact h
section
variable (L : Nat) (xs : Nat → Int32) (O : Int64)
theorem x5_put {D : Nat} (hD : 2 ≤ D) (t : Nat) (v : Int32) (ht : t + 4 ≤ 600) (M : Mem) (h1 : M 1 0 1 = nI t) : isV (EX L xs (D) q_X5_put [.inr (.inr (1, 0)), .inl (v)] M O) O (fun M' => (∀ g i k, ¬ (g = 2 ∧ i = 0 ∧ t ≤ k ∧ k < t + 4) → ¬ (g = 1 ∧ k = 1) → M' g i k = M g i k) ∧ (∀ j, j < 4 → M' 2 0 (t + j) = byt v j) ∧ M' 1 0 1 = nI (t + 4)) := by
  obtain ⟨d, rfl⟩ : ∃ d, D = d + 2 := ⟨D - 2, by omega⟩
  refine isV_e (EX_in mi_X5_put rfl rfl rfl (ls := [some (.inr (.inr (1, 0))), some (.inl (v)), none]) rfl) ?_
  rw [e_X5_put_0, show (24 : Int32) = shF 0 from by decide]
  refine loopA L xs O (P := fun r => isV r O _) (fun j ls M' => ls = [some (.inr (.inr (1, 0))), some (.inl (v)), some (.inl (shF j))] ∧ (∀ g i k, ¬ (g = 2 ∧ i = 0 ∧ t ≤ k ∧ k < t + j) → ¬ (g = 1 ∧ k = 1) → M' g i k = M g i k) ∧ (∀ i, i < j → M' 2 0 (t + i) = byt v i) ∧ M' 1 0 1 = nI (t + j)) 4 100 (by omega) ?_ ?_ (Nat.le_of_lt (FU (by omega))) ⟨rfl, fun g i k _ _ => rfl, fun i hi => absurd hi (by omega), h1⟩
  · rintro f k j _ M' hj ⟨rfl, hf, hb, ht'⟩ ih
    rw [e_X5_put_3, if_neg (sh_c j hj), ht', if_neg (by rw [show Int32.ofNat 600 = nI 600 from rfl, hl_le (by omega) (by omega)]; omega), if_pos (in_600 (by omega)), hl_cl (by omega), zadd_1, sh_s j hj]
    refine ih _ _ ⟨rfl, fun g i k a b => ?_, fun i hi => ?_, ?_⟩
    · by_cases x1 : g = 1
      · subst x1
        by_cases x2 : i = 0
        · subst x2
          rw [mp_k (by omega), mp_g (by omega)]
          exact hf 1 0 k (by omega) b
        · rw [mp_i x2, mp_g (by omega)]
          exact hf 1 i k (by omega) b
      · rw [mp_g x1]
        by_cases x2 : g = 2
        · subst x2
          by_cases x3 : i = 0
          · subst x3
            rw [mp_k (by omega)]
            exact hf 2 0 k (by omega) b
          · rw [mp_i x3]
            exact hf 2 i k (by omega) b
        · rw [mp_g x2]
          exact hf g i k (by omega) b
    · rw [mp_g (by omega)]
      by_cases e : i = j
      · rw [e, mp_s]
        rfl
      · rw [mp_k (by omega)]
        exact hb i (by omega)
    · rw [mp_s]
      rfl
  · rintro f k _ M' ⟨rfl, hf, hb, ht'⟩
    rw [e_X5_put_3, if_pos (by decide), e_X5_put_51]
    exact isV_i ⟨hf, hb, ht'⟩
def argF (a b c e f : Int32) (k : Nat) : Int32 := if k < 4 then a else if k < 8 then b else if k < 12 then c else if k < 16 then e else f
def fedF (a b c e f : Int32) (k : Nat) : Int32 := byt (argF a b c e f k) (k % 4)
theorem c_feed {D : Nat} (hD : 3 ≤ D) (t : Nat) (a b c e f : Int32) (ht : t + 20 ≤ 600) (M : Mem) (h1 : M 1 0 1 = nI t) : isI (EX L xs (D) q_X6_feed [.inr (.inr (0, 0)), .inl (a), .inl (b), .inl (c), .inl (e), .inl (f)] M O) O (nI (t + 20)) (fun M' => (∀ g i k, ¬ (g = 2 ∧ i = 0 ∧ t ≤ k ∧ k < t + 20) → ¬ (g = 1 ∧ k = 1) → M' g i k = M g i k) ∧ (∀ j, j < 20 → M' 2 0 (t + j) = fedF a b c e f j) ∧ M' 1 0 1 = nI (t + 20)) := by
  obtain ⟨d, rfl⟩ : ∃ d, D = d + 2 := ⟨D - 2, by omega⟩
  refine isI_e (EX_in mi_X6_feed rfl rfl rfl (ls := [some (.inr (.inr (0, 0))), some (.inl (a)), some (.inl (b)), some (.inl (c)), some (.inl (e)), some (.inl (f))]) rfl) ?_
  obtain ⟨M1, q1, a1, r1, t1⟩ := x5_put L xs O (D := d + 1) (by omega) t a (by omega) M h1
  obtain ⟨M2, q2, a2, r2, t2⟩ := x5_put L xs O (D := d + 1) (by omega) (t + 4) b (by omega) M1 t1
  obtain ⟨M3, q3, a3, r3, t3⟩ := x5_put L xs O (D := d + 1) (by omega) (t + 4 + 4) c (by omega) M2 t2
  obtain ⟨M4, q4, a4, r4, t4⟩ := x5_put L xs O (D := d + 1) (by omega) (t + 4 + 4 + 4) e (by omega) M3 t3
  obtain ⟨M5, q5, a5, r5, t5⟩ := x5_put L xs O (D := d + 1) (by omega) (t + 4 + 4 + 4 + 4) f (by omega) M4 t4
  rw [e_X6_feed_0, h1, zadd_20, if_pos (by rw [zle_600 (by omega)]; exact ht), q1]
  simp only [xr_n, Nat.reduceAdd, Nat.add_zero]
  rw [e_X6_feed_26, q2]
  simp only [xr_n, Nat.reduceAdd, Nat.add_zero]
  rw [e_X6_feed_34, q3]
  simp only [xr_n, Nat.reduceAdd, Nat.add_zero]
  rw [e_X6_feed_42, q4]
  simp only [xr_n, Nat.reduceAdd, Nat.add_zero]
  rw [e_X6_feed_51, q5]
  simp only [xr_n, Nat.reduceAdd, Nat.add_zero]
  rw [e_X6_feed_60, t5]
  refine isI_i ⟨fun g i k h1 h2 => ?_, fun j hj => ?_, t5⟩
  · rw [a5 g i k (by omega) h2, a4 g i k (by omega) h2, a3 g i k (by omega) h2, a2 g i k (by omega) h2, a1 g i k (by omega) h2]
  · unfold fedF argF
    by_cases j1 : j < 4
    · rw [if_pos j1, a5 2 0 (t + j) (by omega) (by omega), a4 2 0 (t + j) (by omega) (by omega), a3 2 0 (t + j) (by omega) (by omega), a2 2 0 (t + j) (by omega) (by omega), r1 j j1, show j % 4 = j by omega]
    · by_cases j2 : j < 8
      · rw [if_neg j1, if_pos j2, a5 2 0 (t + j) (by omega) (by omega), a4 2 0 (t + j) (by omega) (by omega), a3 2 0 (t + j) (by omega) (by omega), show t + j = t + 4 + (j - 4) by omega, r2 (j - 4) (by omega), show j % 4 = j - 4 by omega]
      · by_cases j3 : j < 12
        · rw [if_neg j1, if_neg j2, if_pos j3, a5 2 0 (t + j) (by omega) (by omega), a4 2 0 (t + j) (by omega) (by omega), show t + j = t + 4 + 4 + (j - 8) by omega, r3 (j - 8) (by omega), show j % 4 = j - 8 by omega]
        · by_cases j4 : j < 16
          · rw [if_neg j1, if_neg j2, if_neg j3, if_pos j4, a5 2 0 (t + j) (by omega) (by omega), show t + j = t + 4 + 4 + 4 + (j - 12) by omega, r4 (j - 12) (by omega), show j % 4 = j - 12 by omega]
          · rw [if_neg j1, if_neg j2, if_neg j3, if_neg j4, show t + j = t + 4 + 4 + 4 + 4 + (j - 16) by omega, r5 (j - 16) (by omega), show j % 4 = j - 16 by omega]
theorem m_feed {D : Nat} (hD : 3 ≤ D) (t : Nat) (a b c e f : Int32) (ht : t + 20 ≤ 600) (M : Mem) (h1 : M 40 0 1 = nI t) : isI (EX L xs (D) q_X7_feed [.inr (.inr (40, 0)), .inl (a), .inl (b), .inl (c), .inl (e), .inl (f)] M O) O (nI (t + 20)) (fun M' => (∀ g i k, ¬ (g = 41 ∧ i = 0 ∧ t ≤ k ∧ k < t + 20) → ¬ (g = 40 ∧ (k = 0 ∨ k = 1)) → M' g i k = M g i k) ∧ (∀ j, j < 20 → M' 41 0 (t + j) = fedF a b c e f j) ∧ M' 40 0 1 = nI (t + 20)) := by
  obtain ⟨d, rfl⟩ : ∃ d, D = d + 2 := ⟨D - 2, by omega⟩
  refine isI_e (EX_in mi_X7_feed rfl rfl rfl (ls := [some (.inr (.inr (40, 0))), some (.inl (a)), some (.inl (b)), some (.inl (c)), some (.inl (e)), some (.inl (f)), none, none]) rfl) ?_
  rw [e_X7_feed_0, h1, zadd_20, if_pos (by rw [zle_600 (by omega)]; exact ht)]
  have h1' : mput M 40 0 0 0 40 0 1 = nI t := by rw [mp_k (by omega)]; exact h1
  refine loopA L xs O (P := fun r => isI r O _ _) (fun j ls M' => ∃ u7, ls = [some (.inr (.inr (40, 0))), some (.inl (a)), some (.inl (b)), some (.inl (c)), some (.inl (e)), some (.inl (f)), some (.inl (nI j)), u7] ∧ (∀ g i k, ¬ (g = 41 ∧ i = 0 ∧ t ≤ k ∧ k < t + j) → ¬ (g = 40 ∧ (k = 0 ∨ k = 1)) → M' g i k = M g i k) ∧ (∀ i, i < j → M' 41 0 (t + i) = fedF a b c e f i) ∧ M' 40 0 1 = nI (t + j)) 20 100 (by omega) ?_ ?_ (Nat.le_of_lt (FU (by omega))) ⟨_, rfl, fun g i k _ hk => ?_, fun i hi => absurd hi (by omega), h1'⟩
  · rintro fu k j _ M' hj ⟨u7, rfl, hf, hb, ht'⟩ ih
    have es := sh_m j hj
    have key : ∀ k' v, v = argF a b c e f j → isI (BK L xs (EX L xs (d + 1)) mi_X7_feed (RN L xs (d) mi_X7_feed fu) (k' + 60) 76 [some (.inr (.inr (40, 0))), some (.inl (a)), some (.inl (b)), some (.inl (c)), some (.inl (e)), some (.inl (f)), some (.inl (nI j)), u7] [.inl (v)] M' O none 0 0) O (nI (t + 20)) (fun M' => (∀ g i k, ¬ (g = 41 ∧ i = 0 ∧ t ≤ k ∧ k < t + 20) → ¬ (g = 40 ∧ (k = 0 ∨ k = 1)) → M' g i k = M g i k) ∧ (∀ j, j < 20 → M' 41 0 (t + j) = fedF a b c e f j) ∧ M' 40 0 1 = nI (t + 20)) := by
      intro k' v hv
      have ev : (v >>> (nI (24 - 8 * (j - j / 4 * 4)) &&& 31)) &&& 255 = fedF a b c e f j := by
        rw [es, hv]
        rfl
      simp (disch := first | omega | rfl | decide) only [e_X7_feed_76, xr_v, xr_n, hl_of, hl_cl, hl_toInt, hl_le, hl_lt, hl_eq, nI_add, hl_sub, pk_mul, hl_div, if_pos, if_neg, ↓reduceIte, Nat.reduceAdd, Nat.reduceSub, Nat.reduceMul, Nat.add_zero, Nat.zero_add, mp_s, mp_k, mp_i, mp_g, mr_s, mr_i, mr_g, zlt_0, zlt_1, zlt_2, zlt_3, zlt_4, zlt_5, zlt_6, zlt_8, zlt_12, zlt_15, zlt_20, zlt_24, zlt_36, zlt_40, zlt_48, zlt_80, zlt_97, zlt_120, zlt_256, zlt_600, zlt_99999999, zadd_1, zadd_2, zadd_5, zadd_6, zadd_8, zadd_20, zadd_24, zeq_0, zeq_1, zeq_2, zeq_3, zeq_4, zeq_5, zeq_6, zeq_7, zeq_8, zeq_13, zeq_14, zeq_20, zeq_32, zeq_59, zeq_60, zeq_80, zmul_2, zmul_4, zmul_6, zmul_8, zmul_10, zmul_24, zsub_1, zsub_2, zsub_10, zsub_48, zsub_97, zle_0, zle_1, zle_2, zle_6, zle_11, zle_200, zle_600, zle_100000000, ylt_0, ylt_1, ylt_2, ylt_3, ylt_6, ylt_9, ylt_20, ylt_24, ylt_57, ylt_60, ylt_99, ylt_120, ylt_122, ylt_999, ylt_9999, yle_0, yle_2, yle_4, yle_5, yle_6, yle_7, yle_8, yle_10, yle_12, yle_13, yle_15, yle_16, yle_20, yle_24, yle_40, yle_60, yle_64, yle_80, yadd_1, yadd_22, ymul_2, ymul_4, ymul_6, ymul_8, ymul_10, ymul_24, ymul_27, ymul_100, ysub_1, ysub_24, zdiv_2, zdiv_4, zdiv_24, ht', ev]
      refine ih _ _ ⟨_, rfl, fun g i k x y => ?_, fun i hi => ?_, ?_⟩
      · by_cases x1 : g = 40
        · subst x1
          by_cases x2 : i = 0
          · subst x2
            rw [mp_k (by omega), mp_g (by omega)]
            exact hf 40 0 k (by omega) y
          · rw [mp_i x2, mp_g (by omega)]
            exact hf 40 i k (by omega) y
        · rw [mp_g x1]
          by_cases x2 : g = 41
          · subst x2
            by_cases x3 : i = 0
            · subst x3
              rw [mp_k (by omega)]
              exact hf 41 0 k (by omega) y
            · rw [mp_i x3]
              exact hf 41 i k (by omega) y
          · rw [mp_g x2]
            exact hf g i k (by omega) y
      · rw [mp_g (by omega)]
        by_cases ee : i = j
        · rw [ee, mp_s]
        · rw [mp_k (by omega)]
          exact hb i (by omega)
      · rw [mp_s]
        rfl
    rw [e_X7_feed_23, if_neg (by rw [yle_20 (by omega)]; omega)]
    unfold argF at key
    by_cases j1 : j < 4
    · rw [if_neg (by rw [yle_4 (by omega)]; omega)]
      exact key _ _ (by rw [if_pos j1])
    · rw [if_pos (by rw [yle_4 (by omega)]; omega)]
      by_cases j2 : j < 8
      · rw [if_neg (by rw [yle_8 (by omega)]; omega)]
        exact key _ _ (by rw [if_neg j1, if_pos j2])
      · rw [if_pos (by rw [yle_8 (by omega)]; omega)]
        by_cases j3 : j < 12
        · rw [if_neg (by rw [yle_12 (by omega)]; omega)]
          exact key _ _ (by rw [if_neg j1, if_neg j2, if_pos j3])
        · rw [if_pos (by rw [yle_12 (by omega)]; omega)]
          by_cases j4 : j < 16
          · rw [if_neg (by rw [yle_16 (by omega)]; omega)]
            exact key _ _ (by rw [if_neg j1, if_neg j2, if_neg j3, if_pos j4])
          · rw [if_pos (by rw [yle_16 (by omega)]; omega)]
            exact key _ _ (by rw [if_neg j1, if_neg j2, if_neg j3, if_neg j4])
  · rintro fu k _ M' ⟨u7, rfl, hf, hb, ht'⟩
    rw [e_X7_feed_23, if_pos (by decide), ht']
    exact isI_i ⟨hf, hb, ht'⟩
  · by_cases x1 : g = 40
    · subst x1
      by_cases x2 : i = 0
      · subst x2
        rw [mp_k (by omega)]
      · rw [mp_i x2]
    · rw [mp_g x1]
theorem s_feed {d : Nat} (hD : 11 ≤ d) (a b c e f : Int32) (M : Mem) (hI : INV M) : StpD L xs O (d + 1 + 1) q_X6_feed q_X7_feed [.inl a, .inl b, .inl c, .inl e, .inl f] M := by
  obtain ⟨T, As, n, nh, ns, nw, na, md, ia, ni, nt, mds, hC⟩ := hI
  obtain ⟨t1, t2, t3, t4⟩ := hC.2.2.2.2.2.2.1
  by_cases c0 : nt + 20 ≤ 600
  · obtain ⟨M1, q1, a1, r1, u1⟩ := c_feed L xs O (D := d + 1 + 1) (by omega) nt a b c e f c0 M t1
    obtain ⟨M2, q2, a2, r2, u2⟩ := m_feed L xs O (D := d + 1 + 1) (by omega) nt a b c e f c0 M1 ((a1 40 0 1 (by omega) (by omega)).trans t2)
    have a3 : ∀ g i k, ¬ (g = 2 ∧ i = 0 ∧ nt ≤ k ∧ k < nt + 20) → ¬ (g = 1 ∧ k = 1) → ¬ (g = 41 ∧ i = 0 ∧ nt ≤ k ∧ k < nt + 20) → ¬ (g = 40 ∧ (k = 0 ∨ k = 1)) → M2 g i k = M g i k := fun g i k h1 h2 h3 h4 => (a2 g i k h3 h4).trans (a1 g i k h1 h2)
    refine ⟨nI (nt + 20), M1, q1, M2, q2, T, As, n, nh, ns, nw, na, md, ia, ni, nt + 20, mds, ?_⟩
    obtain ⟨hOK, hCm, hMm⟩ := hC.2.2.2.2.1
    have hMm2 : MMd M2 md := MMd_e hMm (a3 40 0 29 (by omega) (by omega) (by omega) (by omega)) (a3 40 0 30 (by omega) (by omega) (by omega) (by omega)) (fun g k h1 h2 => a3 g 0 k (by omega) (by omega) (by omega) (by omega))
    refine ⟨MB_of (MB0_e (MB_0 hC.1) (a3 40 0 26 (by omega) (by omega) (by omega) (by omega)) (fun g i k h1 h2 => a3 g i k (by omega) (by omega) (by omega) (by omega))) hOK hMm2, CW_e hC.2.1 (fun g i k hg => a3 g i k (by omega) (by omega) (by omega) (by omega)), hC.2.2.1, LndC_e hC.2.2.2.1 (fun k hk => a3 0 0 k (by omega) (by omega) (by omega) (by omega)) (fun g i k h1 h2 h3 => a3 g i k (by omega) (by omega) (by omega) (by omega)), ⟨hOK, CMd_e hCm (fun g k h1 h2 => a3 g 0 k (by omega) (by omega) (by omega) (by omega)), hMm2⟩, ImgC_e hC.2.2.2.2.2.1 (a3 0 0 9 (by omega) (by omega) (by omega) (by omega)) (a3 40 0 31 (by omega) (by omega) (by omega) (by omega)) (fun g i k h1 h2 h3 => a3 g i k (by omega) (by omega) (by omega) (by omega)) (fun i k => a3 72 i k (by omega) (by omega) (by omega) (by omega)), ⟨?_, u2, c0, fun i hi => ?_⟩, ?_, fun q hq => ?_⟩
    · rw [a2 1 0 1 (by omega) (by omega)]
      exact u1
    · by_cases ci : i < nt
      · rw [a3 2 0 i (by omega) (by omega) (by omega) (by omega), a3 41 0 i (by omega) (by omega) (by omega) (by omega)]
        exact t4 i ci
      · obtain ⟨j, rfl⟩ : ∃ j, i = nt + j := ⟨i - nt, by omega⟩
        rw [a2 2 0 _ (by omega) (by omega), r1 j (by omega), r2 j (by omega)]
        exact ⟨rfl, byt_n _ _⟩
    · rw [a3 1 0 5 (by omega) (by omega) (by omega) (by omega), a3 40 0 3 (by omega) (by omega) (by omega) (by omega)]
      exact hC.2.2.2.2.2.2.2.1
    · rw [a3 34 0 q (by omega) (by omega) (by omega) (by omega), a3 42 0 q (by omega) (by omega) (by omega) (by omega)]
      exact hC.2.2.2.2.2.2.2.2 q hq
  · refine ⟨-1, M, ?_, mput M 40 0 0 0, ?_, T, As, n, nh, ns, nw, na, md, ia, ni, nt, mds, CORE_t hC⟩
    · refine (EX_in mi_X6_feed rfl rfl rfl (ls := [some (.inr (.inr (0, 0))), some (.inl (a)), some (.inl (b)), some (.inl (c)), some (.inl (e)), some (.inl (f))]) rfl).trans ?_
      rw [e_X6_feed_0, t1, zadd_20, if_neg (by rw [zle_600 (by omega)]; exact c0)]
    · refine (EX_in mi_X7_feed rfl rfl rfl (ls := [some (.inr (.inr (40, 0))), some (.inl (a)), some (.inl (b)), some (.inl (c)), some (.inl (e)), some (.inl (f)), none, none]) rfl).trans ?_
      rw [e_X7_feed_0, t2, zadd_20, if_neg (by rw [zle_600 (by omega)]; exact c0)]
end
