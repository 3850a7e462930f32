/-! IMAGES: minds copied, on both sides. -/
section
variable (L : Nat) (xs : Nat → Int32) (O : Int64)
theorem acm_21 (d i0 i1 : Nat) (M : Mem) : EX L xs (d + 1) 902 [.inr (.inr (21, i0)), .inl 0, .inr (.inr (21, i1)), .inl 0, .inl (Int32.ofNat 8)] M O = (some (.inl none, mrow M 21 i1 (va_cpy (M 21 i0) (M 21 i1) 0 0 8), O, 0, 0) : Res) := by
  show (if 0 ≤ (0 : Int32).toInt ∧ 0 ≤ (0 : Int32).toInt ∧ 0 ≤ (nI 8).toInt ∧ (0 : Int32).toInt + (nI 8).toInt ≤ ((8 : Nat) : Int) ∧ (0 : Int32).toInt + (nI 8).toInt ≤ ((8 : Nat) : Int) then (some (.inl none, mrow M 21 i1 (va_cpy (M 21 i0) (M 21 i1) (0 : Int32).toNatClampNeg (0 : Int32).toNatClampNeg (nI 8).toNatClampNeg), O, 0, 0) : Res) else none) = _
  rw [if_pos (by decide)]
  rfl
theorem acm_22 (d i0 i1 : Nat) (M : Mem) : EX L xs (d + 1) 902 [.inr (.inr (22, i0)), .inl 0, .inr (.inr (22, i1)), .inl 0, .inl (Int32.ofNat 8)] M O = (some (.inl none, mrow M 22 i1 (va_cpy (M 22 i0) (M 22 i1) 0 0 8), O, 0, 0) : Res) := by
  show (if 0 ≤ (0 : Int32).toInt ∧ 0 ≤ (0 : Int32).toInt ∧ 0 ≤ (nI 8).toInt ∧ (0 : Int32).toInt + (nI 8).toInt ≤ ((8 : Nat) : Int) ∧ (0 : Int32).toInt + (nI 8).toInt ≤ ((8 : Nat) : Int) then (some (.inl none, mrow M 22 i1 (va_cpy (M 22 i0) (M 22 i1) (0 : Int32).toNatClampNeg (0 : Int32).toNatClampNeg (nI 8).toNatClampNeg), O, 0, 0) : Res) else none) = _
  rw [if_pos (by decide)]
  rfl
theorem acm_23 (d i0 i1 : Nat) (M : Mem) : EX L xs (d + 1) 902 [.inr (.inr (23, i0)), .inl 0, .inr (.inr (23, i1)), .inl 0, .inl (Int32.ofNat 80)] M O = (some (.inl none, mrow M 23 i1 (va_cpy (M 23 i0) (M 23 i1) 0 0 80), O, 0, 0) : Res) := by
  show (if 0 ≤ (0 : Int32).toInt ∧ 0 ≤ (0 : Int32).toInt ∧ 0 ≤ (nI 80).toInt ∧ (0 : Int32).toInt + (nI 80).toInt ≤ ((80 : Nat) : Int) ∧ (0 : Int32).toInt + (nI 80).toInt ≤ ((80 : Nat) : Int) then (some (.inl none, mrow M 23 i1 (va_cpy (M 23 i0) (M 23 i1) (0 : Int32).toNatClampNeg (0 : Int32).toNatClampNeg (nI 80).toNatClampNeg), O, 0, 0) : Res) else none) = _
  rw [if_pos (by decide)]
  rfl
theorem x2_copyFrom {D : Nat} (hD : 2 ≤ D) (i0 i1 : Nat) (hi : i1 ≠ i0) {md : Md} {nw : Nat} (hO : MdOK md nw) (M : Mem) (h : CMd M i1 md) : isV (EX L xs (D) q_X2_copyFrom [.inr (.inr (20, i0)), .inr (.inr (20, i1))] M O) O (fun M' => Fr (fun g i _ => decide (20 ≤ g ∧ g ≤ 23 ∧ i = i0)) M M' ∧ CMd M' i0 md) := by
  obtain ⟨d, rfl⟩ : ∃ d, D = d + 2 := ⟨D - 2, by omega⟩
  refine isV_e (EX_in mi_X2_copyFrom rfl rfl rfl (ls := [some (.inr (.inr (20, i0))), some (.inr (.inr (20, i1)))]) rfl) ?_
  rw [e_X2_copyFrom_0, acm_21 L xs O]
  simp only [xr_n, Nat.reduceAdd, Nat.add_zero]
  rw [e_X2_copyFrom_26, acm_22 L xs O]
  simp only [xr_n, Nat.reduceAdd, Nat.add_zero]
  rw [e_X2_copyFrom_44, acm_23 L xs O]
  simp only [xr_n, Nat.reduceAdd, Nat.add_zero]
  rw [e_X2_copyFrom_70]
  generalize hM1 : mput M 20 i0 1 (M 20 i1 1) = M1
  have m1 : ∀ g i k, ¬ (g = 20 ∧ i = i0) → M1 g i k = M g i k := fun g i k hg => by
    rw [← hM1]
    by_cases eg : g = 20
    · rw [eg, mp_i (fun e => hg ⟨eg, e⟩)]
    · rw [mp_g eg]
  generalize hM2 : mrow M1 21 i0 (va_cpy (M1 21 i1) (M1 21 i0) 0 0 8) = M2
  have m2 : ∀ g i k, ¬ (g = 21 ∧ i = i0) → M2 g i k = M1 g i k := fun g i k hg => by
    rw [← hM2]
    by_cases eg : g = 21
    · rw [eg, mr_i (fun e => hg ⟨eg, e⟩)]
    · rw [mr_g eg]
  generalize hM3 : mrow M2 22 i0 (va_cpy (M2 22 i1) (M2 22 i0) 0 0 8) = M3
  have m3 : ∀ g i k, ¬ (g = 22 ∧ i = i0) → M3 g i k = M2 g i k := fun g i k hg => by
    rw [← hM3]
    by_cases eg : g = 22
    · rw [eg, mr_i (fun e => hg ⟨eg, e⟩)]
    · rw [mr_g eg]
  generalize hM4 : mput M3 20 i0 4 (M3 20 i1 4) = M4
  have m4 : ∀ g i k, ¬ (g = 20 ∧ i = i0) → M4 g i k = M3 g i k := fun g i k hg => by
    rw [← hM4]
    by_cases eg : g = 20
    · rw [eg, mp_i (fun e => hg ⟨eg, e⟩)]
    · rw [mp_g eg]
  generalize hM5 : mrow M4 23 i0 (va_cpy (M4 23 i1) (M4 23 i0) 0 0 80) = M5
  have m5 : ∀ g i k, ¬ (g = 23 ∧ i = i0) → M5 g i k = M4 g i k := fun g i k hg => by
    rw [← hM5]
    by_cases eg : g = 23
    · rw [eg, mr_i (fun e => hg ⟨eg, e⟩)]
    · rw [mr_g eg]
  have all : ∀ g i k, ¬ (20 ≤ g ∧ g ≤ 23 ∧ i = i0) → M5 g i k = M g i k := fun g i k hg => by
    rw [m5 g i k (by omega), m4 g i k (by omega), m3 g i k (by omega), m2 g i k (by omega), m1 g i k (by omega)]
  obtain ⟨h1, h2, h3, h4, h5⟩ := h
  have o1 := hO.1
  have o5 := hO.2.2.2.2.1
  refine isV_i ⟨fun g i k hg => all g i k (of_decide_eq_false hg), ?_, fun j hj => ?_, fun k hk => ?_, ?_, fun j hj => ?_⟩
  · rw [m5 20 i0 1 (by omega), ← hM4, mp_k (by omega), m3 20 i0 1 (by omega), m2 20 i0 1 (by omega), ← hM1, mp_s]
    exact h1
  · rw [m5 21 i0 j (by omega), m4 21 i0 j (by omega), m3 21 i0 j (by omega), ← hM2, mr_s, sb_cpy0 (show j < 8 by omega), m1 21 i1 j (by omega)]
    exact h2 j hj
  · rw [m5 22 i0 k (by omega), m4 22 i0 k (by omega), ← hM3, mr_s, sb_cpy0 hk, m2 22 i1 k (by omega), m1 22 i1 k (by omega)]
    exact h3 k hk
  · rw [m5 20 i0 4 (by omega), ← hM4, mp_s, m3 20 i1 4 (by omega), m2 20 i1 4 (by omega), m1 20 i1 4 (by omega)]
    exact h4
  · rw [← hM5, mr_s, sb_cpy0 (show j < 80 by omega), m4 23 i1 j (by omega), m3 23 i1 j (by omega), m2 23 i1 j (by omega), m1 23 i1 j (by omega)]
    exact h5 j hj
theorem x7_moves_0 {D : Nat} (hD : 2 ≤ D) (i s : Nat) (v : Int32) (hs : s < 120) (M : Mem) (h : M 40 0 32 = nI s) : EX L xs (D) q_X7_moves [.inr (.inr (40, 0)), .inr (.inr (72, i)), .inl (v), .inl (0)] M O = (some (.inl (some (.inl (v))), mput (mput M 72 i s v) 40 0 32 (nI (s + 1)), O, 0, 0) : Res) := by
  obtain ⟨d, rfl⟩ : ∃ d, D = d + 2 := ⟨D - 2, by omega⟩
  refine (EX_in mi_X7_moves rfl rfl rfl (ls := [some (.inr (.inr (40, 0))), some (.inr (.inr (72, i))), some (.inl (v)), some (.inl (0))]) rfl).trans ?_
  have h' : mput M 72 i s v 40 0 32 = nI s := by rw [mp_g (by omega)]; exact h
  have e1 : nI (s + 1) - 1 = nI s := zsub_1 (by omega)
  rw [e_X7_moves_0, if_pos rfl, h, if_pos (in_120 hs), hl_cl (by omega), e_X7_moves_11, h', zadd_1, e1, if_pos (in_120 hs), hl_cl (by omega), mp_s]
theorem x7_moves_1 {D : Nat} (hD : 2 ≤ D) (i s : Nat) (v : Int32) (hs : s < 120) (M : Mem) (h : M 40 0 32 = nI s) : EX L xs (D) q_X7_moves [.inr (.inr (40, 0)), .inr (.inr (72, i)), .inl (v), .inl (1)] M O = (some (.inl (some (.inl (M 72 i s))), mput M 40 0 32 (nI (s + 1)), O, 0, 0) : Res) := by
  obtain ⟨d, rfl⟩ : ∃ d, D = d + 2 := ⟨D - 2, by omega⟩
  refine (EX_in mi_X7_moves rfl rfl rfl (ls := [some (.inr (.inr (40, 0))), some (.inr (.inr (72, i))), some (.inl (v)), some (.inl (1))]) rfl).trans ?_
  have e1 : nI (s + 1) - 1 = nI s := zsub_1 (by omega)
  rw [e_X7_moves_0, if_neg (by decide), e_X7_moves_11, h, zadd_1, e1, if_pos (in_120 hs), hl_cl (by omega)]
/-- into the IMAGE i: what loop wrote -/
def kp0 (i G base m : Nat) (M M' : Mem) : Prop := (∀ g i' k, ¬ (g = 72 ∧ i' = i ∧ base ≤ k ∧ k < base + m) → ¬ (g = 40 ∧ k = 32) → M' g i' k = M g i' k) ∧ (∀ k, k < m → M' 72 i (base + k) = M G 0 k) ∧ M' 40 0 32 = nI (base + m)
theorem kp0_s {i G base m : Nat} {M M' : Mem} (hG : G ≠ 72) (hG2 : G ≠ 40) (h : kp0 i G base m M M') : kp0 i G base (m + 1) M (mput (mput (mput M' 72 i (base + m) (M' G 0 m)) 40 0 32 (nI (base + m + 1))) G 0 m (M' G 0 m)) := by
  obtain ⟨h1, h2, h3⟩ := h
  have eG : M' G 0 m = M G 0 m := h1 G 0 m (by omega) (by omega)
  refine ⟨fun g i' k a b => ?_, fun k hk => ?_, ?_⟩
  · by_cases e1 : g = G ∧ i' = 0 ∧ k = m
    · obtain ⟨rfl, rfl, rfl⟩ := e1
      rw [mp_s]
      exact eG
    · have s1 : mput (mput (mput M' 72 i (base + m) (M' G 0 m)) 40 0 32 (nI (base + m + 1))) G 0 m (M' G 0 m) g i' k = mput (mput M' 72 i (base + m) (M' G 0 m)) 40 0 32 (nI (base + m + 1)) g i' k := by
        by_cases x1 : g = G
        · subst x1
          by_cases x2 : i' = 0
          · subst x2
            exact mp_k (fun x3 => e1 ⟨rfl, rfl, x3⟩)
          · exact mp_i x2
        · exact mp_g x1
      have s2 : mput (mput M' 72 i (base + m) (M' G 0 m)) 40 0 32 (nI (base + m + 1)) g i' k = mput M' 72 i (base + m) (M' G 0 m) g i' k := by
        by_cases x1 : g = 40
        · subst x1
          by_cases x2 : i' = 0
          · subst x2
            exact mp_k (by omega)
          · exact mp_i x2
        · exact mp_g x1
      have s3 : mput M' 72 i (base + m) (M' G 0 m) g i' k = M' g i' k := by
        by_cases x1 : g = 72
        · subst x1
          by_cases x2 : i' = i
          · subst x2
            exact mp_k (by omega)
          · exact mp_i x2
        · exact mp_g x1
      rw [s1, s2, s3]
      exact h1 g i' k (by omega) b
  · rw [mp_g (fun e => hG e.symm), mp_g (by omega)]
    by_cases e : k = m
    · rw [e, mp_s]
      exact eG
    · rw [mp_k (by omega)]
      exact h2 k (by omega)
  · rw [mp_g (fun e => hG2 e.symm), mp_s]
    rfl
/-- out of the IMAGE i -/
def kp1 (i G base m : Nat) (M M' : Mem) : Prop := (∀ g i' k, ¬ (g = G ∧ i' = 0 ∧ k < m) → ¬ (g = 40 ∧ k = 32) → M' g i' k = M g i' k) ∧ (∀ k, k < m → M' G 0 k = M 72 i (base + k)) ∧ M' 40 0 32 = nI (base + m)
theorem kp1_s {i G base m : Nat} {M M' : Mem} (hG : G ≠ 72) (hG2 : G ≠ 40) (h : kp1 i G base m M M') : kp1 i G base (m + 1) M (mput (mput M' 40 0 32 (nI (base + m + 1))) G 0 m (M' 72 i (base + m))) := by
  obtain ⟨h1, h2, h3⟩ := h
  refine ⟨fun g i' k a b => ?_, fun k hk => ?_, ?_⟩
  · have s1 : mput (mput M' 40 0 32 (nI (base + m + 1))) G 0 m (M' 72 i (base + m)) g i' k = mput M' 40 0 32 (nI (base + m + 1)) g i' k := by
      by_cases x1 : g = G
      · subst x1
        by_cases x2 : i' = 0
        · subst x2
          exact mp_k (fun x3 => a ⟨rfl, rfl, by omega⟩)
        · exact mp_i x2
      · exact mp_g x1
    have s2 : mput M' 40 0 32 (nI (base + m + 1)) g i' k = M' g i' k := by
      by_cases x1 : g = 40
      · subst x1
        by_cases x2 : i' = 0
        · subst x2
          exact mp_k (by omega)
        · exact mp_i x2
      · exact mp_g x1
    rw [s1, s2]
    exact h1 g i' k (by omega) b
  · by_cases e : k = m
    · rw [e, mp_s]
      exact h1 72 i (base + m) (by omega) (by omega)
    · rw [mp_k e, mp_g hG2]
      exact h2 k (by omega)
  · rw [mp_g (fun e => hG2 e.symm), mp_s]
    rfl
theorem mv0_68 (d : Nat) (hd : 2 ≤ d + 1) (i : Nat) (M : Mem) (h32 : M 40 0 32 = nI 2) (P : Res → Prop) (fu k : Nat) (hf : 8 ≤ fu)
    (hex : ∀ f' k' M', fu ≤ f' + 8 → kp0 i 68 2 8 M M' → P (BK L xs (EX L xs (d + 1)) mi_X7_movesAll (RN L xs (d) mi_X7_movesAll (f')) (k' + 400) 67 [some (.inr (.inr (40, 0))), some (.inr (.inr (72, i))), some (.inl (0)), some (.inl (0))] [] M' O none 0 0)) : P (BK L xs (EX L xs (d + 1)) mi_X7_movesAll (RN L xs (d) mi_X7_movesAll fu) (k + 500) 35 [some (.inr (.inr (40, 0))), some (.inr (.inr (72, i))), some (.inl (0)), some (.inl (0))] [] M O none 0 0) := by
  refine loopC L xs O (P := P) (fun j ls M' => ls = [some (.inr (.inr (40, 0))), some (.inr (.inr (72, i))), some (.inl (0)), some (.inl (nI j))] ∧ kp0 i 68 2 j M M') 8 500 (by omega) ?_ ?_ hf ⟨rfl, fun g i' k _ _ => rfl, fun k hk => absurd hk (by omega), h32⟩
  · rintro f k j _ M' hj ⟨rfl, hk⟩ ih
    have q1 := x7_moves_0 L xs O (D := d + 1) (by omega) i (2 + j) (M' 68 0 j) (by omega) M' hk.2.2
    simp (disch := first | omega | rfl | decide) only [e_X7_movesAll_35, e_X7_movesAll_58, xr_v, xr_n, hl_of, hl_cl, hl_toInt, hl_le, hl_lt, hl_eq, nI_add, hl_sub, pk_mul, hl_div, if_pos, if_neg, ↓reduceIte, Nat.reduceAdd, Nat.reduceSub, Nat.reduceMul, Nat.add_zero, Nat.zero_add, mp_s, mp_k, mp_i, mp_g, mr_s, mr_i, mr_g, zlt_0, zlt_1, zlt_2, zlt_3, zlt_4, zlt_5, zlt_6, zlt_8, zlt_12, zlt_15, zlt_20, zlt_24, zlt_36, zlt_40, zlt_48, zlt_80, zlt_97, zlt_120, zlt_256, zlt_600, zlt_99999999, zadd_1, zadd_2, zadd_5, zadd_6, zadd_8, zadd_20, zadd_24, zeq_0, zeq_1, zeq_2, zeq_3, zeq_4, zeq_5, zeq_6, zeq_7, zeq_8, zeq_13, zeq_14, zeq_20, zeq_32, zeq_59, zeq_60, zeq_80, zmul_2, zmul_4, zmul_6, zmul_8, zmul_10, zmul_24, zsub_1, zsub_2, zsub_10, zsub_48, zsub_97, zle_0, zle_1, zle_2, zle_6, zle_11, zle_200, zle_600, zle_100000000, ylt_0, ylt_1, ylt_2, ylt_3, ylt_6, ylt_9, ylt_20, ylt_24, ylt_57, ylt_60, ylt_99, ylt_120, ylt_122, ylt_999, ylt_9999, yle_0, yle_2, yle_4, yle_5, yle_6, yle_7, yle_8, yle_10, yle_12, yle_13, yle_15, yle_16, yle_20, yle_24, yle_40, yle_60, yle_64, yle_80, yadd_1, yadd_22, ymul_2, ymul_4, ymul_6, ymul_8, ymul_10, ymul_24, ymul_27, ymul_100, ysub_1, ysub_24, zdiv_2, zdiv_4, zdiv_24, q1]
    exact ih _ _ ⟨rfl, kp0_s (by omega) (by omega) hk⟩
  · rintro f k _ M' hf' ⟨rfl, hk⟩
    rw [e_X7_movesAll_35, if_pos (by decide)]
    exact hex f _ M' hf' hk
theorem mv1_68 (d : Nat) (hd : 2 ≤ d + 1) (i : Nat) (M : Mem) (h32 : M 40 0 32 = nI 2) (P : Res → Prop) (fu k : Nat) (hf : 8 ≤ fu)
    (hex : ∀ f' k' M', fu ≤ f' + 8 → kp1 i 68 2 8 M M' → P (BK L xs (EX L xs (d + 1)) mi_X7_movesAll (RN L xs (d) mi_X7_movesAll (f')) (k' + 400) 67 [some (.inr (.inr (40, 0))), some (.inr (.inr (72, i))), some (.inl (1)), some (.inl (0))] [] M' O none 0 0)) : P (BK L xs (EX L xs (d + 1)) mi_X7_movesAll (RN L xs (d) mi_X7_movesAll fu) (k + 500) 35 [some (.inr (.inr (40, 0))), some (.inr (.inr (72, i))), some (.inl (1)), some (.inl (0))] [] M O none 0 0) := by
  refine loopC L xs O (P := P) (fun j ls M' => ls = [some (.inr (.inr (40, 0))), some (.inr (.inr (72, i))), some (.inl (1)), some (.inl (nI j))] ∧ kp1 i 68 2 j M M') 8 500 (by omega) ?_ ?_ hf ⟨rfl, fun g i' k _ _ => rfl, fun k hk => absurd hk (by omega), h32⟩
  · rintro f k j _ M' hj ⟨rfl, hk⟩ ih
    have q1 := x7_moves_1 L xs O (D := d + 1) (by omega) i (2 + j) (M' 68 0 j) (by omega) M' hk.2.2
    simp (disch := first | omega | rfl | decide) only [e_X7_movesAll_35, e_X7_movesAll_58, xr_v, xr_n, hl_of, hl_cl, hl_toInt, hl_le, hl_lt, hl_eq, nI_add, hl_sub, pk_mul, hl_div, if_pos, if_neg, ↓reduceIte, Nat.reduceAdd, Nat.reduceSub, Nat.reduceMul, Nat.add_zero, Nat.zero_add, mp_s, mp_k, mp_i, mp_g, mr_s, mr_i, mr_g, zlt_0, zlt_1, zlt_2, zlt_3, zlt_4, zlt_5, zlt_6, zlt_8, zlt_12, zlt_15, zlt_20, zlt_24, zlt_36, zlt_40, zlt_48, zlt_80, zlt_97, zlt_120, zlt_256, zlt_600, zlt_99999999, zadd_1, zadd_2, zadd_5, zadd_6, zadd_8, zadd_20, zadd_24, zeq_0, zeq_1, zeq_2, zeq_3, zeq_4, zeq_5, zeq_6, zeq_7, zeq_8, zeq_13, zeq_14, zeq_20, zeq_32, zeq_59, zeq_60, zeq_80, zmul_2, zmul_4, zmul_6, zmul_8, zmul_10, zmul_24, zsub_1, zsub_2, zsub_10, zsub_48, zsub_97, zle_0, zle_1, zle_2, zle_6, zle_11, zle_200, zle_600, zle_100000000, ylt_0, ylt_1, ylt_2, ylt_3, ylt_6, ylt_9, ylt_20, ylt_24, ylt_57, ylt_60, ylt_99, ylt_120, ylt_122, ylt_999, ylt_9999, yle_0, yle_2, yle_4, yle_5, yle_6, yle_7, yle_8, yle_10, yle_12, yle_13, yle_15, yle_16, yle_20, yle_24, yle_40, yle_60, yle_64, yle_80, yadd_1, yadd_22, ymul_2, ymul_4, ymul_6, ymul_8, ymul_10, ymul_24, ymul_27, ymul_100, ysub_1, ysub_24, zdiv_2, zdiv_4, zdiv_24, q1]
    exact ih _ _ ⟨rfl, kp1_s (by omega) (by omega) hk⟩
  · rintro f k _ M' hf' ⟨rfl, hk⟩
    rw [e_X7_movesAll_35, if_pos (by decide)]
    exact hex f _ M' hf' hk
theorem mv0_69 (d : Nat) (hd : 2 ≤ d + 1) (i : Nat) (M : Mem) (h32 : M 40 0 32 = nI 10) (P : Res → Prop) (fu k : Nat) (hf : 8 ≤ fu)
    (hex : ∀ f' k' M', fu ≤ f' + 8 → kp0 i 69 10 8 M M' → P (BK L xs (EX L xs (d + 1)) mi_X7_movesAll (RN L xs (d) mi_X7_movesAll (f')) (k' + 300) 99 [some (.inr (.inr (40, 0))), some (.inr (.inr (72, i))), some (.inl (0)), some (.inl (0))] [] M' O none 0 0)) : P (BK L xs (EX L xs (d + 1)) mi_X7_movesAll (RN L xs (d) mi_X7_movesAll fu) (k + 400) 67 [some (.inr (.inr (40, 0))), some (.inr (.inr (72, i))), some (.inl (0)), some (.inl (0))] [] M O none 0 0) := by
  refine loopC L xs O (P := P) (fun j ls M' => ls = [some (.inr (.inr (40, 0))), some (.inr (.inr (72, i))), some (.inl (0)), some (.inl (nI j))] ∧ kp0 i 69 10 j M M') 8 400 (by omega) ?_ ?_ hf ⟨rfl, fun g i' k _ _ => rfl, fun k hk => absurd hk (by omega), h32⟩
  · rintro f k j _ M' hj ⟨rfl, hk⟩ ih
    have q1 := x7_moves_0 L xs O (D := d + 1) (by omega) i (10 + j) (M' 69 0 j) (by omega) M' hk.2.2
    simp (disch := first | omega | rfl | decide) only [e_X7_movesAll_67, e_X7_movesAll_90, xr_v, xr_n, hl_of, hl_cl, hl_toInt, hl_le, hl_lt, hl_eq, nI_add, hl_sub, pk_mul, hl_div, if_pos, if_neg, ↓reduceIte, Nat.reduceAdd, Nat.reduceSub, Nat.reduceMul, Nat.add_zero, Nat.zero_add, mp_s, mp_k, mp_i, mp_g, mr_s, mr_i, mr_g, zlt_0, zlt_1, zlt_2, zlt_3, zlt_4, zlt_5, zlt_6, zlt_8, zlt_12, zlt_15, zlt_20, zlt_24, zlt_36, zlt_40, zlt_48, zlt_80, zlt_97, zlt_120, zlt_256, zlt_600, zlt_99999999, zadd_1, zadd_2, zadd_5, zadd_6, zadd_8, zadd_20, zadd_24, zeq_0, zeq_1, zeq_2, zeq_3, zeq_4, zeq_5, zeq_6, zeq_7, zeq_8, zeq_13, zeq_14, zeq_20, zeq_32, zeq_59, zeq_60, zeq_80, zmul_2, zmul_4, zmul_6, zmul_8, zmul_10, zmul_24, zsub_1, zsub_2, zsub_10, zsub_48, zsub_97, zle_0, zle_1, zle_2, zle_6, zle_11, zle_200, zle_600, zle_100000000, ylt_0, ylt_1, ylt_2, ylt_3, ylt_6, ylt_9, ylt_20, ylt_24, ylt_57, ylt_60, ylt_99, ylt_120, ylt_122, ylt_999, ylt_9999, yle_0, yle_2, yle_4, yle_5, yle_6, yle_7, yle_8, yle_10, yle_12, yle_13, yle_15, yle_16, yle_20, yle_24, yle_40, yle_60, yle_64, yle_80, yadd_1, yadd_22, ymul_2, ymul_4, ymul_6, ymul_8, ymul_10, ymul_24, ymul_27, ymul_100, ysub_1, ysub_24, zdiv_2, zdiv_4, zdiv_24, q1]
    exact ih _ _ ⟨rfl, kp0_s (by omega) (by omega) hk⟩
  · rintro f k _ M' hf' ⟨rfl, hk⟩
    rw [e_X7_movesAll_67, if_pos (by decide)]
    exact hex f _ M' hf' hk
theorem mv1_69 (d : Nat) (hd : 2 ≤ d + 1) (i : Nat) (M : Mem) (h32 : M 40 0 32 = nI 10) (P : Res → Prop) (fu k : Nat) (hf : 8 ≤ fu)
    (hex : ∀ f' k' M', fu ≤ f' + 8 → kp1 i 69 10 8 M M' → P (BK L xs (EX L xs (d + 1)) mi_X7_movesAll (RN L xs (d) mi_X7_movesAll (f')) (k' + 300) 99 [some (.inr (.inr (40, 0))), some (.inr (.inr (72, i))), some (.inl (1)), some (.inl (0))] [] M' O none 0 0)) : P (BK L xs (EX L xs (d + 1)) mi_X7_movesAll (RN L xs (d) mi_X7_movesAll fu) (k + 400) 67 [some (.inr (.inr (40, 0))), some (.inr (.inr (72, i))), some (.inl (1)), some (.inl (0))] [] M O none 0 0) := by
  refine loopC L xs O (P := P) (fun j ls M' => ls = [some (.inr (.inr (40, 0))), some (.inr (.inr (72, i))), some (.inl (1)), some (.inl (nI j))] ∧ kp1 i 69 10 j M M') 8 400 (by omega) ?_ ?_ hf ⟨rfl, fun g i' k _ _ => rfl, fun k hk => absurd hk (by omega), h32⟩
  · rintro f k j _ M' hj ⟨rfl, hk⟩ ih
    have q1 := x7_moves_1 L xs O (D := d + 1) (by omega) i (10 + j) (M' 69 0 j) (by omega) M' hk.2.2
    simp (disch := first | omega | rfl | decide) only [e_X7_movesAll_67, e_X7_movesAll_90, xr_v, xr_n, hl_of, hl_cl, hl_toInt, hl_le, hl_lt, hl_eq, nI_add, hl_sub, pk_mul, hl_div, if_pos, if_neg, ↓reduceIte, Nat.reduceAdd, Nat.reduceSub, Nat.reduceMul, Nat.add_zero, Nat.zero_add, mp_s, mp_k, mp_i, mp_g, mr_s, mr_i, mr_g, zlt_0, zlt_1, zlt_2, zlt_3, zlt_4, zlt_5, zlt_6, zlt_8, zlt_12, zlt_15, zlt_20, zlt_24, zlt_36, zlt_40, zlt_48, zlt_80, zlt_97, zlt_120, zlt_256, zlt_600, zlt_99999999, zadd_1, zadd_2, zadd_5, zadd_6, zadd_8, zadd_20, zadd_24, zeq_0, zeq_1, zeq_2, zeq_3, zeq_4, zeq_5, zeq_6, zeq_7, zeq_8, zeq_13, zeq_14, zeq_20, zeq_32, zeq_59, zeq_60, zeq_80, zmul_2, zmul_4, zmul_6, zmul_8, zmul_10, zmul_24, zsub_1, zsub_2, zsub_10, zsub_48, zsub_97, zle_0, zle_1, zle_2, zle_6, zle_11, zle_200, zle_600, zle_100000000, ylt_0, ylt_1, ylt_2, ylt_3, ylt_6, ylt_9, ylt_20, ylt_24, ylt_57, ylt_60, ylt_99, ylt_120, ylt_122, ylt_999, ylt_9999, yle_0, yle_2, yle_4, yle_5, yle_6, yle_7, yle_8, yle_10, yle_12, yle_13, yle_15, yle_16, yle_20, yle_24, yle_40, yle_60, yle_64, yle_80, yadd_1, yadd_22, ymul_2, ymul_4, ymul_6, ymul_8, ymul_10, ymul_24, ymul_27, ymul_100, ysub_1, ysub_24, zdiv_2, zdiv_4, zdiv_24, q1]
    exact ih _ _ ⟨rfl, kp1_s (by omega) (by omega) hk⟩
  · rintro f k _ M' hf' ⟨rfl, hk⟩
    rw [e_X7_movesAll_67, if_pos (by decide)]
    exact hex f _ M' hf' hk
theorem mv0_70 (d : Nat) (hd : 2 ≤ d + 1) (i : Nat) (M : Mem) (h32 : M 40 0 32 = nI 18) (Q : Mem → Prop) (fu k : Nat) (hf : 80 ≤ fu) (hex : ∀ M', kp0 i 70 18 80 M M' → Q M') : isV (BK L xs (EX L xs (d + 1)) mi_X7_movesAll (RN L xs (d) mi_X7_movesAll fu) (k + 300) 99 [some (.inr (.inr (40, 0))), some (.inr (.inr (72, i))), some (.inl (0)), some (.inl (0))] [] M O none 0 0) O Q := by
  refine loopA L xs O (P := fun r => isV r O Q) (fun j ls M' => ls = [some (.inr (.inr (40, 0))), some (.inr (.inr (72, i))), some (.inl (0)), some (.inl (nI j))] ∧ kp0 i 70 18 j M M') 80 300 (by omega) ?_ ?_ hf ⟨rfl, fun g i' k _ _ => rfl, fun k hk => absurd hk (by omega), h32⟩
  · rintro f k j _ M' hj ⟨rfl, hk⟩ ih
    have q1 := x7_moves_0 L xs O (D := d + 1) (by omega) i (18 + j) (M' 70 0 j) (by omega) M' hk.2.2
    simp (disch := first | omega | rfl | decide) only [e_X7_movesAll_99, e_X7_movesAll_122, xr_v, xr_n, hl_of, hl_cl, hl_toInt, hl_le, hl_lt, hl_eq, nI_add, hl_sub, pk_mul, hl_div, if_pos, if_neg, ↓reduceIte, Nat.reduceAdd, Nat.reduceSub, Nat.reduceMul, Nat.add_zero, Nat.zero_add, mp_s, mp_k, mp_i, mp_g, mr_s, mr_i, mr_g, zlt_0, zlt_1, zlt_2, zlt_3, zlt_4, zlt_5, zlt_6, zlt_8, zlt_12, zlt_15, zlt_20, zlt_24, zlt_36, zlt_40, zlt_48, zlt_80, zlt_97, zlt_120, zlt_256, zlt_600, zlt_99999999, zadd_1, zadd_2, zadd_5, zadd_6, zadd_8, zadd_20, zadd_24, zeq_0, zeq_1, zeq_2, zeq_3, zeq_4, zeq_5, zeq_6, zeq_7, zeq_8, zeq_13, zeq_14, zeq_20, zeq_32, zeq_59, zeq_60, zeq_80, zmul_2, zmul_4, zmul_6, zmul_8, zmul_10, zmul_24, zsub_1, zsub_2, zsub_10, zsub_48, zsub_97, zle_0, zle_1, zle_2, zle_6, zle_11, zle_200, zle_600, zle_100000000, ylt_0, ylt_1, ylt_2, ylt_3, ylt_6, ylt_9, ylt_20, ylt_24, ylt_57, ylt_60, ylt_99, ylt_120, ylt_122, ylt_999, ylt_9999, yle_0, yle_2, yle_4, yle_5, yle_6, yle_7, yle_8, yle_10, yle_12, yle_13, yle_15, yle_16, yle_20, yle_24, yle_40, yle_60, yle_64, yle_80, yadd_1, yadd_22, ymul_2, ymul_4, ymul_6, ymul_8, ymul_10, ymul_24, ymul_27, ymul_100, ysub_1, ysub_24, zdiv_2, zdiv_4, zdiv_24, q1]
    exact ih _ _ ⟨rfl, kp0_s (by omega) (by omega) hk⟩
  · rintro f k _ M' ⟨rfl, hk⟩
    rw [e_X7_movesAll_99, if_pos (by decide)]
    exact isV_i (hex M' hk)
theorem mv1_70 (d : Nat) (hd : 2 ≤ d + 1) (i : Nat) (M : Mem) (h32 : M 40 0 32 = nI 18) (Q : Mem → Prop) (fu k : Nat) (hf : 80 ≤ fu) (hex : ∀ M', kp1 i 70 18 80 M M' → Q M') : isV (BK L xs (EX L xs (d + 1)) mi_X7_movesAll (RN L xs (d) mi_X7_movesAll fu) (k + 300) 99 [some (.inr (.inr (40, 0))), some (.inr (.inr (72, i))), some (.inl (1)), some (.inl (0))] [] M O none 0 0) O Q := by
  refine loopA L xs O (P := fun r => isV r O Q) (fun j ls M' => ls = [some (.inr (.inr (40, 0))), some (.inr (.inr (72, i))), some (.inl (1)), some (.inl (nI j))] ∧ kp1 i 70 18 j M M') 80 300 (by omega) ?_ ?_ hf ⟨rfl, fun g i' k _ _ => rfl, fun k hk => absurd hk (by omega), h32⟩
  · rintro f k j _ M' hj ⟨rfl, hk⟩ ih
    have q1 := x7_moves_1 L xs O (D := d + 1) (by omega) i (18 + j) (M' 70 0 j) (by omega) M' hk.2.2
    simp (disch := first | omega | rfl | decide) only [e_X7_movesAll_99, e_X7_movesAll_122, xr_v, xr_n, hl_of, hl_cl, hl_toInt, hl_le, hl_lt, hl_eq, nI_add, hl_sub, pk_mul, hl_div, if_pos, if_neg, ↓reduceIte, Nat.reduceAdd, Nat.reduceSub, Nat.reduceMul, Nat.add_zero, Nat.zero_add, mp_s, mp_k, mp_i, mp_g, mr_s, mr_i, mr_g, zlt_0, zlt_1, zlt_2, zlt_3, zlt_4, zlt_5, zlt_6, zlt_8, zlt_12, zlt_15, zlt_20, zlt_24, zlt_36, zlt_40, zlt_48, zlt_80, zlt_97, zlt_120, zlt_256, zlt_600, zlt_99999999, zadd_1, zadd_2, zadd_5, zadd_6, zadd_8, zadd_20, zadd_24, zeq_0, zeq_1, zeq_2, zeq_3, zeq_4, zeq_5, zeq_6, zeq_7, zeq_8, zeq_13, zeq_14, zeq_20, zeq_32, zeq_59, zeq_60, zeq_80, zmul_2, zmul_4, zmul_6, zmul_8, zmul_10, zmul_24, zsub_1, zsub_2, zsub_10, zsub_48, zsub_97, zle_0, zle_1, zle_2, zle_6, zle_11, zle_200, zle_600, zle_100000000, ylt_0, ylt_1, ylt_2, ylt_3, ylt_6, ylt_9, ylt_20, ylt_24, ylt_57, ylt_60, ylt_99, ylt_120, ylt_122, ylt_999, ylt_9999, yle_0, yle_2, yle_4, yle_5, yle_6, yle_7, yle_8, yle_10, yle_12, yle_13, yle_15, yle_16, yle_20, yle_24, yle_40, yle_60, yle_64, yle_80, yadd_1, yadd_22, ymul_2, ymul_4, ymul_6, ymul_8, ymul_10, ymul_24, ymul_27, ymul_100, ysub_1, ysub_24, zdiv_2, zdiv_4, zdiv_24, q1]
    exact ih _ _ ⟨rfl, kp1_s (by omega) (by omega) hk⟩
  · rintro f k _ M' ⟨rfl, hk⟩
    rw [e_X7_movesAll_99, if_pos (by decide)]
    exact isV_i (hex M' hk)
end
