/-! Questions on zones and LEAST: the class. -/
/-- first LOUD CELL below j, or j -/
def flF (R : Nat → Int32) : Nat → Nat
  | 0 => 0
  | j + 1 => if flF R j < j then flF R j else if 0 < R j then j else j + 1
/-- last LOUD CELL below j, and 1 -/
def llF (R : Nat → Int32) : Nat → Nat
  | 0 => 0
  | j + 1 => if 0 < R j then j + 1 else llF R j
/-- of r CELLS from a on: those that aren't LOUD -/
def zcF (R : Nat → Int32) (a : Nat) : Nat → Nat
  | 0 => 0
  | r + 1 => if R (a + r) = 0 then zcF R a r + 1 else zcF R a r
def zfF (R : Nat → Int32) (a : Nat) : Nat → Int32
  | 0 => -1
  | r + 1 => if R (a + r) = 0 then (if zfF R a r = -1 then nI (a + r) else zfF R a r) else zfF R a r
def zoneF (R : Nat → Int32) (n w : Nat) : Int32 := if w = 0 then nI (zcF R (flF R n) (llF R n - 1 - flF R n)) else zfF R (flF R n) (llF R n - 1 - flF R n)
theorem fl_le (R : Nat → Int32) : ∀ j, flF R j ≤ j := by
  intro j
  induction j with
  | zero => exact Nat.le_refl _
  | succ j ih =>
    unfold flF
    split
    · omega
    · split <;> omega
theorem ll_le (R : Nat → Int32) : ∀ j, llF R j ≤ j := by
  intro j
  induction j with
  | zero => exact Nat.le_refl _
  | succ j ih =>
    unfold llF
    split <;> omega
theorem fl_no {R : Nat → Int32} : ∀ {j y : Nat}, y < flF R j → ¬ 0 < R y := by
  intro j
  induction j with
  | zero => intro y h; exact absurd h (by unfold flF; omega)
  | succ j ih =>
    intro y h
    unfold flF at h
    split at h
    · exact ih h
    · split at h
      · rename_i h1 h2
        exact ih (by have := fl_le R j; omega)
      · rename_i h1 h2
        by_cases e : y = j
        · rw [e]
          exact h2
        · exact ih (by have := fl_le R j; omega)
theorem fl_is {R : Nat → Int32} : ∀ {j : Nat}, flF R j < j → 0 < R (flF R j) := by
  intro j
  induction j with
  | zero => intro h; exact absurd h (by omega)
  | succ j ih =>
    intro h
    unfold flF at h ⊢
    by_cases c : flF R j < j
    · rw [if_pos c]
      exact ih c
    · rw [if_neg c] at h ⊢
      by_cases c2 : 0 < R j
      · rw [if_pos c2]
        exact c2
      · rw [if_neg c2] at h
        omega
theorem ll_no {R : Nat → Int32} : ∀ {j y : Nat}, llF R j ≤ y → y < j → ¬ 0 < R y := by
  intro j
  induction j with
  | zero => intro y _ h; exact absurd h (by omega)
  | succ j ih =>
    intro y h h2
    unfold llF at h
    by_cases c : 0 < R j
    · rw [if_pos c] at h
      omega
    · rw [if_neg c] at h
      by_cases e : y = j
      · rw [e]
        exact c
      · exact ih h (by omega)
theorem ll_is {R : Nat → Int32} : ∀ {j : Nat}, 0 < llF R j → 0 < R (llF R j - 1) := by
  intro j
  induction j with
  | zero => intro h; exact absurd h (by unfold llF; omega)
  | succ j ih =>
    intro h
    unfold llF at h ⊢
    by_cases c : 0 < R j
    · rw [if_pos c]
      exact c
    · rw [if_neg c] at h ⊢
      exact ih h
theorem fl_ex {R : Nat → Int32} {j x : Nat} (hx : x < j) (h : 0 < R x) : flF R j ≤ x := by
  apply Classical.byContradiction
  intro c
  exact fl_no (show x < flF R j by omega) h
theorem ll_ex {R : Nat → Int32} {j x : Nat} (hx : x < j) (h : 0 < R x) : x < llF R j := by
  apply Classical.byContradiction
  intro c
  exact ll_no (show llF R j ≤ x by omega) hx h
section
variable (L : Nat) (xs : Nat → Int32) (O : Int64)
theorem x6_firstLoud {D : Nat} (hD : 2 ≤ D) (i n : Nat) (hn : n ≤ 40) (R : Nat → Int32) (M : Mem) (g0 : M 3 2 0 = nI n) (hr : ∀ y, y < n → M 27 i y = R y) : EX L xs (D) q_X6_firstLoud [.inr (.inr (0, 0)), .inr (.inr (27, i))] M O = (some (.inl (some (.inl (nI (flF R n)))), M, O, 0, 0) : Res) := by
  obtain ⟨d, rfl⟩ : ∃ d, D = d + 2 := ⟨D - 2, by omega⟩
  refine (EX_in mi_X6_firstLoud rfl rfl rfl (ls := [some (.inr (.inr (0, 0))), some (.inr (.inr (27, i))), none]) rfl).trans ?_
  rw [e_X6_firstLoud_0]
  refine loopA L xs O (P := fun r => r = (some (.inl (some (.inl (nI (flF R n)))), M, O, 0, 0) : Res)) (fun j ls M' => ls = [some (.inr (.inr (0, 0))), some (.inr (.inr (27, i))), some (.inl (nI j))] ∧ flF R j = j ∧ M' = M) n 100 (by omega) ?_ ?_ (Nat.le_of_lt (FU (by omega))) ⟨rfl, rfl, rfl⟩
  · rintro f k j _ M' hj ⟨rfl, hfl, e⟩ ih
    rw [e]
    have e27 := hr j hj
    by_cases c : R j ≤ 0
    · simp (disch := first | omega | rfl | decide) only [e_X6_firstLoud_0, e_X6_firstLoud_2, xr_v, xr_n, hl_of, hl_cl, hl_toInt, hl_le, hl_lt, hl_eq, nI_add, hl_sub, pk_mul, hl_div, if_pos, if_neg, ↓reduceIte, Nat.reduceAdd, Nat.reduceSub, Nat.reduceMul, Nat.add_zero, Nat.zero_add, mp_s, mp_k, mp_i, mp_g, mr_s, mr_i, mr_g, zlt_0, zlt_1, zlt_2, zlt_3, zlt_4, zlt_5, zlt_6, zlt_8, zlt_12, zlt_15, zlt_20, zlt_24, zlt_36, zlt_40, zlt_48, zlt_80, zlt_97, zlt_120, zlt_256, zlt_600, zlt_99999999, zadd_1, zadd_2, zadd_5, zadd_6, zadd_8, zadd_20, zadd_24, zeq_0, zeq_1, zeq_2, zeq_3, zeq_4, zeq_5, zeq_6, zeq_7, zeq_8, zeq_13, zeq_14, zeq_20, zeq_32, zeq_59, zeq_60, zeq_80, zmul_2, zmul_4, zmul_6, zmul_8, zmul_10, zmul_24, zsub_1, zsub_2, zsub_10, zsub_48, zsub_97, zle_0, zle_1, zle_2, zle_6, zle_11, zle_200, zle_600, zle_100000000, ylt_0, ylt_1, ylt_2, ylt_3, ylt_6, ylt_9, ylt_20, ylt_24, ylt_57, ylt_60, ylt_99, ylt_120, ylt_122, ylt_999, ylt_9999, yle_0, yle_2, yle_4, yle_5, yle_6, yle_7, yle_8, yle_10, yle_12, yle_13, yle_15, yle_16, yle_20, yle_24, yle_40, yle_60, yle_64, yle_80, yadd_1, yadd_22, ymul_2, ymul_4, ymul_6, ymul_8, ymul_10, ymul_24, ymul_27, ymul_100, ysub_1, ysub_24, zdiv_2, zdiv_4, zdiv_24, g0, e27, c]
      refine ih _ _ ⟨rfl, ?_, rfl⟩
      unfold flF
      rw [if_neg (by omega), if_neg (nlt_le c)]
    · simp (disch := first | omega | rfl | decide) only [e_X6_firstLoud_0, e_X6_firstLoud_2, xr_v, xr_n, hl_of, hl_cl, hl_toInt, hl_le, hl_lt, hl_eq, nI_add, hl_sub, pk_mul, hl_div, if_pos, if_neg, ↓reduceIte, Nat.reduceAdd, Nat.reduceSub, Nat.reduceMul, Nat.add_zero, Nat.zero_add, mp_s, mp_k, mp_i, mp_g, mr_s, mr_i, mr_g, zlt_0, zlt_1, zlt_2, zlt_3, zlt_4, zlt_5, zlt_6, zlt_8, zlt_12, zlt_15, zlt_20, zlt_24, zlt_36, zlt_40, zlt_48, zlt_80, zlt_97, zlt_120, zlt_256, zlt_600, zlt_99999999, zadd_1, zadd_2, zadd_5, zadd_6, zadd_8, zadd_20, zadd_24, zeq_0, zeq_1, zeq_2, zeq_3, zeq_4, zeq_5, zeq_6, zeq_7, zeq_8, zeq_13, zeq_14, zeq_20, zeq_32, zeq_59, zeq_60, zeq_80, zmul_2, zmul_4, zmul_6, zmul_8, zmul_10, zmul_24, zsub_1, zsub_2, zsub_10, zsub_48, zsub_97, zle_0, zle_1, zle_2, zle_6, zle_11, zle_200, zle_600, zle_100000000, ylt_0, ylt_1, ylt_2, ylt_3, ylt_6, ylt_9, ylt_20, ylt_24, ylt_57, ylt_60, ylt_99, ylt_120, ylt_122, ylt_999, ylt_9999, yle_0, yle_2, yle_4, yle_5, yle_6, yle_7, yle_8, yle_10, yle_12, yle_13, yle_15, yle_16, yle_20, yle_24, yle_40, yle_60, yle_64, yle_80, yadd_1, yadd_22, ymul_2, ymul_4, ymul_6, ymul_8, ymul_10, ymul_24, ymul_27, ymul_100, ysub_1, ysub_24, zdiv_2, zdiv_4, zdiv_24, g0, e27, c]
      have h1 : flF R (j + 1) = j := by
        unfold flF
        rw [if_neg (by omega), if_pos (lt_nle c)]
      have h2 : flF R n = j := by
        have a := fl_ex (R := R) hj (lt_nle c)
        apply Classical.byContradiction
        intro c2
        have h3 := fl_is (R := R) (j := n) (by omega)
        exact fl_no (R := R) (j := j) (y := flF R n) (by omega) h3
      rw [h2]
  · rintro f k _ M' ⟨rfl, hfl, e⟩
    rw [e]
    simp (disch := first | omega | rfl | decide) only [e_X6_firstLoud_0, e_X6_firstLoud_2, xr_v, xr_n, hl_of, hl_cl, hl_toInt, hl_le, hl_lt, hl_eq, nI_add, hl_sub, pk_mul, hl_div, if_pos, if_neg, ↓reduceIte, Nat.reduceAdd, Nat.reduceSub, Nat.reduceMul, Nat.add_zero, Nat.zero_add, mp_s, mp_k, mp_i, mp_g, mr_s, mr_i, mr_g, zlt_0, zlt_1, zlt_2, zlt_3, zlt_4, zlt_5, zlt_6, zlt_8, zlt_12, zlt_15, zlt_20, zlt_24, zlt_36, zlt_40, zlt_48, zlt_80, zlt_97, zlt_120, zlt_256, zlt_600, zlt_99999999, zadd_1, zadd_2, zadd_5, zadd_6, zadd_8, zadd_20, zadd_24, zeq_0, zeq_1, zeq_2, zeq_3, zeq_4, zeq_5, zeq_6, zeq_7, zeq_8, zeq_13, zeq_14, zeq_20, zeq_32, zeq_59, zeq_60, zeq_80, zmul_2, zmul_4, zmul_6, zmul_8, zmul_10, zmul_24, zsub_1, zsub_2, zsub_10, zsub_48, zsub_97, zle_0, zle_1, zle_2, zle_6, zle_11, zle_200, zle_600, zle_100000000, ylt_0, ylt_1, ylt_2, ylt_3, ylt_6, ylt_9, ylt_20, ylt_24, ylt_57, ylt_60, ylt_99, ylt_120, ylt_122, ylt_999, ylt_9999, yle_0, yle_2, yle_4, yle_5, yle_6, yle_7, yle_8, yle_10, yle_12, yle_13, yle_15, yle_16, yle_20, yle_24, yle_40, yle_60, yle_64, yle_80, yadd_1, yadd_22, ymul_2, ymul_4, ymul_6, ymul_8, ymul_10, ymul_24, ymul_27, ymul_100, ysub_1, ysub_24, zdiv_2, zdiv_4, zdiv_24, g0]
    rw [hfl]
theorem nI_m1 {m : Nat} : ∀ j, j + 1 ≤ m → nI (m - j) - 1 = nI (m - (j + 1)) := by
  intro j h
  rw [zsub_1 (by omega)]
  congr 1
theorem x6_lastLoud {D : Nat} (hD : 2 ≤ D) (i n : Nat) (hn : n ≤ 40) (R : Nat → Int32) (M : Mem) (g0 : M 3 2 0 = nI n) (hr : ∀ y, y < n → M 27 i y = R y) : EX L xs (D) q_X6_lastLoud [.inr (.inr (0, 0)), .inr (.inr (27, i))] M O = (some (.inl (some (.inl (nI (llF R n) - 1))), M, O, 0, 0) : Res) := by
  obtain ⟨d, rfl⟩ : ∃ d, D = d + 2 := ⟨D - 2, by omega⟩
  refine (EX_in mi_X6_lastLoud rfl rfl rfl (ls := [some (.inr (.inr (0, 0))), some (.inr (.inr (27, i))), none]) rfl).trans ?_
  rw [e_X6_lastLoud_0, g0]
  refine loopA L xs O (P := fun r => r = (some (.inl (some (.inl (nI (llF R n) - 1))), M, O, 0, 0) : Res)) (fun j ls M' => ls = [some (.inr (.inr (0, 0))), some (.inr (.inr (27, i))), some (.inl (nI (n - j) - 1))] ∧ llF R n = llF R (n - j) ∧ M' = M) n 100 (by omega) ?_ ?_ (Nat.le_of_lt (FU (by omega))) ⟨rfl, rfl, rfl⟩
  · rintro f k j _ M' hj ⟨rfl, hll, e⟩ ih
    obtain ⟨m, hm⟩ : ∃ m, n - j = m + 1 := ⟨n - j - 1, by omega⟩
    rw [e, hm, show nI (m + 1) - 1 = nI m from zsub_1 (by omega)]
    have e27 := hr m (by omega)
    have hnn := nn_n m (by omega)
    by_cases c : R m ≤ 0
    · simp (disch := first | omega | rfl | decide) only [e_X6_lastLoud_0, e_X6_lastLoud_10, xr_v, xr_n, hl_of, hl_cl, hl_toInt, hl_le, hl_lt, hl_eq, nI_add, hl_sub, pk_mul, hl_div, if_pos, if_neg, ↓reduceIte, Nat.reduceAdd, Nat.reduceSub, Nat.reduceMul, Nat.add_zero, Nat.zero_add, mp_s, mp_k, mp_i, mp_g, mr_s, mr_i, mr_g, zlt_0, zlt_1, zlt_2, zlt_3, zlt_4, zlt_5, zlt_6, zlt_8, zlt_12, zlt_15, zlt_20, zlt_24, zlt_36, zlt_40, zlt_48, zlt_80, zlt_97, zlt_120, zlt_256, zlt_600, zlt_99999999, zadd_1, zadd_2, zadd_5, zadd_6, zadd_8, zadd_20, zadd_24, zeq_0, zeq_1, zeq_2, zeq_3, zeq_4, zeq_5, zeq_6, zeq_7, zeq_8, zeq_13, zeq_14, zeq_20, zeq_32, zeq_59, zeq_60, zeq_80, zmul_2, zmul_4, zmul_6, zmul_8, zmul_10, zmul_24, zsub_1, zsub_2, zsub_10, zsub_48, zsub_97, zle_0, zle_1, zle_2, zle_6, zle_11, zle_200, zle_600, zle_100000000, ylt_0, ylt_1, ylt_2, ylt_3, ylt_6, ylt_9, ylt_20, ylt_24, ylt_57, ylt_60, ylt_99, ylt_120, ylt_122, ylt_999, ylt_9999, yle_0, yle_2, yle_4, yle_5, yle_6, yle_7, yle_8, yle_10, yle_12, yle_13, yle_15, yle_16, yle_20, yle_24, yle_40, yle_60, yle_64, yle_80, yadd_1, yadd_22, ymul_2, ymul_4, ymul_6, ymul_8, ymul_10, ymul_24, ymul_27, ymul_100, ysub_1, ysub_24, zdiv_2, zdiv_4, zdiv_24, e27, c, hnn]
      refine ih _ _ ⟨?_, ?_, rfl⟩
      · rw [show n - (j + 1) = m by omega, Int32.sub_eq_add_neg]
      · rw [hll, hm, show n - (j + 1) = m by omega]
        exact if_neg (nlt_le c)
    · simp (disch := first | omega | rfl | decide) only [e_X6_lastLoud_0, e_X6_lastLoud_10, xr_v, xr_n, hl_of, hl_cl, hl_toInt, hl_le, hl_lt, hl_eq, nI_add, hl_sub, pk_mul, hl_div, if_pos, if_neg, ↓reduceIte, Nat.reduceAdd, Nat.reduceSub, Nat.reduceMul, Nat.add_zero, Nat.zero_add, mp_s, mp_k, mp_i, mp_g, mr_s, mr_i, mr_g, zlt_0, zlt_1, zlt_2, zlt_3, zlt_4, zlt_5, zlt_6, zlt_8, zlt_12, zlt_15, zlt_20, zlt_24, zlt_36, zlt_40, zlt_48, zlt_80, zlt_97, zlt_120, zlt_256, zlt_600, zlt_99999999, zadd_1, zadd_2, zadd_5, zadd_6, zadd_8, zadd_20, zadd_24, zeq_0, zeq_1, zeq_2, zeq_3, zeq_4, zeq_5, zeq_6, zeq_7, zeq_8, zeq_13, zeq_14, zeq_20, zeq_32, zeq_59, zeq_60, zeq_80, zmul_2, zmul_4, zmul_6, zmul_8, zmul_10, zmul_24, zsub_1, zsub_2, zsub_10, zsub_48, zsub_97, zle_0, zle_1, zle_2, zle_6, zle_11, zle_200, zle_600, zle_100000000, ylt_0, ylt_1, ylt_2, ylt_3, ylt_6, ylt_9, ylt_20, ylt_24, ylt_57, ylt_60, ylt_99, ylt_120, ylt_122, ylt_999, ylt_9999, yle_0, yle_2, yle_4, yle_5, yle_6, yle_7, yle_8, yle_10, yle_12, yle_13, yle_15, yle_16, yle_20, yle_24, yle_40, yle_60, yle_64, yle_80, yadd_1, yadd_22, ymul_2, ymul_4, ymul_6, ymul_8, ymul_10, ymul_24, ymul_27, ymul_100, ysub_1, ysub_24, zdiv_2, zdiv_4, zdiv_24, e27, c, hnn]
      rw [hll, hm]
      rw [show llF R (m + 1) = m + 1 from if_pos (lt_nle c), zsub_1 (by omega)]
      rfl
  · rintro f k _ M' ⟨rfl, hll, e⟩
    rw [e, show n - n = 0 by omega, show nI 0 - 1 = (-1 : Int32) from by decide]
    rw [show n - n = 0 by omega] at hll
    rw [e_X6_lastLoud_10, if_pos (by decide), hll]
    rfl
theorem zf_dec {R : Nat → Int32} {a r : Nat} : zfF R a (r + 1) = if R (a + r) = 0 then (if zfF R a r = -1 then nI (a + r) else zfF R a r) else zfF R a r := rfl
theorem zc_dec {R : Nat → Int32} {a r : Nat} : zcF R a (r + 1) = if R (a + r) = 0 then zcF R a r + 1 else zcF R a r := rfl
theorem c_zones {M0 : Mem} {V : Vw} {As : Nat → Nat → Int32} {n nh ns nw na : Nat} {D : Nat} (hD : 9 ≤ D) (a s w : Nat) (ha : a < na) (hs : s < ns) (hw : w < 2) (M : Mem) (hM : CQ M0 V As n nh ns nw na M) : isI (EX L xs (D) q_X6_zones [.inr (.inr (0, 0)), .inl (nI a), .inl (nI s), .inl (nI w)] M O) O (zoneF (srcF V (As a) n s) n w) (CQ M0 V As n nh ns nw na) := by
  have hV := hM.2.1
  have v5 : n ≤ 40 := hV.2.2.2.2.2.1
  have v6 : nh ≤ 8 := hV.2.2.2.2.2.2.1
  have v7 : ns ≤ 6 := hV.2.2.2.2.2.2.2.1
  have v8 : nw ≤ 8 := hV.2.2.2.2.2.2.2.2.1
  have h6 : na ≤ 6 := hM.2.2.2.2.1
  have g0 := (hM.2.2.1 3 0 rfl).trans hV.1
  have g4 := (hM.2.2.1 3 4 rfl).trans hV.2.1
  have g8 := (hM.2.2.1 3 8 rfl).trans hV.2.2.1
  have g13 := (hM.2.2.1 3 13 rfl).trans hV.2.2.2.1
  have g6 := hM.2.2.2.1
  obtain ⟨d, rfl⟩ : ∃ d, D = d + 2 := ⟨D - 2, by omega⟩
  refine isI_e (EX_in mi_X6_zones rfl rfl rfl (ls := [some (.inr (.inr (0, 0))), some (.inl (nI a)), some (.inl (nI s)), some (.inl (nI w)), none, none, none, none, none]) rfl) ?_
  have q1 := x6_needAir_in L xs O (D := d + 1) (by omega) (by omega) a M g6 ha
  have q2 := x6_needSource_in L xs O (D := d + 1) (by omega) (by omega) s M g8 hs
  have q3 := x6_w2_in L xs O (D := d + 1) (by omega) w M hw
  obtain ⟨M1, q4, h1, r1⟩ := x6_rowOf L xs O (D := d + 1) (by omega) a s ha hs M hM
  generalize hR : srcF V (As a) n s = R at *
  have g0' := (h1.2.2.1 3 0 rfl).trans hV.1
  have q5 := x6_lastLoud L xs O (D := d + 1) (by omega) (a * 6 + s) n v5 R M1 g0' (fun y hy => r1 y (by omega))
  have q6 := x6_firstLoud L xs O (D := d + 1) (by omega) (a * 6 + s) n v5 R M1 g0' (fun y hy => r1 y (by omega))
  have hfl := fl_le R n
  have hll := ll_le R n
  simp (disch := first | omega | rfl | decide) only [e_X6_zones_0, e_X6_zones_5, e_X6_zones_10, e_X6_zones_16, e_X6_zones_22, e_X6_zones_30, e_X6_zones_44, e_X6_zones_96, e_X6_zones_77, e_X6_zones_79, xr_v, xr_n, hl_of, hl_cl, hl_toInt, hl_le, hl_lt, hl_eq, nI_add, hl_sub, pk_mul, hl_div, if_pos, if_neg, ↓reduceIte, Nat.reduceAdd, Nat.reduceSub, Nat.reduceMul, Nat.add_zero, Nat.zero_add, mp_s, mp_k, mp_i, mp_g, mr_s, mr_i, mr_g, zlt_0, zlt_1, zlt_2, zlt_3, zlt_4, zlt_5, zlt_6, zlt_8, zlt_12, zlt_15, zlt_20, zlt_24, zlt_36, zlt_40, zlt_48, zlt_80, zlt_97, zlt_120, zlt_256, zlt_600, zlt_99999999, zadd_1, zadd_2, zadd_5, zadd_6, zadd_8, zadd_20, zadd_24, zeq_0, zeq_1, zeq_2, zeq_3, zeq_4, zeq_5, zeq_6, zeq_7, zeq_8, zeq_13, zeq_14, zeq_20, zeq_32, zeq_59, zeq_60, zeq_80, zmul_2, zmul_4, zmul_6, zmul_8, zmul_10, zmul_24, zsub_1, zsub_2, zsub_10, zsub_48, zsub_97, zle_0, zle_1, zle_2, zle_6, zle_11, zle_200, zle_600, zle_100000000, ylt_0, ylt_1, ylt_2, ylt_3, ylt_6, ylt_9, ylt_20, ylt_24, ylt_57, ylt_60, ylt_99, ylt_120, ylt_122, ylt_999, ylt_9999, yle_0, yle_2, yle_4, yle_5, yle_6, yle_7, yle_8, yle_10, yle_12, yle_13, yle_15, yle_16, yle_20, yle_24, yle_40, yle_60, yle_64, yle_80, yadd_1, yadd_22, ymul_2, ymul_4, ymul_6, ymul_8, ymul_10, ymul_24, ymul_27, ymul_100, ysub_1, ysub_24, zdiv_2, zdiv_4, zdiv_24, q1, q2, q3, q4, q5, q6]
  have fin : ∀ f k j, j = llF R n - 1 - flF R n → (nI (llF R n) - 1 ≤ nI (flF R n + j)) → isI (BK L xs (EX L xs (d + 1)) mi_X6_zones (RN L xs (d) mi_X6_zones f) (k + 100) 46 [some (.inr (.inr (0, 0))), some (.inl (nI a)), some (.inl (nI s)), some (.inl (nI w)), some (.inr (.inr (27, (a * 6 + s)))), some (.inl (nI (llF R n) - 1)), some (.inl (nI (zcF R (flF R n) j))), some (.inl (zfF R (flF R n) j)), some (.inl (nI (flF R n + j)))] [] M1 O none 0 0) O (zoneF R n w) (CQ M0 V As n nh ns nw na) := by
    intro f k j hj hle
    unfold zoneF
    rw [← hj]
    by_cases c : w = 0
    · simp (disch := first | omega | rfl | decide) only [e_X6_zones_0, e_X6_zones_5, e_X6_zones_10, e_X6_zones_16, e_X6_zones_22, e_X6_zones_30, e_X6_zones_44, e_X6_zones_46, e_X6_zones_96, e_X6_zones_77, e_X6_zones_79, xr_v, xr_n, hl_of, hl_cl, hl_toInt, hl_le, hl_lt, hl_eq, nI_add, hl_sub, pk_mul, hl_div, if_pos, if_neg, ↓reduceIte, Nat.reduceAdd, Nat.reduceSub, Nat.reduceMul, Nat.add_zero, Nat.zero_add, mp_s, mp_k, mp_i, mp_g, mr_s, mr_i, mr_g, zlt_0, zlt_1, zlt_2, zlt_3, zlt_4, zlt_5, zlt_6, zlt_8, zlt_12, zlt_15, zlt_20, zlt_24, zlt_36, zlt_40, zlt_48, zlt_80, zlt_97, zlt_120, zlt_256, zlt_600, zlt_99999999, zadd_1, zadd_2, zadd_5, zadd_6, zadd_8, zadd_20, zadd_24, zeq_0, zeq_1, zeq_2, zeq_3, zeq_4, zeq_5, zeq_6, zeq_7, zeq_8, zeq_13, zeq_14, zeq_20, zeq_32, zeq_59, zeq_60, zeq_80, zmul_2, zmul_4, zmul_6, zmul_8, zmul_10, zmul_24, zsub_1, zsub_2, zsub_10, zsub_48, zsub_97, zle_0, zle_1, zle_2, zle_6, zle_11, zle_200, zle_600, zle_100000000, ylt_0, ylt_1, ylt_2, ylt_3, ylt_6, ylt_9, ylt_20, ylt_24, ylt_57, ylt_60, ylt_99, ylt_120, ylt_122, ylt_999, ylt_9999, yle_0, yle_2, yle_4, yle_5, yle_6, yle_7, yle_8, yle_10, yle_12, yle_13, yle_15, yle_16, yle_20, yle_24, yle_40, yle_60, yle_64, yle_80, yadd_1, yadd_22, ymul_2, ymul_4, ymul_6, ymul_8, ymul_10, ymul_24, ymul_27, ymul_100, ysub_1, ysub_24, zdiv_2, zdiv_4, zdiv_24, hle]
      exact isI_i h1
    · simp (disch := first | omega | rfl | decide) only [e_X6_zones_0, e_X6_zones_5, e_X6_zones_10, e_X6_zones_16, e_X6_zones_22, e_X6_zones_30, e_X6_zones_44, e_X6_zones_46, e_X6_zones_96, e_X6_zones_77, e_X6_zones_79, xr_v, xr_n, hl_of, hl_cl, hl_toInt, hl_le, hl_lt, hl_eq, nI_add, hl_sub, pk_mul, hl_div, if_pos, if_neg, ↓reduceIte, Nat.reduceAdd, Nat.reduceSub, Nat.reduceMul, Nat.add_zero, Nat.zero_add, mp_s, mp_k, mp_i, mp_g, mr_s, mr_i, mr_g, zlt_0, zlt_1, zlt_2, zlt_3, zlt_4, zlt_5, zlt_6, zlt_8, zlt_12, zlt_15, zlt_20, zlt_24, zlt_36, zlt_40, zlt_48, zlt_80, zlt_97, zlt_120, zlt_256, zlt_600, zlt_99999999, zadd_1, zadd_2, zadd_5, zadd_6, zadd_8, zadd_20, zadd_24, zeq_0, zeq_1, zeq_2, zeq_3, zeq_4, zeq_5, zeq_6, zeq_7, zeq_8, zeq_13, zeq_14, zeq_20, zeq_32, zeq_59, zeq_60, zeq_80, zmul_2, zmul_4, zmul_6, zmul_8, zmul_10, zmul_24, zsub_1, zsub_2, zsub_10, zsub_48, zsub_97, zle_0, zle_1, zle_2, zle_6, zle_11, zle_200, zle_600, zle_100000000, ylt_0, ylt_1, ylt_2, ylt_3, ylt_6, ylt_9, ylt_20, ylt_24, ylt_57, ylt_60, ylt_99, ylt_120, ylt_122, ylt_999, ylt_9999, yle_0, yle_2, yle_4, yle_5, yle_6, yle_7, yle_8, yle_10, yle_12, yle_13, yle_15, yle_16, yle_20, yle_24, yle_40, yle_60, yle_64, yle_80, yadd_1, yadd_22, ymul_2, ymul_4, ymul_6, ymul_8, ymul_10, ymul_24, ymul_27, ymul_100, ysub_1, ysub_24, zdiv_2, zdiv_4, zdiv_24, hle]
      exact isI_i h1
  by_cases c0 : llF R n = 0
  · refine fin FUEL _ 0 (by omega) ?_
    rw [c0, i_le, hl_toInt (by omega)]
    have : (nI 0 - 1 : Int32).toInt = -1 := by decide
    omega
  · have e1 : nI (llF R n) - 1 = nI (llF R n - 1) := zsub_1 (by omega)
    have lle := ll_is (R := R) (j := n) (by omega)
    have hfx := fl_ex (R := R) (j := n) (x := llF R n - 1) (by omega) lle
    refine loopA L xs O (P := fun r => isI r O _ (CQ M0 V As n nh ns nw na)) (fun j ls M => ∃ v v2, v = nI (zcF R (flF R n) j) ∧ v2 = zfF R (flF R n) j ∧ ls = [some (.inr (.inr (0, 0))), some (.inl (nI a)), some (.inl (nI s)), some (.inl (nI w)), some (.inr (.inr (27, (a * 6 + s)))), some (.inl (nI (llF R n) - 1)), some (.inl (v)), some (.inl (v2)), some (.inl (nI (flF R n + j)))] ∧ M = M1) (llF R n - 1 - flF R n) 100 (by omega) ?_ ?_ (Nat.le_of_lt (FU (by omega))) ⟨_, _, rfl, rfl, rfl, rfl⟩
    · rintro f k j _ M hj ⟨_, _, rfl, rfl, rfl, e⟩ ih
      rw [e]
      have e27 := r1 (flF R n + j) (by omega)
      rw [e1] at ih ⊢
      have ea : flF R n + j + 1 = flF R n + (j + 1) := by omega
      by_cases c : R (flF R n + j) = 0
      · by_cases c2 : zfF R (flF R n) j = -1
        · simp (disch := first | omega | rfl | decide) only [e_X6_zones_0, e_X6_zones_5, e_X6_zones_10, e_X6_zones_16, e_X6_zones_22, e_X6_zones_30, e_X6_zones_44, e_X6_zones_46, e_X6_zones_96, e_X6_zones_77, e_X6_zones_79, xr_v, xr_n, hl_of, hl_cl, hl_toInt, hl_le, hl_lt, hl_eq, nI_add, hl_sub, pk_mul, hl_div, if_pos, if_neg, ↓reduceIte, Nat.reduceAdd, Nat.reduceSub, Nat.reduceMul, Nat.add_zero, Nat.zero_add, mp_s, mp_k, mp_i, mp_g, mr_s, mr_i, mr_g, zlt_0, zlt_1, zlt_2, zlt_3, zlt_4, zlt_5, zlt_6, zlt_8, zlt_12, zlt_15, zlt_20, zlt_24, zlt_36, zlt_40, zlt_48, zlt_80, zlt_97, zlt_120, zlt_256, zlt_600, zlt_99999999, zadd_1, zadd_2, zadd_5, zadd_6, zadd_8, zadd_20, zadd_24, zeq_0, zeq_1, zeq_2, zeq_3, zeq_4, zeq_5, zeq_6, zeq_7, zeq_8, zeq_13, zeq_14, zeq_20, zeq_32, zeq_59, zeq_60, zeq_80, zmul_2, zmul_4, zmul_6, zmul_8, zmul_10, zmul_24, zsub_1, zsub_2, zsub_10, zsub_48, zsub_97, zle_0, zle_1, zle_2, zle_6, zle_11, zle_200, zle_600, zle_100000000, ylt_0, ylt_1, ylt_2, ylt_3, ylt_6, ylt_9, ylt_20, ylt_24, ylt_57, ylt_60, ylt_99, ylt_120, ylt_122, ylt_999, ylt_9999, yle_0, yle_2, yle_4, yle_5, yle_6, yle_7, yle_8, yle_10, yle_12, yle_13, yle_15, yle_16, yle_20, yle_24, yle_40, yle_60, yle_64, yle_80, yadd_1, yadd_22, ymul_2, ymul_4, ymul_6, ymul_8, ymul_10, ymul_24, ymul_27, ymul_100, ysub_1, ysub_24, zdiv_2, zdiv_4, zdiv_24, e27, c, c2, ea]
          refine ih _ _ ⟨_, _, ?_, ?_, rfl, rfl⟩
          · rw [zc_dec, if_pos c]
          · rw [zf_dec, if_pos c, if_pos c2]
        · simp (disch := first | omega | rfl | decide) only [e_X6_zones_0, e_X6_zones_5, e_X6_zones_10, e_X6_zones_16, e_X6_zones_22, e_X6_zones_30, e_X6_zones_44, e_X6_zones_46, e_X6_zones_96, e_X6_zones_77, e_X6_zones_79, xr_v, xr_n, hl_of, hl_cl, hl_toInt, hl_le, hl_lt, hl_eq, nI_add, hl_sub, pk_mul, hl_div, if_pos, if_neg, ↓reduceIte, Nat.reduceAdd, Nat.reduceSub, Nat.reduceMul, Nat.add_zero, Nat.zero_add, mp_s, mp_k, mp_i, mp_g, mr_s, mr_i, mr_g, zlt_0, zlt_1, zlt_2, zlt_3, zlt_4, zlt_5, zlt_6, zlt_8, zlt_12, zlt_15, zlt_20, zlt_24, zlt_36, zlt_40, zlt_48, zlt_80, zlt_97, zlt_120, zlt_256, zlt_600, zlt_99999999, zadd_1, zadd_2, zadd_5, zadd_6, zadd_8, zadd_20, zadd_24, zeq_0, zeq_1, zeq_2, zeq_3, zeq_4, zeq_5, zeq_6, zeq_7, zeq_8, zeq_13, zeq_14, zeq_20, zeq_32, zeq_59, zeq_60, zeq_80, zmul_2, zmul_4, zmul_6, zmul_8, zmul_10, zmul_24, zsub_1, zsub_2, zsub_10, zsub_48, zsub_97, zle_0, zle_1, zle_2, zle_6, zle_11, zle_200, zle_600, zle_100000000, ylt_0, ylt_1, ylt_2, ylt_3, ylt_6, ylt_9, ylt_20, ylt_24, ylt_57, ylt_60, ylt_99, ylt_120, ylt_122, ylt_999, ylt_9999, yle_0, yle_2, yle_4, yle_5, yle_6, yle_7, yle_8, yle_10, yle_12, yle_13, yle_15, yle_16, yle_20, yle_24, yle_40, yle_60, yle_64, yle_80, yadd_1, yadd_22, ymul_2, ymul_4, ymul_6, ymul_8, ymul_10, ymul_24, ymul_27, ymul_100, ysub_1, ysub_24, zdiv_2, zdiv_4, zdiv_24, e27, c, c2, ea]
          refine ih _ _ ⟨_, _, ?_, ?_, rfl, rfl⟩
          · rw [zc_dec, if_pos c]
          · rw [zf_dec, if_pos c, if_neg c2]
      · simp (disch := first | omega | rfl | decide) only [e_X6_zones_0, e_X6_zones_5, e_X6_zones_10, e_X6_zones_16, e_X6_zones_22, e_X6_zones_30, e_X6_zones_44, e_X6_zones_46, e_X6_zones_96, e_X6_zones_77, e_X6_zones_79, xr_v, xr_n, hl_of, hl_cl, hl_toInt, hl_le, hl_lt, hl_eq, nI_add, hl_sub, pk_mul, hl_div, if_pos, if_neg, ↓reduceIte, Nat.reduceAdd, Nat.reduceSub, Nat.reduceMul, Nat.add_zero, Nat.zero_add, mp_s, mp_k, mp_i, mp_g, mr_s, mr_i, mr_g, zlt_0, zlt_1, zlt_2, zlt_3, zlt_4, zlt_5, zlt_6, zlt_8, zlt_12, zlt_15, zlt_20, zlt_24, zlt_36, zlt_40, zlt_48, zlt_80, zlt_97, zlt_120, zlt_256, zlt_600, zlt_99999999, zadd_1, zadd_2, zadd_5, zadd_6, zadd_8, zadd_20, zadd_24, zeq_0, zeq_1, zeq_2, zeq_3, zeq_4, zeq_5, zeq_6, zeq_7, zeq_8, zeq_13, zeq_14, zeq_20, zeq_32, zeq_59, zeq_60, zeq_80, zmul_2, zmul_4, zmul_6, zmul_8, zmul_10, zmul_24, zsub_1, zsub_2, zsub_10, zsub_48, zsub_97, zle_0, zle_1, zle_2, zle_6, zle_11, zle_200, zle_600, zle_100000000, ylt_0, ylt_1, ylt_2, ylt_3, ylt_6, ylt_9, ylt_20, ylt_24, ylt_57, ylt_60, ylt_99, ylt_120, ylt_122, ylt_999, ylt_9999, yle_0, yle_2, yle_4, yle_5, yle_6, yle_7, yle_8, yle_10, yle_12, yle_13, yle_15, yle_16, yle_20, yle_24, yle_40, yle_60, yle_64, yle_80, yadd_1, yadd_22, ymul_2, ymul_4, ymul_6, ymul_8, ymul_10, ymul_24, ymul_27, ymul_100, ysub_1, ysub_24, zdiv_2, zdiv_4, zdiv_24, e27, c, ea]
        refine ih _ _ ⟨_, _, ?_, ?_, rfl, rfl⟩
        · rw [zc_dec, if_neg c]
        · rw [zf_dec, if_neg c]
    · rintro f k _ M ⟨_, _, rfl, rfl, rfl, e⟩
      rw [e]
      refine fin f k _ rfl ?_
      rw [e1, hl_le (by omega) (by omega)]
      omega
/-- BOUND by HOUSES -/
def bndF (V : Vw) (A : Nat → Int32) (f : Nat → Nat) (n nh ns nw nd h : Nat) (hs : Int32) : Nat → Option Nat
  | 0 => some 0
  | k + 1 => match bndF V A f n nh ns nw nd h hs k with
    | none => none
    | some m => if bitB hs k = true then (match lF V A f n nh ns nw nd h (1 <<< (nI k &&& 31)) (2 ^ nw) with
      | none => none
      | some b => some (if m < coinN V (nI b) nw then coinN V (nI b) nw else m)) else some m
def oI (o : Option Nat) : Int32 := match o with
  | none => -1
  | some m => nI m
theorem bnd_none {V : Vw} {A : Nat → Int32} {f : Nat → Nat} {n nh ns nw nd h : Nat} {hs : Int32} {j : Nat} (e : bndF V A f n nh ns nw nd h hs j = none) : ∀ r, bndF V A f n nh ns nw nd h hs (j + r) = none := by
  intro r
  induction r with
  | zero => exact e
  | succ r ih =>
    show (match bndF V A f n nh ns nw nd h hs (j + r) with
      | none => none
      | some m => _) = none
    rw [ih]
theorem bnd_le {V : Vw} {A : Nat → Int32} {f : Nat → Nat} {n nh ns nw nd h : Nat} {hs : Int32} (hc : ∀ w, w < nw → V 17 w = nI (vN V 17 w) ∧ vN V 17 w ≤ 99) : ∀ j m, bndF V A f n nh ns nw nd h hs j = some m → m ≤ 99 * nw := by
  intro j
  induction j with
  | zero => intro m e; cases e; omega
  | succ j ih =>
    intro m e
    unfold bndF at e
    split at e
    · cases e
    · rename_i m' e'
      have := ih m' e'
      split at e
      · split at e
        · cases e
        · rename_i b _
          have := coin_le hc (nI b) nw (Nat.le_refl _)
          cases e
          split <;> omega
      · cases e
        exact this
theorem c_least {M0 : Mem} {V : Vw} {As : Nat → Nat → Int32} {n nh ns nw na : Nat} {D : Nat} (hD : 10 ≤ D) {f : Nat → Nat} {nd : Nat} (hO : CO M0 f nd nw) (a h w : Nat) (hs : Int32) (ha : a < na) (hh : h < 24) (hb : inN hs (2 ^ nh)) (hw : w < 2) (M : Mem) (hM : CQ M0 V As n nh ns nw na M) : isI (EX L xs (D) q_X6_least [.inr (.inr (0, 0)), .inl (nI a), .inl (nI h), .inl (hs), .inl (nI w)] M O) O (if w = 1 then bI (lF V (As a) f n nh ns nw nd h hs (2 ^ nw)) else mI V nw (lF V (As a) f n nh ns nw nd h hs (2 ^ nw))) (CQ M0 V As n nh ns nw na) := by
  have hV := hM.2.1
  have v5 : n ≤ 40 := hV.2.2.2.2.2.1
  have v6 : nh ≤ 8 := hV.2.2.2.2.2.2.1
  have v7 : ns ≤ 6 := hV.2.2.2.2.2.2.2.1
  have v8 : nw ≤ 8 := hV.2.2.2.2.2.2.2.2.1
  have h6 : na ≤ 6 := hM.2.2.2.2.1
  have g0 := (hM.2.2.1 3 0 rfl).trans hV.1
  have g4 := (hM.2.2.1 3 4 rfl).trans hV.2.1
  have g8 := (hM.2.2.1 3 8 rfl).trans hV.2.2.1
  have g13 := (hM.2.2.1 3 13 rfl).trans hV.2.2.2.1
  have g6 := hM.2.2.2.1
  obtain ⟨d, rfl⟩ : ∃ d, D = d + 2 := ⟨D - 2, by omega⟩
  refine isI_e (EX_in mi_X6_least rfl rfl rfl (ls := [some (.inr (.inr (0, 0))), some (.inl (nI a)), some (.inl (nI h)), some (.inl (hs)), some (.inl (nI w)), none]) rfl) ?_
  have q1 := x6_needAir_in L xs O (D := d + 1) (by omega) (by omega) a M g6 ha
  have q2 := x6_needHour_in L xs O (D := d + 1) (by omega) h M hh
  have q3 := x6_needBits_in L xs O (D := d + 1) (by omega) nh v6 hs M hb
  have q4 := x6_w2_in L xs O (D := d + 1) (by omega) w M hw
  obtain ⟨M1, q5, h1⟩ := x6_leastWorks L xs O (D := d + 1) (by omega) a h hs ha hh hO M hM
  have hlt := fun b => lF_lt (V := V) (A := As a) (f := f) (n := n) (nh := nh) (ns := ns) (nw := nw) (nd := nd) (h := h) (hs := hs) (b := 2 ^ nw) (c := b)
  have := pow_le8 v8
  generalize lF V (As a) f n nh ns nw nd h hs (2 ^ nw) = st at *
  cases st with
  | none =>
    rw [show bI none = (-1 : Int32) from rfl] at q5 ⊢
    rw [show mI V nw none = (-1 : Int32) from rfl, ite_self]
    simp (disch := first | omega | rfl | decide) only [e_X6_least_0, e_X6_least_5, e_X6_least_10, e_X6_least_22, e_X6_least_29, e_X6_least_36, e_X6_least_50, e_X6_least_64, xr_v, xr_n, hl_of, hl_cl, hl_toInt, hl_le, hl_lt, hl_eq, nI_add, hl_sub, pk_mul, hl_div, if_pos, if_neg, ↓reduceIte, Nat.reduceAdd, Nat.reduceSub, Nat.reduceMul, Nat.add_zero, Nat.zero_add, mp_s, mp_k, mp_i, mp_g, mr_s, mr_i, mr_g, zlt_0, zlt_1, zlt_2, zlt_3, zlt_4, zlt_5, zlt_6, zlt_8, zlt_12, zlt_15, zlt_20, zlt_24, zlt_36, zlt_40, zlt_48, zlt_80, zlt_97, zlt_120, zlt_256, zlt_600, zlt_99999999, zadd_1, zadd_2, zadd_5, zadd_6, zadd_8, zadd_20, zadd_24, zeq_0, zeq_1, zeq_2, zeq_3, zeq_4, zeq_5, zeq_6, zeq_7, zeq_8, zeq_13, zeq_14, zeq_20, zeq_32, zeq_59, zeq_60, zeq_80, zmul_2, zmul_4, zmul_6, zmul_8, zmul_10, zmul_24, zsub_1, zsub_2, zsub_10, zsub_48, zsub_97, zle_0, zle_1, zle_2, zle_6, zle_11, zle_200, zle_600, zle_100000000, ylt_0, ylt_1, ylt_2, ylt_3, ylt_6, ylt_9, ylt_20, ylt_24, ylt_57, ylt_60, ylt_99, ylt_120, ylt_122, ylt_999, ylt_9999, yle_0, yle_2, yle_4, yle_5, yle_6, yle_7, yle_8, yle_10, yle_12, yle_13, yle_15, yle_16, yle_20, yle_24, yle_40, yle_60, yle_64, yle_80, yadd_1, yadd_22, ymul_2, ymul_4, ymul_6, ymul_8, ymul_10, ymul_24, ymul_27, ymul_100, ysub_1, ysub_24, zdiv_2, zdiv_4, zdiv_24, q1, q2, g4, q3, q4, q5]
    exact isI_i h1
  | some b =>
    have hb2 := hlt b rfl
    have hnn : ¬ nI b = -1 := fun e => nn_n b (by omega) (by rw [e]; decide)
    rw [show bI (some b) = nI b from rfl] at q5 ⊢
    rw [show mI V nw (some b) = nI (coinN V (nI b) nw) from rfl]
    have q6 := x1_coinOf L xs O (D := d + 1) (by omega) 2 (nI b) hV M1 h1.2.2.1
    by_cases c : w = 1
    · rw [if_pos c]
      simp (disch := first | omega | rfl | decide) only [e_X6_least_0, e_X6_least_5, e_X6_least_10, e_X6_least_22, e_X6_least_29, e_X6_least_36, e_X6_least_50, e_X6_least_64, xr_v, xr_n, hl_of, hl_cl, hl_toInt, hl_le, hl_lt, hl_eq, nI_add, hl_sub, pk_mul, hl_div, if_pos, if_neg, ↓reduceIte, Nat.reduceAdd, Nat.reduceSub, Nat.reduceMul, Nat.add_zero, Nat.zero_add, mp_s, mp_k, mp_i, mp_g, mr_s, mr_i, mr_g, zlt_0, zlt_1, zlt_2, zlt_3, zlt_4, zlt_5, zlt_6, zlt_8, zlt_12, zlt_15, zlt_20, zlt_24, zlt_36, zlt_40, zlt_48, zlt_80, zlt_97, zlt_120, zlt_256, zlt_600, zlt_99999999, zadd_1, zadd_2, zadd_5, zadd_6, zadd_8, zadd_20, zadd_24, zeq_0, zeq_1, zeq_2, zeq_3, zeq_4, zeq_5, zeq_6, zeq_7, zeq_8, zeq_13, zeq_14, zeq_20, zeq_32, zeq_59, zeq_60, zeq_80, zmul_2, zmul_4, zmul_6, zmul_8, zmul_10, zmul_24, zsub_1, zsub_2, zsub_10, zsub_48, zsub_97, zle_0, zle_1, zle_2, zle_6, zle_11, zle_200, zle_600, zle_100000000, ylt_0, ylt_1, ylt_2, ylt_3, ylt_6, ylt_9, ylt_20, ylt_24, ylt_57, ylt_60, ylt_99, ylt_120, ylt_122, ylt_999, ylt_9999, yle_0, yle_2, yle_4, yle_5, yle_6, yle_7, yle_8, yle_10, yle_12, yle_13, yle_15, yle_16, yle_20, yle_24, yle_40, yle_60, yle_64, yle_80, yadd_1, yadd_22, ymul_2, ymul_4, ymul_6, ymul_8, ymul_10, ymul_24, ymul_27, ymul_100, ysub_1, ysub_24, zdiv_2, zdiv_4, zdiv_24, q1, q2, g4, q3, q4, q5, hnn]
      exact isI_i h1
    · rw [if_neg c]
      simp (disch := first | omega | rfl | decide) only [e_X6_least_0, e_X6_least_5, e_X6_least_10, e_X6_least_22, e_X6_least_29, e_X6_least_36, e_X6_least_50, e_X6_least_64, xr_v, xr_n, hl_of, hl_cl, hl_toInt, hl_le, hl_lt, hl_eq, nI_add, hl_sub, pk_mul, hl_div, if_pos, if_neg, ↓reduceIte, Nat.reduceAdd, Nat.reduceSub, Nat.reduceMul, Nat.add_zero, Nat.zero_add, mp_s, mp_k, mp_i, mp_g, mr_s, mr_i, mr_g, zlt_0, zlt_1, zlt_2, zlt_3, zlt_4, zlt_5, zlt_6, zlt_8, zlt_12, zlt_15, zlt_20, zlt_24, zlt_36, zlt_40, zlt_48, zlt_80, zlt_97, zlt_120, zlt_256, zlt_600, zlt_99999999, zadd_1, zadd_2, zadd_5, zadd_6, zadd_8, zadd_20, zadd_24, zeq_0, zeq_1, zeq_2, zeq_3, zeq_4, zeq_5, zeq_6, zeq_7, zeq_8, zeq_13, zeq_14, zeq_20, zeq_32, zeq_59, zeq_60, zeq_80, zmul_2, zmul_4, zmul_6, zmul_8, zmul_10, zmul_24, zsub_1, zsub_2, zsub_10, zsub_48, zsub_97, zle_0, zle_1, zle_2, zle_6, zle_11, zle_200, zle_600, zle_100000000, ylt_0, ylt_1, ylt_2, ylt_3, ylt_6, ylt_9, ylt_20, ylt_24, ylt_57, ylt_60, ylt_99, ylt_120, ylt_122, ylt_999, ylt_9999, yle_0, yle_2, yle_4, yle_5, yle_6, yle_7, yle_8, yle_10, yle_12, yle_13, yle_15, yle_16, yle_20, yle_24, yle_40, yle_60, yle_64, yle_80, yadd_1, yadd_22, ymul_2, ymul_4, ymul_6, ymul_8, ymul_10, ymul_24, ymul_27, ymul_100, ysub_1, ysub_24, zdiv_2, zdiv_4, zdiv_24, q1, q2, g4, q3, q4, q5, hnn, q6]
      exact isI_i h1
theorem c_bound {M0 : Mem} {V : Vw} {As : Nat → Nat → Int32} {n nh ns nw na : Nat} {D : Nat} (hD : 10 ≤ D) {f : Nat → Nat} {nd : Nat} (hO : CO M0 f nd nw) (a h : Nat) (hs : Int32) (ha : a < na) (hh : h < 24) (hb : inN hs (2 ^ nh)) (M : Mem) (hM : CQ M0 V As n nh ns nw na M) : isI (EX L xs (D) q_X6_bound [.inr (.inr (0, 0)), .inl (nI a), .inl (nI h), .inl (hs)] M O) O (oI (bndF V (As a) f n nh ns nw nd h hs nh)) (CQ M0 V As n nh ns nw na) := by
  have hV := hM.2.1
  have v5 : n ≤ 40 := hV.2.2.2.2.2.1
  have v6 : nh ≤ 8 := hV.2.2.2.2.2.2.1
  have v7 : ns ≤ 6 := hV.2.2.2.2.2.2.2.1
  have v8 : nw ≤ 8 := hV.2.2.2.2.2.2.2.2.1
  have h6 : na ≤ 6 := hM.2.2.2.2.1
  have g0 := (hM.2.2.1 3 0 rfl).trans hV.1
  have g4 := (hM.2.2.1 3 4 rfl).trans hV.2.1
  have g8 := (hM.2.2.1 3 8 rfl).trans hV.2.2.1
  have g13 := (hM.2.2.1 3 13 rfl).trans hV.2.2.2.1
  have g6 := hM.2.2.2.1
  obtain ⟨d, rfl⟩ : ∃ d, D = d + 2 := ⟨D - 2, by omega⟩
  refine isI_e (EX_in mi_X6_bound rfl rfl rfl (ls := [some (.inr (.inr (0, 0))), some (.inl (nI a)), some (.inl (nI h)), some (.inl (hs)), none, none, none]) rfl) ?_
  have q1 := x6_needAir_in L xs O (D := d + 1) (by omega) (by omega) a M g6 ha
  have q2 := x6_needHour_in L xs O (D := d + 1) (by omega) h M hh
  have q3 := x6_needBits_in L xs O (D := d + 1) (by omega) nh v6 hs M hb
  simp (disch := first | omega | rfl | decide) only [e_X6_bound_0, e_X6_bound_5, e_X6_bound_10, e_X6_bound_22, e_X6_bound_46, e_X6_bound_85, e_X6_bound_59, e_X6_bound_80, e_X6_bound_83, xr_v, xr_n, hl_of, hl_cl, hl_toInt, hl_le, hl_lt, hl_eq, nI_add, hl_sub, pk_mul, hl_div, if_pos, if_neg, ↓reduceIte, Nat.reduceAdd, Nat.reduceSub, Nat.reduceMul, Nat.add_zero, Nat.zero_add, mp_s, mp_k, mp_i, mp_g, mr_s, mr_i, mr_g, zlt_0, zlt_1, zlt_2, zlt_3, zlt_4, zlt_5, zlt_6, zlt_8, zlt_12, zlt_15, zlt_20, zlt_24, zlt_36, zlt_40, zlt_48, zlt_80, zlt_97, zlt_120, zlt_256, zlt_600, zlt_99999999, zadd_1, zadd_2, zadd_5, zadd_6, zadd_8, zadd_20, zadd_24, zeq_0, zeq_1, zeq_2, zeq_3, zeq_4, zeq_5, zeq_6, zeq_7, zeq_8, zeq_13, zeq_14, zeq_20, zeq_32, zeq_59, zeq_60, zeq_80, zmul_2, zmul_4, zmul_6, zmul_8, zmul_10, zmul_24, zsub_1, zsub_2, zsub_10, zsub_48, zsub_97, zle_0, zle_1, zle_2, zle_6, zle_11, zle_200, zle_600, zle_100000000, ylt_0, ylt_1, ylt_2, ylt_3, ylt_6, ylt_9, ylt_20, ylt_24, ylt_57, ylt_60, ylt_99, ylt_120, ylt_122, ylt_999, ylt_9999, yle_0, yle_2, yle_4, yle_5, yle_6, yle_7, yle_8, yle_10, yle_12, yle_13, yle_15, yle_16, yle_20, yle_24, yle_40, yle_60, yle_64, yle_80, yadd_1, yadd_22, ymul_2, ymul_4, ymul_6, ymul_8, ymul_10, ymul_24, ymul_27, ymul_100, ysub_1, ysub_24, zdiv_2, zdiv_4, zdiv_24, q1, q2, g4, q3]
  refine loopA L xs O (P := fun r => isI r O _ (CQ M0 V As n nh ns nw na)) (fun j ls M => ∃ m u6, bndF V (As a) f n nh ns nw nd h hs j = some m ∧ ls = [some (.inr (.inr (0, 0))), some (.inl (nI a)), some (.inl (nI h)), some (.inl (hs)), some (.inl (nI m)), some (.inl (nI j)), u6] ∧ CQ M0 V As n nh ns nw na M) nh 100 (by omega) ?_ ?_ (Nat.le_of_lt (FU (by omega))) ⟨_, _, rfl, rfl, hM⟩
  · rintro fu k j _ M hj ⟨m, u6, hm, rfl, hM⟩ ih
    have hV := hM.2.1
    have v5 : n ≤ 40 := hV.2.2.2.2.2.1
    have v6 : nh ≤ 8 := hV.2.2.2.2.2.2.1
    have v7 : ns ≤ 6 := hV.2.2.2.2.2.2.2.1
    have v8 : nw ≤ 8 := hV.2.2.2.2.2.2.2.2.1
    have h6 : na ≤ 6 := hM.2.2.2.2.1
    have g0 := (hM.2.2.1 3 0 rfl).trans hV.1
    have g4 := (hM.2.2.1 3 4 rfl).trans hV.2.1
    have g8 := (hM.2.2.1 3 8 rfl).trans hV.2.2.1
    have g13 := (hM.2.2.1 3 13 rfl).trans hV.2.2.2.1
    have g6 := hM.2.2.2.1
    have hmle := bnd_le hV.2.2.2.2.2.2.2.2.2.2.2.2.2.2.2.2 j m hm
    have q4 := x6_bit L xs O (D := d + 1) (by omega) hs j M
    have hs1 : bndF V (As a) f n nh ns nw nd h hs (j + 1) = if bitB hs j = true then (match lF V (As a) f n nh ns nw nd h (1 <<< (nI j &&& 31)) (2 ^ nw) with
      | none => none
      | some b => some (if m < coinN V (nI b) nw then coinN V (nI b) nw else m)) else some m := by
      show (match bndF V (As a) f n nh ns nw nd h hs j with
        | none => none
        | some m => _) = _
      rw [hm]
    cases c : bitB hs j with
    | false =>
      rw [c, b2i_f] at q4
      rw [c, if_neg Bool.false_ne_true] at hs1
      simp (disch := first | omega | rfl | decide) only [e_X6_bound_0, e_X6_bound_5, e_X6_bound_10, e_X6_bound_22, e_X6_bound_28, e_X6_bound_46, e_X6_bound_85, e_X6_bound_59, e_X6_bound_80, e_X6_bound_83, xr_v, xr_n, hl_of, hl_cl, hl_toInt, hl_le, hl_lt, hl_eq, nI_add, hl_sub, pk_mul, hl_div, if_pos, if_neg, ↓reduceIte, Nat.reduceAdd, Nat.reduceSub, Nat.reduceMul, Nat.add_zero, Nat.zero_add, mp_s, mp_k, mp_i, mp_g, mr_s, mr_i, mr_g, zlt_0, zlt_1, zlt_2, zlt_3, zlt_4, zlt_5, zlt_6, zlt_8, zlt_12, zlt_15, zlt_20, zlt_24, zlt_36, zlt_40, zlt_48, zlt_80, zlt_97, zlt_120, zlt_256, zlt_600, zlt_99999999, zadd_1, zadd_2, zadd_5, zadd_6, zadd_8, zadd_20, zadd_24, zeq_0, zeq_1, zeq_2, zeq_3, zeq_4, zeq_5, zeq_6, zeq_7, zeq_8, zeq_13, zeq_14, zeq_20, zeq_32, zeq_59, zeq_60, zeq_80, zmul_2, zmul_4, zmul_6, zmul_8, zmul_10, zmul_24, zsub_1, zsub_2, zsub_10, zsub_48, zsub_97, zle_0, zle_1, zle_2, zle_6, zle_11, zle_200, zle_600, zle_100000000, ylt_0, ylt_1, ylt_2, ylt_3, ylt_6, ylt_9, ylt_20, ylt_24, ylt_57, ylt_60, ylt_99, ylt_120, ylt_122, ylt_999, ylt_9999, yle_0, yle_2, yle_4, yle_5, yle_6, yle_7, yle_8, yle_10, yle_12, yle_13, yle_15, yle_16, yle_20, yle_24, yle_40, yle_60, yle_64, yle_80, yadd_1, yadd_22, ymul_2, ymul_4, ymul_6, ymul_8, ymul_10, ymul_24, ymul_27, ymul_100, ysub_1, ysub_24, zdiv_2, zdiv_4, zdiv_24, g4, q4]
      exact ih _ _ ⟨_, _, hs1, rfl, hM⟩
    | true =>
      rw [c, b2i_t] at q4
      rw [c, if_pos rfl] at hs1
      obtain ⟨M1, q5, h1⟩ := x6_leastWorks L xs O (D := d + 1) (by omega) a h (1 <<< (nI j &&& 31)) ha hh hO M hM
      have hlt := fun b => lF_lt (V := V) (A := As a) (f := f) (n := n) (nh := nh) (ns := ns) (nw := nw) (nd := nd) (h := h) (hs := 1 <<< (nI j &&& 31)) (b := 2 ^ nw) (c := b)
      have := pow_le8 v8
      generalize lF V (As a) f n nh ns nw nd h (1 <<< (nI j &&& 31)) (2 ^ nw) = st at *
      cases st with
      | none =>
        rw [show bI none = (-1 : Int32) from rfl] at q5
        have hs2 := bnd_none hs1 (nh - (j + 1))
        rw [show j + 1 + (nh - (j + 1)) = nh by omega] at hs2
        rw [hs2]
        simp (disch := first | omega | rfl | decide) only [e_X6_bound_0, e_X6_bound_5, e_X6_bound_10, e_X6_bound_22, e_X6_bound_28, e_X6_bound_46, e_X6_bound_85, e_X6_bound_59, e_X6_bound_80, e_X6_bound_83, xr_v, xr_n, hl_of, hl_cl, hl_toInt, hl_le, hl_lt, hl_eq, nI_add, hl_sub, pk_mul, hl_div, if_pos, if_neg, ↓reduceIte, Nat.reduceAdd, Nat.reduceSub, Nat.reduceMul, Nat.add_zero, Nat.zero_add, mp_s, mp_k, mp_i, mp_g, mr_s, mr_i, mr_g, zlt_0, zlt_1, zlt_2, zlt_3, zlt_4, zlt_5, zlt_6, zlt_8, zlt_12, zlt_15, zlt_20, zlt_24, zlt_36, zlt_40, zlt_48, zlt_80, zlt_97, zlt_120, zlt_256, zlt_600, zlt_99999999, zadd_1, zadd_2, zadd_5, zadd_6, zadd_8, zadd_20, zadd_24, zeq_0, zeq_1, zeq_2, zeq_3, zeq_4, zeq_5, zeq_6, zeq_7, zeq_8, zeq_13, zeq_14, zeq_20, zeq_32, zeq_59, zeq_60, zeq_80, zmul_2, zmul_4, zmul_6, zmul_8, zmul_10, zmul_24, zsub_1, zsub_2, zsub_10, zsub_48, zsub_97, zle_0, zle_1, zle_2, zle_6, zle_11, zle_200, zle_600, zle_100000000, ylt_0, ylt_1, ylt_2, ylt_3, ylt_6, ylt_9, ylt_20, ylt_24, ylt_57, ylt_60, ylt_99, ylt_120, ylt_122, ylt_999, ylt_9999, yle_0, yle_2, yle_4, yle_5, yle_6, yle_7, yle_8, yle_10, yle_12, yle_13, yle_15, yle_16, yle_20, yle_24, yle_40, yle_60, yle_64, yle_80, yadd_1, yadd_22, ymul_2, ymul_4, ymul_6, ymul_8, ymul_10, ymul_24, ymul_27, ymul_100, ysub_1, ysub_24, zdiv_2, zdiv_4, zdiv_24, g4, q4, q5]
        exact isI_i h1
      | some b =>
        have hb2 := hlt b rfl
        have hnn : ¬ nI b = -1 := fun e => nn_n b (by omega) (by rw [e]; decide)
        rw [show bI (some b) = nI b from rfl] at q5
        have q6 := x1_coinOf L xs O (D := d + 1) (by omega) 2 (nI b) hV M1 h1.2.2.1
        have cle := coin_le hV.2.2.2.2.2.2.2.2.2.2.2.2.2.2.2.2 (nI b) nw (Nat.le_refl _)
        by_cases c2 : m < coinN V (nI b) nw
        · simp (disch := first | omega | rfl | decide) only [e_X6_bound_0, e_X6_bound_5, e_X6_bound_10, e_X6_bound_22, e_X6_bound_28, e_X6_bound_46, e_X6_bound_85, e_X6_bound_59, e_X6_bound_80, e_X6_bound_83, xr_v, xr_n, hl_of, hl_cl, hl_toInt, hl_le, hl_lt, hl_eq, nI_add, hl_sub, pk_mul, hl_div, if_pos, if_neg, ↓reduceIte, Nat.reduceAdd, Nat.reduceSub, Nat.reduceMul, Nat.add_zero, Nat.zero_add, mp_s, mp_k, mp_i, mp_g, mr_s, mr_i, mr_g, zlt_0, zlt_1, zlt_2, zlt_3, zlt_4, zlt_5, zlt_6, zlt_8, zlt_12, zlt_15, zlt_20, zlt_24, zlt_36, zlt_40, zlt_48, zlt_80, zlt_97, zlt_120, zlt_256, zlt_600, zlt_99999999, zadd_1, zadd_2, zadd_5, zadd_6, zadd_8, zadd_20, zadd_24, zeq_0, zeq_1, zeq_2, zeq_3, zeq_4, zeq_5, zeq_6, zeq_7, zeq_8, zeq_13, zeq_14, zeq_20, zeq_32, zeq_59, zeq_60, zeq_80, zmul_2, zmul_4, zmul_6, zmul_8, zmul_10, zmul_24, zsub_1, zsub_2, zsub_10, zsub_48, zsub_97, zle_0, zle_1, zle_2, zle_6, zle_11, zle_200, zle_600, zle_100000000, ylt_0, ylt_1, ylt_2, ylt_3, ylt_6, ylt_9, ylt_20, ylt_24, ylt_57, ylt_60, ylt_99, ylt_120, ylt_122, ylt_999, ylt_9999, yle_0, yle_2, yle_4, yle_5, yle_6, yle_7, yle_8, yle_10, yle_12, yle_13, yle_15, yle_16, yle_20, yle_24, yle_40, yle_60, yle_64, yle_80, yadd_1, yadd_22, ymul_2, ymul_4, ymul_6, ymul_8, ymul_10, ymul_24, ymul_27, ymul_100, ysub_1, ysub_24, zdiv_2, zdiv_4, zdiv_24, g4, q4, q5, q6, hnn, c2]
          exact ih _ _ ⟨_, _, hs1.trans (congrArg some (if_pos c2)), rfl, h1⟩
        · simp (disch := first | omega | rfl | decide) only [e_X6_bound_0, e_X6_bound_5, e_X6_bound_10, e_X6_bound_22, e_X6_bound_28, e_X6_bound_46, e_X6_bound_85, e_X6_bound_59, e_X6_bound_80, e_X6_bound_83, xr_v, xr_n, hl_of, hl_cl, hl_toInt, hl_le, hl_lt, hl_eq, nI_add, hl_sub, pk_mul, hl_div, if_pos, if_neg, ↓reduceIte, Nat.reduceAdd, Nat.reduceSub, Nat.reduceMul, Nat.add_zero, Nat.zero_add, mp_s, mp_k, mp_i, mp_g, mr_s, mr_i, mr_g, zlt_0, zlt_1, zlt_2, zlt_3, zlt_4, zlt_5, zlt_6, zlt_8, zlt_12, zlt_15, zlt_20, zlt_24, zlt_36, zlt_40, zlt_48, zlt_80, zlt_97, zlt_120, zlt_256, zlt_600, zlt_99999999, zadd_1, zadd_2, zadd_5, zadd_6, zadd_8, zadd_20, zadd_24, zeq_0, zeq_1, zeq_2, zeq_3, zeq_4, zeq_5, zeq_6, zeq_7, zeq_8, zeq_13, zeq_14, zeq_20, zeq_32, zeq_59, zeq_60, zeq_80, zmul_2, zmul_4, zmul_6, zmul_8, zmul_10, zmul_24, zsub_1, zsub_2, zsub_10, zsub_48, zsub_97, zle_0, zle_1, zle_2, zle_6, zle_11, zle_200, zle_600, zle_100000000, ylt_0, ylt_1, ylt_2, ylt_3, ylt_6, ylt_9, ylt_20, ylt_24, ylt_57, ylt_60, ylt_99, ylt_120, ylt_122, ylt_999, ylt_9999, yle_0, yle_2, yle_4, yle_5, yle_6, yle_7, yle_8, yle_10, yle_12, yle_13, yle_15, yle_16, yle_20, yle_24, yle_40, yle_60, yle_64, yle_80, yadd_1, yadd_22, ymul_2, ymul_4, ymul_6, ymul_8, ymul_10, ymul_24, ymul_27, ymul_100, ysub_1, ysub_24, zdiv_2, zdiv_4, zdiv_24, g4, q4, q5, q6, hnn, c2]
          exact ih _ _ ⟨_, _, hs1.trans (congrArg some (if_neg c2)), rfl, h1⟩
  · rintro fu k _ M ⟨m, u6, hm, rfl, hM⟩
    have hV := hM.2.1
    have v5 : n ≤ 40 := hV.2.2.2.2.2.1
    have v6 : nh ≤ 8 := hV.2.2.2.2.2.2.1
    have v7 : ns ≤ 6 := hV.2.2.2.2.2.2.2.1
    have v8 : nw ≤ 8 := hV.2.2.2.2.2.2.2.2.1
    have h6 : na ≤ 6 := hM.2.2.2.2.1
    have g0 := (hM.2.2.1 3 0 rfl).trans hV.1
    have g4 := (hM.2.2.1 3 4 rfl).trans hV.2.1
    have g8 := (hM.2.2.1 3 8 rfl).trans hV.2.2.1
    have g13 := (hM.2.2.1 3 13 rfl).trans hV.2.2.2.1
    have g6 := hM.2.2.2.1
    rw [hm]
    simp (disch := first | omega | rfl | decide) only [e_X6_bound_0, e_X6_bound_5, e_X6_bound_10, e_X6_bound_22, e_X6_bound_28, e_X6_bound_46, e_X6_bound_85, e_X6_bound_59, e_X6_bound_80, e_X6_bound_83, xr_v, xr_n, hl_of, hl_cl, hl_toInt, hl_le, hl_lt, hl_eq, nI_add, hl_sub, pk_mul, hl_div, if_pos, if_neg, ↓reduceIte, Nat.reduceAdd, Nat.reduceSub, Nat.reduceMul, Nat.add_zero, Nat.zero_add, mp_s, mp_k, mp_i, mp_g, mr_s, mr_i, mr_g, zlt_0, zlt_1, zlt_2, zlt_3, zlt_4, zlt_5, zlt_6, zlt_8, zlt_12, zlt_15, zlt_20, zlt_24, zlt_36, zlt_40, zlt_48, zlt_80, zlt_97, zlt_120, zlt_256, zlt_600, zlt_99999999, zadd_1, zadd_2, zadd_5, zadd_6, zadd_8, zadd_20, zadd_24, zeq_0, zeq_1, zeq_2, zeq_3, zeq_4, zeq_5, zeq_6, zeq_7, zeq_8, zeq_13, zeq_14, zeq_20, zeq_32, zeq_59, zeq_60, zeq_80, zmul_2, zmul_4, zmul_6, zmul_8, zmul_10, zmul_24, zsub_1, zsub_2, zsub_10, zsub_48, zsub_97, zle_0, zle_1, zle_2, zle_6, zle_11, zle_200, zle_600, zle_100000000, ylt_0, ylt_1, ylt_2, ylt_3, ylt_6, ylt_9, ylt_20, ylt_24, ylt_57, ylt_60, ylt_99, ylt_120, ylt_122, ylt_999, ylt_9999, yle_0, yle_2, yle_4, yle_5, yle_6, yle_7, yle_8, yle_10, yle_12, yle_13, yle_15, yle_16, yle_20, yle_24, yle_40, yle_60, yle_64, yle_80, yadd_1, yadd_22, ymul_2, ymul_4, ymul_6, ymul_8, ymul_10, ymul_24, ymul_27, ymul_100, ysub_1, ysub_24, zdiv_2, zdiv_4, zdiv_24, g4]
    exact isI_i hM
end
