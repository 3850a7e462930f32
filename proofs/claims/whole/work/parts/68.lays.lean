/-! WORKS on a view; the reference lays its LAND. -/
def vput (V : Vw) (g k : Nat) (x : Int32) : Vw := fun g' k' => if g' = g ∧ k' = k then x else V g' k'
theorem vp_s {V : Vw} {g k : Nat} {x : Int32} : vput V g k x g k = x := if_pos ⟨rfl, rfl⟩
theorem vp_k {V : Vw} {g k g' k' : Nat} {x : Int32} (h : k' ≠ k) : vput V g k x g' k' = V g' k' := if_neg (fun e => h e.2)
theorem vp_g {V : Vw} {g k g' k' : Nat} {x : Int32} (h : g' ≠ g) : vput V g k x g' k' = V g' k' := if_neg (fun e => h e.1)
def vtar (V : Vw) (a b : Nat) : Vw := fun g k => if g = 4 ∧ a ≤ k ∧ k ≤ b then 2 else V g k
def perfV (V : Vw) (w : Nat) : Vw := if V 14 w = 6 then vput V 6 (vN V 15 w) (V 16 w) else if V 14 w = 7 then vtar V (vN V 15 w) (vN V 16 w)
  else if V 14 w = 8 then vput V 11 (vN V 15 w) (imax 0 (V 11 (vN V 15 w) - V 16 w)) else vput V 8 (vN V 15 w) (V 8 (vN V 15 w) + V 16 w)
theorem perf_g {V : Vw} {w g k : Nat} (h4 : g ≠ 4) (h6 : g ≠ 6) (h8 : g ≠ 8) (h11 : g ≠ 11) : perfV V w g k = V g k := by
  unfold perfV
  by_cases c6 : V 14 w = 6
  · rw [if_pos c6, vp_g h6]
  · rw [if_neg c6]
    by_cases c7 : V 14 w = 7
    · rw [if_pos c7]
      exact if_neg (fun e => h4 e.1)
    · rw [if_neg c7]
      by_cases c8 : V 14 w = 8
      · rw [if_pos c8, vp_g h11]
      · rw [if_neg c8, vp_g h8]
theorem lv_less {l b : Nat} (hl : l ≤ 120) (hb : b ≤ 99) : imax 0 (nI l - nI b) = nI (l - b) := by
  unfold imax
  by_cases h : b < l
  · rw [hl_sub (by omega), if_pos]
    rw [ylt_0 (by omega)]
    omega
  · rw [if_neg, show l - b = 0 by omega]
    · rfl
    · rw [i_lt, pk_sub_toInt (by omega) (by omega)]
      have : (0 : Int32).toInt = 0 := by decide
      omega
theorem vN_nI {V : Vw} {g k m : Nat} (h : V g k = nI m) (hm : m < 2147483648) : vN V g k = m := by
  unfold vN
  rw [h, hl_cl hm]
theorem perf_ok {V : Vw} {n nh ns nw w : Nat} (hV : VOK V n nh ns nw) (hw : w < nw) : VOK (perfV V w) n nh ns nw := by
  obtain ⟨v0, v1, v2, v3, v4, v5, v6, v7, v8, vk, vh, vw, vc, vs, vl, vwk, vcn⟩ := hV
  have vN_eq : ∀ g k, g ≠ 4 → g ≠ 6 → g ≠ 8 → g ≠ 11 → vN (perfV V w) g k = vN V g k := by
    intro g k a b c e
    unfold vN
    rw [perf_g a b c e]
  obtain ⟨w1, w2, w3⟩ := vwk w hw
  refine ⟨?_, ?_, ?_, ?_, v4, v5, v6, v7, v8, ?_, ?_, ?_, ?_, ?_, ?_, ?_, ?_⟩
  · rw [perf_g (by omega) (by omega) (by omega) (by omega), v0]
  · rw [perf_g (by omega) (by omega) (by omega) (by omega), v1]
  · rw [perf_g (by omega) (by omega) (by omega) (by omega), v2]
  · rw [perf_g (by omega) (by omega) (by omega) (by omega), v3]
  · intro j hj
    have h : perfV V w 4 j = 2 ∨ perfV V w 4 j = V 4 j := by
      unfold perfV
      by_cases c6 : V 14 w = 6
      · rw [if_pos c6, vp_g (by omega)]
        exact Or.inr rfl
      · rw [if_neg c6]
        by_cases c7 : V 14 w = 7
        · rw [if_pos c7]
          unfold vtar
          split
          · exact Or.inl rfl
          · exact Or.inr rfl
        · rw [if_neg c7]
          by_cases c8 : V 14 w = 8
          · rw [if_pos c8, vp_g (by omega)]
            exact Or.inr rfl
          · rw [if_neg c8, vp_g (by omega)]
            exact Or.inr rfl
    rcases h with h | h
    · rw [vN_nI (m := 2) h (by omega), h]
      exact ⟨rfl, by omega⟩
    · have := vk j hj
      rw [vN_nI (h.trans this.1) (by omega), h]
      exact this
  · intro j hj
    rw [perf_g (by omega) (by omega) (by omega) (by omega), vN_eq _ _ (by omega) (by omega) (by omega) (by omega)]
    exact vh j hj
  · intro j hj
    have h : (∃ m, m ≤ 9 ∧ perfV V w 6 j = nI m) := by
      have := vw j hj
      unfold perfV
      by_cases c6 : V 14 w = 6
      · rw [if_pos c6]
        rcases w3 with ⟨_, _, hb⟩ | ⟨e, _⟩ | ⟨e, _⟩ | ⟨e, _⟩
        · by_cases ej : j = vN V 15 w
          · rw [ej, vp_s, w2]
            exact ⟨_, hb, rfl⟩
          · rw [vp_k ej]
            exact ⟨_, this.2, this.1⟩
        · rw [e] at c6
          exact absurd c6 (by decide)
        · rw [e] at c6
          exact absurd c6 (by decide)
        · rw [e] at c6
          exact absurd c6 (by decide)
      · rw [if_neg c6]
        by_cases c7 : V 14 w = 7
        · rw [if_pos c7]
          unfold vtar
          rw [if_neg (by omega)]
          exact ⟨_, this.2, this.1⟩
        · rw [if_neg c7]
          by_cases c8 : V 14 w = 8
          · rw [if_pos c8, vp_g (by omega)]
            exact ⟨_, this.2, this.1⟩
          · rw [if_neg c8, vp_g (by omega)]
            exact ⟨_, this.2, this.1⟩
    obtain ⟨m, hm, h⟩ := h
    rw [vN_nI h (by omega)]
    exact ⟨h, hm⟩
  · intro j hj
    rw [perf_g (by omega) (by omega) (by omega) (by omega), vN_eq _ _ (by omega) (by omega) (by omega) (by omega)]
    exact vc j hj
  · intro j hj
    rw [perf_g (by omega) (by omega) (by omega) (by omega), vN_eq _ _ (by omega) (by omega) (by omega) (by omega)]
    exact vs j hj
  · intro j hj
    have h : (∃ m, m ≤ 120 ∧ perfV V w 11 j = nI m) := by
      have := vl j hj
      unfold perfV
      by_cases c6 : V 14 w = 6
      · rw [if_pos c6, vp_g (by omega)]
        exact ⟨_, this.2, this.1⟩
      · rw [if_neg c6]
        by_cases c7 : V 14 w = 7
        · rw [if_pos c7]
          unfold vtar
          rw [if_neg (by omega)]
          exact ⟨_, this.2, this.1⟩
        · rw [if_neg c7]
          by_cases c8 : V 14 w = 8
          · rw [if_pos c8]
            rcases w3 with ⟨e, _⟩ | ⟨e, _⟩ | ⟨_, ha, hb⟩ | ⟨e, _⟩
            · exact absurd e c6
            · exact absurd e c7
            · by_cases ej : j = vN V 15 w
              · have h11 := vl _ ha
                rw [ej, vp_s, h11.1, w2, lv_less h11.2 hb]
                exact ⟨_, by omega, rfl⟩
              · rw [vp_k ej]
                exact ⟨_, this.2, this.1⟩
            · rw [e] at c8
              exact absurd c8 (by decide)
          · rw [if_neg c8, vp_g (by omega)]
            exact ⟨_, this.2, this.1⟩
    obtain ⟨m, hm, h⟩ := h
    rw [vN_nI h (by omega)]
    exact ⟨h, hm⟩
  · intro k hk
    unfold WOK
    rw [vN_eq _ _ (by omega) (by omega) (by omega) (by omega), vN_eq _ _ (by omega) (by omega) (by omega) (by omega), perf_g (by omega) (by omega) (by omega) (by omega), perf_g (by omega) (by omega) (by omega) (by omega), perf_g (by omega) (by omega) (by omega) (by omega)]
    exact vwk k hk
  · intro k hk
    rw [perf_g (by omega) (by omega) (by omega) (by omega), vN_eq _ _ (by omega) (by omega) (by omega) (by omega)]
    exact vcn k hk
/-- the reference's rows that WORKS don't change are V's -/
def MS (M : Mem) (V : Vw) (n nh ns nw : Nat) : Prop := M 44 0 0 = nI n ∧ M 44 0 1 = nI nh ∧ M 44 0 2 = nI ns ∧ M 44 0 3 = nI nw ∧ (∀ j, j < n → M 50 0 j = V 5 j) ∧ (∀ k, k < nh → M 56 k 0 = V 7 k) ∧ (∀ h, h < 24 → M 52 0 h = V 9 h)
  ∧ (∀ s, s < ns → M 60 s 0 = V 10 s ∧ M 60 s 2 = V 12 s ∧ M 60 s 3 = V 13 s) ∧ (∀ w, w < nw → M 64 w 0 = V 14 w - 3 ∧ M 64 w 1 = V 15 w ∧ M 64 w 2 = V 16 w ∧ M 64 w 3 = V 17 w)
/-- those that they change, as laid -/
def MD (M : Mem) (V : Vw) (n nh ns : Nat) : Prop := (∀ j, j < n → M 73 0 j = V 4 j ∧ M 74 0 j = V 6 j) ∧ (∀ k, k < nh → M 75 0 k = V 8 k) ∧ (∀ s, s < ns → M 76 0 s = V 11 s)
def sLay (g _i _k : Nat) : Bool := Nat.ble 73 g && Nat.ble g 76
theorem MS_perf {M : Mem} {V : Vw} {n nh ns nw w : Nat} (h : MS M V n nh ns nw) : MS M (perfV V w) n nh ns nw := by
  obtain ⟨h0, h1, h2, h3, h4, h5, h6, h7, h8⟩ := h
  refine ⟨h0, h1, h2, h3, fun j hj => ?_, fun k hk => ?_, fun k hk => ?_, fun s hs => ?_, fun k hk => ?_⟩
  · rw [perf_g (by omega) (by omega) (by omega) (by omega)]
    exact h4 j hj
  · rw [perf_g (by omega) (by omega) (by omega) (by omega)]
    exact h5 k hk
  · rw [perf_g (by omega) (by omega) (by omega) (by omega)]
    exact h6 k hk
  · rw [perf_g (by omega) (by omega) (by omega) (by omega), perf_g (by omega) (by omega) (by omega) (by omega), perf_g (by omega) (by omega) (by omega) (by omega)]
    exact h7 s hs
  · rw [perf_g (by omega) (by omega) (by omega) (by omega), perf_g (by omega) (by omega) (by omega) (by omega), perf_g (by omega) (by omega) (by omega) (by omega), perf_g (by omega) (by omega) (by omega) (by omega)]
    exact h8 k hk
theorem MG_of {M : Mem} {V : Vw} {n nh ns nw : Nat} (h : MS M V n nh ns nw) (h' : MD M V n nh ns) : MG M V n := ⟨h.1, fun j hj => ⟨(h'.1 j hj).1, h.2.2.2.2.1 j hj, (h'.1 j hj).2⟩⟩
section
variable (L : Nat) (xs : Nat → Int32) (O : Int64)
theorem wk_tar (d : Nat) (a1 : Int32) (a b : Nat) (hb : b < 40) (M0 : Mem) (Q : Mem → Prop) (hQ : ∀ M', Fr sLay M0 M' → (∀ j, j < 40 → M' 73 0 j = if a ≤ j ∧ j ≤ b then 2 else M0 73 0 j) → (∀ g j, g ≠ 73 → M' g 0 j = M0 g 0 j) → Q M') : ∀ r fuel k j M, j + r = b + 1 → r ≤ fuel → a ≤ j → Fr sLay M0 M →
    (∀ i, i < 40 → M 73 0 i = if a ≤ i ∧ i < j then 2 else M0 73 0 i) → (∀ g i, g ≠ 73 → M g 0 i = M0 g 0 i) →
    isV (BK L xs (EX L xs (d + 1)) mi_X7_works (RN L xs (d) mi_X7_works fuel) (k + 60) 65 [some (.inr (.inr (40, 0))), some (.inl (a1)), some (.inl (nI a)), some (.inl (nI b)), some (.inl (nI j))] [] M O none 0 0) O Q := by
  intro r
  induction r with
  | zero =>
    intro fuel k j M hj hf ha fr h hg
    simp (disch := first | omega | rfl | decide) only [e_X7_works_0, e_X7_works_26_c3, e_X7_works_26_c4, e_X7_works_26_c5, e_X7_works_26_d, e_X7_works_52, e_X7_works_62, e_X7_works_119, e_X7_works_88, e_X7_works_129, e_X7_works_65, e_X7_works_115, xr_v, xr_n, hl_of, hl_cl, hl_toInt, hl_le, hl_lt, hl_eq, nI_add, hl_sub, pk_mul, hl_div, if_pos, if_neg, ↓reduceIte, Nat.reduceAdd, Nat.reduceSub, Nat.reduceMul, Nat.add_zero, Nat.zero_add, mp_s, mp_k, mp_i, mp_g, mr_s, mr_i, mr_g, zlt_0, zlt_1, zlt_2, zlt_3, zlt_4, zlt_5, zlt_6, zlt_8, zlt_12, zlt_15, zlt_20, zlt_24, zlt_36, zlt_40, zlt_48, zlt_80, zlt_97, zlt_120, zlt_256, zlt_600, zlt_99999999, zadd_1, zadd_2, zadd_5, zadd_6, zadd_8, zadd_20, zadd_24, zeq_0, zeq_1, zeq_2, zeq_3, zeq_4, zeq_5, zeq_6, zeq_7, zeq_8, zeq_13, zeq_14, zeq_20, zeq_32, zeq_59, zeq_60, zeq_80, zmul_2, zmul_4, zmul_6, zmul_8, zmul_10, zmul_24, zsub_1, zsub_2, zsub_10, zsub_48, zsub_97, zle_0, zle_1, zle_2, zle_6, zle_11, zle_200, zle_600, zle_100000000, ylt_0, ylt_1, ylt_2, ylt_3, ylt_6, ylt_9, ylt_20, ylt_24, ylt_57, ylt_60, ylt_99, ylt_120, ylt_122, ylt_999, ylt_9999, yle_0, yle_2, yle_4, yle_5, yle_6, yle_7, yle_8, yle_10, yle_12, yle_13, yle_15, yle_16, yle_20, yle_24, yle_40, yle_60, yle_64, yle_80, yadd_1, yadd_22, ymul_2, ymul_4, ymul_6, ymul_8, ymul_10, ymul_24, ymul_27, ymul_100, ysub_1, ysub_24, zdiv_2, zdiv_4, zdiv_24]
    refine isV_i (hQ M fr (fun i hi => ?_) hg)
    rw [h i hi]
    by_cases c : a ≤ i ∧ i < j
    · rw [if_pos c, if_pos (by omega)]
    · rw [if_neg c, if_neg (by omega)]
  | succ r ih =>
    intro fuel k j M hj hf ha fr h hg
    obtain ⟨f, rfl⟩ : ∃ f, fuel = f + 1 := ⟨fuel - 1, by omega⟩
    simp (disch := first | omega | rfl | decide) only [e_X7_works_0, e_X7_works_26_c3, e_X7_works_26_c4, e_X7_works_26_c5, e_X7_works_26_d, e_X7_works_52, e_X7_works_62, e_X7_works_119, e_X7_works_88, e_X7_works_129, e_X7_works_65, e_X7_works_115, xr_v, xr_n, hl_of, hl_cl, hl_toInt, hl_le, hl_lt, hl_eq, nI_add, hl_sub, pk_mul, hl_div, if_pos, if_neg, ↓reduceIte, Nat.reduceAdd, Nat.reduceSub, Nat.reduceMul, Nat.add_zero, Nat.zero_add, mp_s, mp_k, mp_i, mp_g, mr_s, mr_i, mr_g, zlt_0, zlt_1, zlt_2, zlt_3, zlt_4, zlt_5, zlt_6, zlt_8, zlt_12, zlt_15, zlt_20, zlt_24, zlt_36, zlt_40, zlt_48, zlt_80, zlt_97, zlt_120, zlt_256, zlt_600, zlt_99999999, zadd_1, zadd_2, zadd_5, zadd_6, zadd_8, zadd_20, zadd_24, zeq_0, zeq_1, zeq_2, zeq_3, zeq_4, zeq_5, zeq_6, zeq_7, zeq_8, zeq_13, zeq_14, zeq_20, zeq_32, zeq_59, zeq_60, zeq_80, zmul_2, zmul_4, zmul_6, zmul_8, zmul_10, zmul_24, zsub_1, zsub_2, zsub_10, zsub_48, zsub_97, zle_0, zle_1, zle_2, zle_6, zle_11, zle_200, zle_600, zle_100000000, ylt_0, ylt_1, ylt_2, ylt_3, ylt_6, ylt_9, ylt_20, ylt_24, ylt_57, ylt_60, ylt_99, ylt_120, ylt_122, ylt_999, ylt_9999, yle_0, yle_2, yle_4, yle_5, yle_6, yle_7, yle_8, yle_10, yle_12, yle_13, yle_15, yle_16, yle_20, yle_24, yle_40, yle_60, yle_64, yle_80, yadd_1, yadd_22, ymul_2, ymul_4, ymul_6, ymul_8, ymul_10, ymul_24, ymul_27, ymul_100, ysub_1, ysub_24, zdiv_2, zdiv_4, zdiv_24]
    refine isV_e (RN_s _ _ _ _ _ _ _ _ _ _ _ _) ?_
    refine ih f _ (j + 1) _ (by omega) (by omega) (by omega) (Fr_put fr rfl) ?_ ?_
    · intro i hi
      by_cases e : i = j
      · rw [e, mp_s, if_pos (by omega)]
      · rw [mp_k e, h i hi]
        by_cases c : a ≤ i ∧ i < j
        · rw [if_pos c, if_pos (by omega)]
        · rw [if_neg c, if_neg (by omega)]
    · intro g i hgi
      rw [mp_g hgi]
      exact hg g i hgi
theorem x7_works {D : Nat} (hD : 2 ≤ D) {V : Vw} {n nh ns nw w : Nat} (hV : VOK V n nh ns nw) (hw : w < nw) (M : Mem) (hS : MS M V n nh ns nw) (hM : MD M V n nh ns) :
    isV (EX L xs (D) q_X7_works [.inr (.inr (40, 0)), .inl (nI w)] M O) O (fun M' => Fr sLay M M' ∧ MD M' (perfV V w) n nh ns) := by
  have hV' := hV
  obtain ⟨v0, v1, v2, v3, v4, v5, v6, v7, v8, vk, vh, vw, vc, vs, vl, vwk, vcn⟩ := hV
  obtain ⟨w1, w2, w3⟩ := vwk w hw
  obtain ⟨s0, s1, s2, s3⟩ := hS.2.2.2.2.2.2.2.2 w hw
  obtain ⟨m1, m2, m3⟩ := hM
  have hin : 0 ≤ (nI w).toInt ∧ (nI w).toInt < 8 := in_8 (show w < 8 by omega)
  obtain ⟨d, rfl⟩ : ∃ d, D = d + 2 := ⟨D - 2, by omega⟩
  refine isV_e (EX_in mi_X7_works rfl rfl rfl (ls := [some (.inr (.inr (40, 0))), some (.inl (nI w)), none, none, none]) rfl) ?_
  rw [e_X7_works_0, if_pos hin, if_pos hin, if_pos hin, hl_cl (by omega), Nat.zero_add, s0, s1, s2, w1, w2]
  rcases w3 with ⟨c, ha, hb⟩ | ⟨c, ha, hb⟩ | ⟨c, ha, hb⟩ | ⟨c, ha, hb⟩
  · rw [c, show (6 - 3 : Int32) = 3 by decide, e_X7_works_26_c3]
    have e : perfV V w = vput V 6 (vN V 15 w) (V 16 w) := if_pos c
    simp (disch := first | omega | rfl | decide) only [e_X7_works_52, e_X7_works_129, xr_v, xr_n, hl_of, hl_cl, hl_toInt, hl_le, hl_lt, hl_eq, nI_add, hl_sub, pk_mul, hl_div, if_pos, if_neg, ↓reduceIte, Nat.reduceAdd, Nat.reduceSub, Nat.reduceMul, Nat.add_zero, Nat.zero_add, mp_s, mp_k, mp_i, mp_g, mr_s, mr_i, mr_g, zlt_0, zlt_1, zlt_2, zlt_3, zlt_4, zlt_5, zlt_6, zlt_8, zlt_12, zlt_15, zlt_20, zlt_24, zlt_36, zlt_40, zlt_48, zlt_80, zlt_97, zlt_120, zlt_256, zlt_600, zlt_99999999, zadd_1, zadd_2, zadd_5, zadd_6, zadd_8, zadd_20, zadd_24, zeq_0, zeq_1, zeq_2, zeq_3, zeq_4, zeq_5, zeq_6, zeq_7, zeq_8, zeq_13, zeq_14, zeq_20, zeq_32, zeq_59, zeq_60, zeq_80, zmul_2, zmul_4, zmul_6, zmul_8, zmul_10, zmul_24, zsub_1, zsub_2, zsub_10, zsub_48, zsub_97, zle_0, zle_1, zle_2, zle_6, zle_11, zle_200, zle_600, zle_100000000, ylt_0, ylt_1, ylt_2, ylt_3, ylt_6, ylt_9, ylt_20, ylt_24, ylt_57, ylt_60, ylt_99, ylt_120, ylt_122, ylt_999, ylt_9999, yle_0, yle_2, yle_4, yle_5, yle_6, yle_7, yle_8, yle_10, yle_12, yle_13, yle_15, yle_16, yle_20, yle_24, yle_40, yle_60, yle_64, yle_80, yadd_1, yadd_22, ymul_2, ymul_4, ymul_6, ymul_8, ymul_10, ymul_24, ymul_27, ymul_100, ysub_1, ysub_24, zdiv_2, zdiv_4, zdiv_24]
    refine isV_i ⟨Fr_put Fr_refl rfl, fun j hj => ?_, fun k hk => ?_, fun s hs => ?_⟩
    · rw [e, mp_g (by omega), vp_g (by omega)]
      refine ⟨(m1 j hj).1, ?_⟩
      by_cases ej : j = vN V 15 w
      · rw [ej, mp_s, vp_s, w2]
      · rw [mp_k ej, vp_k ej]
        exact (m1 j hj).2
    · rw [e, mp_g (by omega), vp_g (by omega)]
      exact m2 k hk
    · rw [e, mp_g (by omega), vp_g (by omega)]
      exact m3 s hs
  · rw [c, show (7 - 3 : Int32) = 4 by decide, e_X7_works_26_c4, e_X7_works_62]
    have e : perfV V w = vtar V (vN V 15 w) (vN V 16 w) := (if_neg (by rw [c]; decide)).trans (if_pos c)
    refine wk_tar L xs O d _ _ _ (by omega) M _ ?_ (vN V 16 w + 1 - vN V 15 w) FUEL _ (vN V 15 w) M (by omega) (Nat.le_of_lt (FU (by omega))) (Nat.le_refl _) Fr_refl ?_ (fun _ _ _ => rfl)
    · intro M' fr h hg
      refine ⟨fr, fun j hj => ?_, fun k hk => ?_, fun s hs => ?_⟩
      · rw [e, h j (by omega), hg 74 j (by omega)]
        refine ⟨?_, (m1 j hj).2.trans (if_neg (by omega)).symm⟩
        unfold vtar
        by_cases cc : vN V 15 w ≤ j ∧ j ≤ vN V 16 w
        · rw [if_pos cc, if_pos ⟨rfl, cc⟩]
        · rw [if_neg cc, if_neg (fun h => cc h.2)]
          exact (m1 j hj).1
      · rw [e, hg 75 k (by omega)]
        exact (m2 k hk).trans (if_neg (by omega)).symm
      · rw [e, hg 76 s (by omega)]
        exact (m3 s hs).trans (if_neg (by omega)).symm
    · intro i hi
      rw [if_neg (by omega)]
  · rw [c, show (8 - 3 : Int32) = 5 by decide, e_X7_works_26_c5]
    have e : perfV V w = vput V 11 (vN V 15 w) (imax 0 (V 11 (vN V 15 w) - V 16 w)) := (if_neg (by rw [c]; decide)).trans ((if_neg (by rw [c]; decide)).trans (if_pos c))
    have h11 := vl _ ha
    have g76 := m3 _ ha
    rw [h11.1] at g76
    rw [h11.1, w2, lv_less h11.2 hb] at e
    have fin : ∀ v, v = nI (vN V 11 (vN V 15 w) - vN V 16 w) → isV ((some (.inl none, mput M 76 0 (vN V 15 w) v, O, 0, 0) : Res)) O (fun M' => Fr sLay M M' ∧ MD M' (perfV V w) n nh ns) := by
      intro v hv
      refine isV_i ⟨Fr_put Fr_refl rfl, fun j hj => ?_, fun k hk => ?_, fun s hs => ?_⟩
      · rw [e, mp_g (by omega), mp_g (by omega), vp_g (by omega), vp_g (by omega)]
        exact m1 j hj
      · rw [e, mp_g (by omega), vp_g (by omega)]
        exact m2 k hk
      · rw [e]
        by_cases es : s = vN V 15 w
        · rw [es, mp_s, vp_s, hv]
        · rw [mp_k es, vp_k es]
          exact m3 s hs
    by_cases hle : vN V 11 (vN V 15 w) ≤ vN V 16 w
    · simp (disch := first | omega | rfl | decide) only [e_X7_works_88, e_X7_works_115, e_X7_works_129, xr_v, xr_n, hl_of, hl_cl, hl_toInt, hl_le, hl_lt, hl_eq, nI_add, hl_sub, pk_mul, hl_div, if_pos, if_neg, ↓reduceIte, Nat.reduceAdd, Nat.reduceSub, Nat.reduceMul, Nat.add_zero, Nat.zero_add, mp_s, mp_k, mp_i, mp_g, mr_s, mr_i, mr_g, zlt_0, zlt_1, zlt_2, zlt_3, zlt_4, zlt_5, zlt_6, zlt_8, zlt_12, zlt_15, zlt_20, zlt_24, zlt_36, zlt_40, zlt_48, zlt_80, zlt_97, zlt_120, zlt_256, zlt_600, zlt_99999999, zadd_1, zadd_2, zadd_5, zadd_6, zadd_8, zadd_20, zadd_24, zeq_0, zeq_1, zeq_2, zeq_3, zeq_4, zeq_5, zeq_6, zeq_7, zeq_8, zeq_13, zeq_14, zeq_20, zeq_32, zeq_59, zeq_60, zeq_80, zmul_2, zmul_4, zmul_6, zmul_8, zmul_10, zmul_24, zsub_1, zsub_2, zsub_10, zsub_48, zsub_97, zle_0, zle_1, zle_2, zle_6, zle_11, zle_200, zle_600, zle_100000000, ylt_0, ylt_1, ylt_2, ylt_3, ylt_6, ylt_9, ylt_20, ylt_24, ylt_57, ylt_60, ylt_99, ylt_120, ylt_122, ylt_999, ylt_9999, yle_0, yle_2, yle_4, yle_5, yle_6, yle_7, yle_8, yle_10, yle_12, yle_13, yle_15, yle_16, yle_20, yle_24, yle_40, yle_60, yle_64, yle_80, yadd_1, yadd_22, ymul_2, ymul_4, ymul_6, ymul_8, ymul_10, ymul_24, ymul_27, ymul_100, ysub_1, ysub_24, zdiv_2, zdiv_4, zdiv_24, g76]
      exact fin _ (by rw [show vN V 11 (vN V 15 w) - vN V 16 w = 0 by omega]; rfl)
    · simp (disch := first | omega | rfl | decide) only [e_X7_works_88, e_X7_works_115, e_X7_works_129, xr_v, xr_n, hl_of, hl_cl, hl_toInt, hl_le, hl_lt, hl_eq, nI_add, hl_sub, pk_mul, hl_div, if_pos, if_neg, ↓reduceIte, Nat.reduceAdd, Nat.reduceSub, Nat.reduceMul, Nat.add_zero, Nat.zero_add, mp_s, mp_k, mp_i, mp_g, mr_s, mr_i, mr_g, zlt_0, zlt_1, zlt_2, zlt_3, zlt_4, zlt_5, zlt_6, zlt_8, zlt_12, zlt_15, zlt_20, zlt_24, zlt_36, zlt_40, zlt_48, zlt_80, zlt_97, zlt_120, zlt_256, zlt_600, zlt_99999999, zadd_1, zadd_2, zadd_5, zadd_6, zadd_8, zadd_20, zadd_24, zeq_0, zeq_1, zeq_2, zeq_3, zeq_4, zeq_5, zeq_6, zeq_7, zeq_8, zeq_13, zeq_14, zeq_20, zeq_32, zeq_59, zeq_60, zeq_80, zmul_2, zmul_4, zmul_6, zmul_8, zmul_10, zmul_24, zsub_1, zsub_2, zsub_10, zsub_48, zsub_97, zle_0, zle_1, zle_2, zle_6, zle_11, zle_200, zle_600, zle_100000000, ylt_0, ylt_1, ylt_2, ylt_3, ylt_6, ylt_9, ylt_20, ylt_24, ylt_57, ylt_60, ylt_99, ylt_120, ylt_122, ylt_999, ylt_9999, yle_0, yle_2, yle_4, yle_5, yle_6, yle_7, yle_8, yle_10, yle_12, yle_13, yle_15, yle_16, yle_20, yle_24, yle_40, yle_60, yle_64, yle_80, yadd_1, yadd_22, ymul_2, ymul_4, ymul_6, ymul_8, ymul_10, ymul_24, ymul_27, ymul_100, ysub_1, ysub_24, zdiv_2, zdiv_4, zdiv_24, g76]
      exact fin _ rfl
  · rw [c, show (9 - 3 : Int32) = 6 by decide, e_X7_works_26_d _ _ _ _ _ _ _ _ _ _ _ _ _ _ 6 (by decide)]
    have e : perfV V w = vput V 8 (vN V 15 w) (V 8 (vN V 15 w) + V 16 w) := (if_neg (by rw [c]; decide)).trans ((if_neg (by rw [c]; decide)).trans (if_neg (by rw [c]; decide)))
    simp (disch := first | omega | rfl | decide) only [e_X7_works_119, e_X7_works_129, xr_v, xr_n, hl_of, hl_cl, hl_toInt, hl_le, hl_lt, hl_eq, nI_add, hl_sub, pk_mul, hl_div, if_pos, if_neg, ↓reduceIte, Nat.reduceAdd, Nat.reduceSub, Nat.reduceMul, Nat.add_zero, Nat.zero_add, mp_s, mp_k, mp_i, mp_g, mr_s, mr_i, mr_g, zlt_0, zlt_1, zlt_2, zlt_3, zlt_4, zlt_5, zlt_6, zlt_8, zlt_12, zlt_15, zlt_20, zlt_24, zlt_36, zlt_40, zlt_48, zlt_80, zlt_97, zlt_120, zlt_256, zlt_600, zlt_99999999, zadd_1, zadd_2, zadd_5, zadd_6, zadd_8, zadd_20, zadd_24, zeq_0, zeq_1, zeq_2, zeq_3, zeq_4, zeq_5, zeq_6, zeq_7, zeq_8, zeq_13, zeq_14, zeq_20, zeq_32, zeq_59, zeq_60, zeq_80, zmul_2, zmul_4, zmul_6, zmul_8, zmul_10, zmul_24, zsub_1, zsub_2, zsub_10, zsub_48, zsub_97, zle_0, zle_1, zle_2, zle_6, zle_11, zle_200, zle_600, zle_100000000, ylt_0, ylt_1, ylt_2, ylt_3, ylt_6, ylt_9, ylt_20, ylt_24, ylt_57, ylt_60, ylt_99, ylt_120, ylt_122, ylt_999, ylt_9999, yle_0, yle_2, yle_4, yle_5, yle_6, yle_7, yle_8, yle_10, yle_12, yle_13, yle_15, yle_16, yle_20, yle_24, yle_40, yle_60, yle_64, yle_80, yadd_1, yadd_22, ymul_2, ymul_4, ymul_6, ymul_8, ymul_10, ymul_24, ymul_27, ymul_100, ysub_1, ysub_24, zdiv_2, zdiv_4, zdiv_24]
    refine isV_i ⟨Fr_put Fr_refl rfl, fun j hj => ?_, fun k hk => ?_, fun s hs => ?_⟩
    · rw [e, mp_g (by omega), mp_g (by omega), vp_g (by omega), vp_g (by omega)]
      exact m1 j hj
    · rw [e]
      by_cases es : k = vN V 15 w
      · rw [es, mp_s, vp_s, m2 _ ha, w2]
      · rw [mp_k es, vp_k es]
        exact m2 k hk
    · rw [e, mp_g (by omega), vp_g (by omega)]
      exact m3 s hs
end
