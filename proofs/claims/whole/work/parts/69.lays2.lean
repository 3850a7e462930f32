/-! The reference lays its LAND, lays how LOUD its SOURCES are. -/
def perfL (T : Vw) (f : Nat → Nat) : Nat → Vw
  | 0 => T
  | k + 1 => perfV (perfL T f k) (f k)
theorem perfL_ok {T : Vw} {n nh ns nw : Nat} (h : VOK T n nh ns nw) (f : Nat → Nat) : ∀ k, (∀ i, i < k → f i < nw) → VOK (perfL T f k) n nh ns nw := by
  intro k
  induction k with
  | zero => intro _; exact h
  | succ k ih => intro hf; exact perf_ok (ih (fun i hi => hf i (by omega))) (hf k (by omega))
theorem perfL_MS {M : Mem} {T : Vw} {n nh ns nw : Nat} (h : MS M T n nh ns nw) (f : Nat → Nat) : ∀ k, MS M (perfL T f k) n nh ns nw := by
  intro k
  induction k with
  | zero => exact h
  | succ k ih => exact MS_perf ih
theorem MS_fr {S : Nat → Nat → Nat → Bool} {M M' : Mem} {V : Vw} {n nh ns nw : Nat} (h : MS M V n nh ns nw) (fr : Fr S M M') (hs : ∀ g i k, 44 ≤ g → g ≤ 64 → S g i k = false) : MS M' V n nh ns nw := by
  obtain ⟨h0, h1, h2, h3, h4, h5, h6, h7, h8⟩ := h
  have e : ∀ g i k, 44 ≤ g → g ≤ 64 → M' g i k = M g i k := fun g i k a b => fr g i k (hs g i k a b)
  refine ⟨?_, ?_, ?_, ?_, fun j hj => ?_, fun k hk => ?_, fun k hk => ?_, fun s hs => ?_, fun k hk => ?_⟩
  · rw [e _ _ _ (by omega) (by omega)]; exact h0
  · rw [e _ _ _ (by omega) (by omega)]; exact h1
  · rw [e _ _ _ (by omega) (by omega)]; exact h2
  · rw [e _ _ _ (by omega) (by omega)]; exact h3
  · rw [e _ _ _ (by omega) (by omega)]; exact h4 j hj
  · rw [e _ _ _ (by omega) (by omega)]; exact h5 k hk
  · rw [e _ _ _ (by omega) (by omega)]; exact h6 k hk
  · rw [e _ _ _ (by omega) (by omega), e _ _ _ (by omega) (by omega), e _ _ _ (by omega) (by omega)]; exact h7 s hs
  · rw [e _ _ _ (by omega) (by omega), e _ _ _ (by omega) (by omega), e _ _ _ (by omega) (by omega), e _ _ _ (by omega) (by omega)]; exact h8 k hk
/-- the reference's LAND as told, where WORKS change it -/
def MT (M : Mem) (T : Vw) (n nh ns : Nat) : Prop := (∀ j, j < n → M 49 0 j = T 4 j ∧ M 51 0 j = T 6 j) ∧ (∀ k, k < nh → M 56 k 1 = T 8 k) ∧ (∀ s, s < ns → M 60 s 1 = T 11 s)
def MO (M : Mem) (f : Nat → Nat) (nd nw : Nat) : Prop := M 40 0 29 = nI nd ∧ nd ≤ 8 ∧ ∀ i, i < nd → M 68 0 i = nI (f i) ∧ f i < nw
theorem sLay_s {g i k : Nat} (h : 44 ≤ g) (h2 : g ≤ 64) : sLay g i k = false := by
  unfold sLay
  rw [Bool.and_eq_false_iff]
  left
  cases e : Nat.ble 73 g with
  | false => rfl
  | true =>
    have := Nat.le_of_ble_eq_true e
    omega
section
variable (L : Nat) (xs : Nat → Int32) (O : Int64)
theorem lay1 (d : Nat) {T : Vw} {n nh ns nw : Nat} (v5 : n ≤ 40) (M0 : Mem) (hS : MS M0 T n nh ns nw) (hT : MT M0 T n nh ns) (P : Res → Prop) : ∀ r fuel k j M, j + r = n → r ≤ fuel → Fr sLay M0 M → (∀ i, i < j → M 73 0 i = T 4 i ∧ M 74 0 i = T 6 i) →
    (∀ f' k' M', fuel ≤ f' + r → Fr sLay M0 M' → (∀ i, i < n → M' 73 0 i = T 4 i ∧ M' 74 0 i = T 6 i) → P (BK L xs (EX L xs (d + 1)) mi_X7_lays (RN L xs (d) mi_X7_lays (f')) (k' + 900) 44 [some (.inr (.inr (40, 0))), some (.inl (0))] [] M' O none 0 0)) →
    P (BK L xs (EX L xs (d + 1)) mi_X7_lays (RN L xs (d) mi_X7_lays fuel) (k + 1000) 2 [some (.inr (.inr (40, 0))), some (.inl (nI j))] [] M O none 0 0) := by
  intro r
  induction r with
  | zero =>
    intro fuel k j M hj hf fr h hex
    have h44 : M 44 0 0 = nI n := (fr 44 0 0 rfl).trans hS.1
    rw [e_X7_lays_2, h44, if_pos (by rw [hl_le (by omega) (by omega)]; omega)]
    exact hex fuel _ M (by omega) fr (fun i hi => h i (by omega))
  | succ r ih =>
    intro fuel k j M hj hf fr h hex
    obtain ⟨f, rfl⟩ : ∃ f, fuel = f + 1 := ⟨fuel - 1, by omega⟩
    have h44 : M 44 0 0 = nI n := (fr 44 0 0 rfl).trans hS.1
    have g49 := (fr 49 0 j rfl).trans (hT.1 j (by omega)).1
    have g51 := (fr 51 0 j rfl).trans (hT.1 j (by omega)).2
    simp (disch := first | omega | rfl | decide) only [e_X7_lays_2, xr_v, xr_n, hl_of, hl_cl, hl_toInt, hl_le, hl_lt, hl_eq, nI_add, hl_sub, pk_mul, hl_div, if_pos, if_neg, ↓reduceIte, Nat.reduceAdd, Nat.reduceSub, Nat.reduceMul, Nat.add_zero, Nat.zero_add, mp_s, mp_k, mp_i, mp_g, mr_s, mr_i, mr_g, zlt_0, zlt_1, zlt_2, zlt_3, zlt_4, zlt_5, zlt_6, zlt_8, zlt_12, zlt_15, zlt_20, zlt_24, zlt_36, zlt_40, zlt_48, zlt_80, zlt_97, zlt_120, zlt_256, zlt_600, zlt_99999999, zadd_1, zadd_2, zadd_5, zadd_6, zadd_8, zadd_20, zadd_24, zeq_0, zeq_1, zeq_2, zeq_3, zeq_4, zeq_5, zeq_6, zeq_7, zeq_8, zeq_13, zeq_14, zeq_20, zeq_32, zeq_59, zeq_60, zeq_80, zmul_2, zmul_4, zmul_6, zmul_8, zmul_10, zmul_24, zsub_1, zsub_2, zsub_10, zsub_48, zsub_97, zle_0, zle_1, zle_2, zle_6, zle_11, zle_200, zle_600, zle_100000000, ylt_0, ylt_1, ylt_2, ylt_3, ylt_6, ylt_9, ylt_20, ylt_24, ylt_57, ylt_60, ylt_99, ylt_120, ylt_122, ylt_999, ylt_9999, yle_0, yle_2, yle_4, yle_5, yle_6, yle_7, yle_8, yle_10, yle_12, yle_13, yle_15, yle_16, yle_20, yle_24, yle_40, yle_60, yle_64, yle_80, yadd_1, yadd_22, ymul_2, ymul_4, ymul_6, ymul_8, ymul_10, ymul_24, ymul_27, ymul_100, ysub_1, ysub_24, zdiv_2, zdiv_4, zdiv_24, h44, g49, g51]
    refine P_e (RN_s _ _ _ _ _ _ _ _ _ _ _ _) ?_
    refine ih f _ (j + 1) _ (by omega) (by omega) (Fr_put (Fr_put fr rfl) rfl) ?_ (fun f' k' M' e => hex f' k' M' (by omega))
    intro i hi
    by_cases e : i = j
    · rw [e, mp_g (by omega), mp_s, mp_s]
      exact ⟨rfl, rfl⟩
    · rw [mp_g (by omega), mp_k e, mp_k e, mp_g (by omega)]
      exact h i (by omega)
theorem lay2 (d : Nat) {T : Vw} {n nh ns nw : Nat} (v6 : nh ≤ 8) (M0 : Mem) (hS : MS M0 T n nh ns nw) (hT : MT M0 T n nh ns) (P : Res → Prop) : ∀ r fuel k j M, j + r = nh → r ≤ fuel → Fr sLay M0 M → (∀ i, i < n → M 73 0 i = T 4 i ∧ M 74 0 i = T 6 i) → (∀ i, i < j → M 75 0 i = T 8 i) →
    (∀ f' k' M', fuel ≤ f' + r → Fr sLay M0 M' → (∀ i, i < n → M' 73 0 i = T 4 i ∧ M' 74 0 i = T 6 i) → (∀ i, i < nh → M' 75 0 i = T 8 i) → P (BK L xs (EX L xs (d + 1)) mi_X7_lays (RN L xs (d) mi_X7_lays (f')) (k' + 800) 76 [some (.inr (.inr (40, 0))), some (.inl (0))] [] M' O none 0 0)) →
    P (BK L xs (EX L xs (d + 1)) mi_X7_lays (RN L xs (d) mi_X7_lays fuel) (k + 900) 44 [some (.inr (.inr (40, 0))), some (.inl (nI j))] [] M O none 0 0) := by
  intro r
  induction r with
  | zero =>
    intro fuel k j M hj hf fr h1 h hex
    have h44 : M 44 0 1 = nI nh := (fr 44 0 1 rfl).trans hS.2.1
    rw [e_X7_lays_44, h44, if_pos (by rw [hl_le (by omega) (by omega)]; omega)]
    exact hex fuel _ M (by omega) fr h1 (fun i hi => h i (by omega))
  | succ r ih =>
    intro fuel k j M hj hf fr h1 h hex
    obtain ⟨f, rfl⟩ : ∃ f, fuel = f + 1 := ⟨fuel - 1, by omega⟩
    have h44 : M 44 0 1 = nI nh := (fr 44 0 1 rfl).trans hS.2.1
    have g56 := (fr 56 j 1 rfl).trans (hT.2.1 j (by omega))
    simp (disch := first | omega | rfl | decide) only [e_X7_lays_44, xr_v, xr_n, hl_of, hl_cl, hl_toInt, hl_le, hl_lt, hl_eq, nI_add, hl_sub, pk_mul, hl_div, if_pos, if_neg, ↓reduceIte, Nat.reduceAdd, Nat.reduceSub, Nat.reduceMul, Nat.add_zero, Nat.zero_add, mp_s, mp_k, mp_i, mp_g, mr_s, mr_i, mr_g, zlt_0, zlt_1, zlt_2, zlt_3, zlt_4, zlt_5, zlt_6, zlt_8, zlt_12, zlt_15, zlt_20, zlt_24, zlt_36, zlt_40, zlt_48, zlt_80, zlt_97, zlt_120, zlt_256, zlt_600, zlt_99999999, zadd_1, zadd_2, zadd_5, zadd_6, zadd_8, zadd_20, zadd_24, zeq_0, zeq_1, zeq_2, zeq_3, zeq_4, zeq_5, zeq_6, zeq_7, zeq_8, zeq_13, zeq_14, zeq_20, zeq_32, zeq_59, zeq_60, zeq_80, zmul_2, zmul_4, zmul_6, zmul_8, zmul_10, zmul_24, zsub_1, zsub_2, zsub_10, zsub_48, zsub_97, zle_0, zle_1, zle_2, zle_6, zle_11, zle_200, zle_600, zle_100000000, ylt_0, ylt_1, ylt_2, ylt_3, ylt_6, ylt_9, ylt_20, ylt_24, ylt_57, ylt_60, ylt_99, ylt_120, ylt_122, ylt_999, ylt_9999, yle_0, yle_2, yle_4, yle_5, yle_6, yle_7, yle_8, yle_10, yle_12, yle_13, yle_15, yle_16, yle_20, yle_24, yle_40, yle_60, yle_64, yle_80, yadd_1, yadd_22, ymul_2, ymul_4, ymul_6, ymul_8, ymul_10, ymul_24, ymul_27, ymul_100, ysub_1, ysub_24, zdiv_2, zdiv_4, zdiv_24, h44, g56]
    refine P_e (RN_s _ _ _ _ _ _ _ _ _ _ _ _) ?_
    refine ih f _ (j + 1) _ (by omega) (by omega) (Fr_put fr rfl) ?_ ?_ (fun f' k' M' e => hex f' k' M' (by omega))
    · intro i hi
      rw [mp_g (by omega), mp_g (by omega)]
      exact h1 i hi
    · intro i hi
      by_cases e : i = j
      · rw [e, mp_s]
      · rw [mp_k e]
        exact h i (by omega)
theorem lay3 (d : Nat) {T : Vw} {n nh ns nw : Nat} (v7 : ns ≤ 6) (M0 : Mem) (hS : MS M0 T n nh ns nw) (hT : MT M0 T n nh ns) (P : Res → Prop) : ∀ r fuel k j M, j + r = ns → r ≤ fuel → Fr sLay M0 M → (∀ i, i < n → M 73 0 i = T 4 i ∧ M 74 0 i = T 6 i) → (∀ i, i < nh → M 75 0 i = T 8 i) → (∀ i, i < j → M 76 0 i = T 11 i) →
    (∀ f' k' M', fuel ≤ f' + r → Fr sLay M0 M' → MD M' T n nh ns → P (BK L xs (EX L xs (d + 1)) mi_X7_lays (RN L xs (d) mi_X7_lays (f')) (k' + 700) 108 [some (.inr (.inr (40, 0))), some (.inl (0))] [] M' O none 0 0)) →
    P (BK L xs (EX L xs (d + 1)) mi_X7_lays (RN L xs (d) mi_X7_lays fuel) (k + 800) 76 [some (.inr (.inr (40, 0))), some (.inl (nI j))] [] M O none 0 0) := by
  intro r
  induction r with
  | zero =>
    intro fuel k j M hj hf fr h1 h2 h hex
    have h44 : M 44 0 2 = nI ns := (fr 44 0 2 rfl).trans hS.2.2.1
    rw [e_X7_lays_76, h44, if_pos (by rw [hl_le (by omega) (by omega)]; omega)]
    exact hex fuel _ M (by omega) fr ⟨h1, h2, fun i hi => h i (by omega)⟩
  | succ r ih =>
    intro fuel k j M hj hf fr h1 h2 h hex
    obtain ⟨f, rfl⟩ : ∃ f, fuel = f + 1 := ⟨fuel - 1, by omega⟩
    have h44 : M 44 0 2 = nI ns := (fr 44 0 2 rfl).trans hS.2.2.1
    have g60 := (fr 60 j 1 rfl).trans (hT.2.2 j (by omega))
    simp (disch := first | omega | rfl | decide) only [e_X7_lays_76, xr_v, xr_n, hl_of, hl_cl, hl_toInt, hl_le, hl_lt, hl_eq, nI_add, hl_sub, pk_mul, hl_div, if_pos, if_neg, ↓reduceIte, Nat.reduceAdd, Nat.reduceSub, Nat.reduceMul, Nat.add_zero, Nat.zero_add, mp_s, mp_k, mp_i, mp_g, mr_s, mr_i, mr_g, zlt_0, zlt_1, zlt_2, zlt_3, zlt_4, zlt_5, zlt_6, zlt_8, zlt_12, zlt_15, zlt_20, zlt_24, zlt_36, zlt_40, zlt_48, zlt_80, zlt_97, zlt_120, zlt_256, zlt_600, zlt_99999999, zadd_1, zadd_2, zadd_5, zadd_6, zadd_8, zadd_20, zadd_24, zeq_0, zeq_1, zeq_2, zeq_3, zeq_4, zeq_5, zeq_6, zeq_7, zeq_8, zeq_13, zeq_14, zeq_20, zeq_32, zeq_59, zeq_60, zeq_80, zmul_2, zmul_4, zmul_6, zmul_8, zmul_10, zmul_24, zsub_1, zsub_2, zsub_10, zsub_48, zsub_97, zle_0, zle_1, zle_2, zle_6, zle_11, zle_200, zle_600, zle_100000000, ylt_0, ylt_1, ylt_2, ylt_3, ylt_6, ylt_9, ylt_20, ylt_24, ylt_57, ylt_60, ylt_99, ylt_120, ylt_122, ylt_999, ylt_9999, yle_0, yle_2, yle_4, yle_5, yle_6, yle_7, yle_8, yle_10, yle_12, yle_13, yle_15, yle_16, yle_20, yle_24, yle_40, yle_60, yle_64, yle_80, yadd_1, yadd_22, ymul_2, ymul_4, ymul_6, ymul_8, ymul_10, ymul_24, ymul_27, ymul_100, ysub_1, ysub_24, zdiv_2, zdiv_4, zdiv_24, h44, g60]
    refine P_e (RN_s _ _ _ _ _ _ _ _ _ _ _ _) ?_
    refine ih f _ (j + 1) _ (by omega) (by omega) (Fr_put fr rfl) ?_ ?_ ?_ (fun f' k' M' e => hex f' k' M' (by omega))
    · intro i hi
      rw [mp_g (by omega), mp_g (by omega)]
      exact h1 i hi
    · intro i hi
      rw [mp_g (by omega)]
      exact h2 i hi
    · intro i hi
      by_cases e : i = j
      · rw [e, mp_s]
      · rw [mp_k e]
        exact h i (by omega)
theorem lay4 (d : Nat) (hd : 2 ≤ d + 1) {T : Vw} {n nh ns nw nd : Nat} {w : Nat → Nat} (hV : VOK T n nh ns nw) (M0 : Mem) (hS : MS M0 T n nh ns nw) (hO : MO M0 w nd nw) (Q : Mem → Prop) (hQ : ∀ M', Fr sLay M0 M' → MD M' (perfL T w nd) n nh ns → Q M') : ∀ r fuel k j M, j + r = nd → r ≤ fuel → Fr sLay M0 M → MD M (perfL T w j) n nh ns →
    isV (BK L xs (EX L xs (d + 1)) mi_X7_lays (RN L xs (d) mi_X7_lays fuel) (k + 700) 108 [some (.inr (.inr (40, 0))), some (.inl (nI j))] [] M O none 0 0) O Q := by
  obtain ⟨o1, o2, o3⟩ := hO
  intro r
  induction r with
  | zero =>
    intro fuel k j M hj hf fr h
    obtain rfl : j = nd := by omega
    have h40 : M 40 0 29 = nI j := (fr 40 0 29 rfl).trans o1
    rw [e_X7_lays_108, h40, if_pos (by rw [hl_le (by omega) (by omega)]; omega)]
    exact isV_i (hQ M fr h)
  | succ r ih =>
    intro fuel k j M hj hf fr h
    obtain ⟨f, rfl⟩ : ∃ f, fuel = f + 1 := ⟨fuel - 1, by omega⟩
    have h40 : M 40 0 29 = nI nd := (fr 40 0 29 rfl).trans o1
    have g68 := (fr 68 0 j rfl).trans (o3 j (by omega)).1
    obtain ⟨M1, q1, f1, m1⟩ := x7_works L xs O (D := d + 1) (by omega) (perfL_ok hV w j (fun i hi => (o3 i (by omega)).2)) (o3 j (by omega)).2 M (MS_fr (perfL_MS hS w j) fr (fun _ _ _ => sLay_s)) h
    simp (disch := first | omega | rfl | decide) only [e_X7_lays_108, e_X7_lays_126, xr_v, xr_n, hl_of, hl_cl, hl_toInt, hl_le, hl_lt, hl_eq, nI_add, hl_sub, pk_mul, hl_div, if_pos, if_neg, ↓reduceIte, Nat.reduceAdd, Nat.reduceSub, Nat.reduceMul, Nat.add_zero, Nat.zero_add, mp_s, mp_k, mp_i, mp_g, mr_s, mr_i, mr_g, zlt_0, zlt_1, zlt_2, zlt_3, zlt_4, zlt_5, zlt_6, zlt_8, zlt_12, zlt_15, zlt_20, zlt_24, zlt_36, zlt_40, zlt_48, zlt_80, zlt_97, zlt_120, zlt_256, zlt_600, zlt_99999999, zadd_1, zadd_2, zadd_5, zadd_6, zadd_8, zadd_20, zadd_24, zeq_0, zeq_1, zeq_2, zeq_3, zeq_4, zeq_5, zeq_6, zeq_7, zeq_8, zeq_13, zeq_14, zeq_20, zeq_32, zeq_59, zeq_60, zeq_80, zmul_2, zmul_4, zmul_6, zmul_8, zmul_10, zmul_24, zsub_1, zsub_2, zsub_10, zsub_48, zsub_97, zle_0, zle_1, zle_2, zle_6, zle_11, zle_200, zle_600, zle_100000000, ylt_0, ylt_1, ylt_2, ylt_3, ylt_6, ylt_9, ylt_20, ylt_24, ylt_57, ylt_60, ylt_99, ylt_120, ylt_122, ylt_999, ylt_9999, yle_0, yle_2, yle_4, yle_5, yle_6, yle_7, yle_8, yle_10, yle_12, yle_13, yle_15, yle_16, yle_20, yle_24, yle_40, yle_60, yle_64, yle_80, yadd_1, yadd_22, ymul_2, ymul_4, ymul_6, ymul_8, ymul_10, ymul_24, ymul_27, ymul_100, ysub_1, ysub_24, zdiv_2, zdiv_4, zdiv_24, h40, g68, q1]
    refine isV_e (RN_s _ _ _ _ _ _ _ _ _ _ _ _) ?_
    exact ih f _ (j + 1) M1 (by omega) (by omega) (Fr_trans fr f1) m1
theorem x7_lays {D : Nat} (hD : 3 ≤ D) {T : Vw} {n nh ns nw nd : Nat} {w : Nat → Nat} (hV : VOK T n nh ns nw) (M : Mem) (hS : MS M T n nh ns nw) (hT : MT M T n nh ns) (hO : MO M w nd nw) :
    isV (EX L xs (D) q_X7_lays [.inr (.inr (40, 0))] M O) O (fun M' => Fr sLay M M' ∧ MD M' (perfL T w nd) n nh ns) := by
  have v5 : n ≤ 40 := hV.2.2.2.2.2.1
  have v6 : nh ≤ 8 := hV.2.2.2.2.2.2.1
  have v7 : ns ≤ 6 := hV.2.2.2.2.2.2.2.1
  obtain ⟨d, rfl⟩ : ∃ d, D = d + 2 := ⟨D - 2, by omega⟩
  refine isV_e (EX_in mi_X7_lays rfl rfl rfl (ls := [some (.inr (.inr (40, 0))), none]) rfl) ?_
  rw [e_X7_lays_0]
  refine lay1 L xs O d v5 M hS hT (fun r => isV r O _) n FUEL _ 0 M (by omega) (Nat.le_of_lt (FU (by omega))) Fr_refl (fun i hi => absurd hi (by omega)) ?_
  intro f1 k1 M1 hf1 fr1 h1
  have hf1' : 999999 ≤ f1 + n := hf1
  refine lay2 L xs O d v6 M hS hT (fun r => isV r O _) nh f1 _ 0 M1 (by omega) (by omega) fr1 h1 (fun i hi => absurd hi (by omega)) ?_
  intro f2 k2 M2 hf2 fr2 h2 h2'
  refine lay3 L xs O d v7 M hS hT (fun r => isV r O _) ns f2 _ 0 M2 (by omega) (by omega) fr2 h2 h2' (fun i hi => absurd hi (by omega)) ?_
  intro f3 k3 M3 hf3 fr3 h3
  have := hO.2.1
  exact lay4 L xs O d (by omega) hV M hS hO _ (fun M' a b => ⟨a, b⟩) nd f3 _ 0 M3 (by omega) (by omega) fr3 h3
end
