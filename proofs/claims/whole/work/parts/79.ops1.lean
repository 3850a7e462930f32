/-! Questions, first part: the class. -/
def sumF (w : Nat → Int32) (p : Nat → Bool) : Nat → Int32
  | 0 => 0
  | a + 1 => if p a = true then sumF w p a + w a else sumF w p a
def hourN (i : Nat) : Nat := (22 + i) % 24
def wakeB (V : Vw) (A : Nat → Int32) (n ns k i : Nat) : Bool := decide (¬ mostF V A n (hourN i) (vN V 7 k) ns < V 8 k + humF (V 9) (hourN i) 24 + 5)
def cntF (p : Nat → Bool) : Nat → Nat
  | 0 => 0
  | a + 1 => if p a = true then cntF p a + 1 else cntF p a
theorem cnt_le (p : Nat → Bool) : ∀ m, cntF p m ≤ m := by
  intro m
  induction m with
  | zero => exact Nat.le_refl _
  | succ m ih =>
    unfold cntF
    split <;> omega
def meanS (V : Vw) (As : Nat → Nat → Int32) (n ns h k : Nat) : Nat → Int32
  | 0 => 0
  | a + 1 => meanS V As n ns h k a + As a 13 * mostF V (As a) n h (vN V 7 k) ns
def allW (As : Nat → Nat → Int32) : Nat → Int32
  | 0 => 0
  | a + 1 => allW As a + As a 13
def meanF (V : Vw) (As : Nat → Nat → Int32) (n ns na h k : Nat) : Int32 := if allW As na = 0 then -1 else meanS V As n ns h k na / allW As na
section
variable (L : Nat) (xs : Nat → Int32) (O : Int64)
theorem ch_l {M0 : Mem} {V : Vw} {As : Nat → Nat → Int32} {n nh ns nw na : Nat} (d : Nat) (hd : 8 ≤ d + 1) (a h : Nat) (ha : a < na) (hh : h < 24) : ∀ r fuel k j M, j + r = nh → r ≤ fuel → CQ M0 V As n nh ns nw na M →
    isI (BK L xs (EX L xs (d + 1)) mi_X6_hears (RN L xs (d) mi_X6_hears fuel) (k + 100) 15 [some (.inr (.inr (0, 0))), some (.inl (nI a)), some (.inl (nI h)), some (.inl (bitsF (fun k => hearF V (As a) n ns h k) j)), some (.inl (nI j))] [] M O none 0 0) O (bitsF (fun k => hearF V (As a) n ns h k) nh) (CQ M0 V As n nh ns nw na) := by
  intro r
  induction r with
  | zero =>
    intro fuel k j M hj hf hM
    obtain rfl : j = nh := by omega
    have v6 : j ≤ 8 := hM.2.1.2.2.2.2.2.2.1
    have g4 := (hM.2.2.1 3 4 rfl).trans hM.2.1.2.1
    simp (disch := first | omega | rfl | decide) only [e_X6_hears_15, xr_v, xr_n, hl_of, hl_cl, hl_toInt, hl_le, hl_lt, hl_eq, nI_add, hl_sub, pk_mul, hl_div, if_pos, if_neg, ↓reduceIte, Nat.reduceAdd, Nat.reduceSub, Nat.reduceMul, Nat.add_zero, Nat.zero_add, mp_s, mp_k, mp_i, mp_g, mr_s, mr_i, mr_g, zlt_0, zlt_1, zlt_2, zlt_3, zlt_4, zlt_5, zlt_6, zlt_8, zlt_12, zlt_15, zlt_20, zlt_24, zlt_36, zlt_40, zlt_48, zlt_80, zlt_97, zlt_120, zlt_256, zlt_600, zlt_99999999, zadd_1, zadd_2, zadd_5, zadd_6, zadd_8, zadd_20, zadd_24, zeq_0, zeq_1, zeq_2, zeq_3, zeq_4, zeq_5, zeq_6, zeq_7, zeq_8, zeq_13, zeq_14, zeq_20, zeq_32, zeq_59, zeq_60, zeq_80, zmul_2, zmul_4, zmul_6, zmul_8, zmul_10, zmul_24, zsub_1, zsub_2, zsub_10, zsub_48, zsub_97, zle_0, zle_1, zle_2, zle_6, zle_11, zle_200, zle_600, zle_100000000, ylt_0, ylt_1, ylt_2, ylt_3, ylt_6, ylt_9, ylt_20, ylt_24, ylt_57, ylt_60, ylt_99, ylt_120, ylt_122, ylt_999, ylt_9999, yle_0, yle_2, yle_4, yle_5, yle_6, yle_7, yle_8, yle_10, yle_12, yle_13, yle_15, yle_16, yle_20, yle_24, yle_40, yle_60, yle_64, yle_80, yadd_1, yadd_22, ymul_2, ymul_4, ymul_6, ymul_8, ymul_10, ymul_24, ymul_27, ymul_100, ysub_1, ysub_24, zdiv_2, zdiv_4, zdiv_24, g4]
    exact isI_i hM
  | succ r ih =>
    intro fuel k j M hj hf hM
    have v6 : nh ≤ 8 := hM.2.1.2.2.2.2.2.2.1
    obtain ⟨f, rfl⟩ : ∃ f, fuel = f + 1 := ⟨fuel - 1, by omega⟩
    have g4 := (hM.2.2.1 3 4 rfl).trans hM.2.1.2.1
    obtain ⟨M1, q1, h1⟩ := x6_houseHears L xs O (D := d + 1) (by omega) j a h (by omega) ha hh M hM
    have ih' := ih f 2900 (j + 1) M1 (by omega) (by omega) h1
    rw [show bitsF (fun k => hearF V (As a) n ns h k) (j + 1) = if hearF V (As a) n ns h j = true then bitsF (fun k => hearF V (As a) n ns h k) j ||| (1 <<< (nI j &&& 31)) else bitsF (fun k => hearF V (As a) n ns h k) j from rfl] at ih'
    cases c : hearF V (As a) n ns h j with
    | false =>
      rw [c, b2i_f] at q1
      rw [c, if_neg Bool.false_ne_true] at ih'
      simp (disch := first | omega | rfl | decide) only [e_X6_hears_15, e_X6_hears_35, e_X6_hears_45, xr_v, xr_n, hl_of, hl_cl, hl_toInt, hl_le, hl_lt, hl_eq, nI_add, hl_sub, pk_mul, hl_div, if_pos, if_neg, ↓reduceIte, Nat.reduceAdd, Nat.reduceSub, Nat.reduceMul, Nat.add_zero, Nat.zero_add, mp_s, mp_k, mp_i, mp_g, mr_s, mr_i, mr_g, zlt_0, zlt_1, zlt_2, zlt_3, zlt_4, zlt_5, zlt_6, zlt_8, zlt_12, zlt_15, zlt_20, zlt_24, zlt_36, zlt_40, zlt_48, zlt_80, zlt_97, zlt_120, zlt_256, zlt_600, zlt_99999999, zadd_1, zadd_2, zadd_5, zadd_6, zadd_8, zadd_20, zadd_24, zeq_0, zeq_1, zeq_2, zeq_3, zeq_4, zeq_5, zeq_6, zeq_7, zeq_8, zeq_13, zeq_14, zeq_20, zeq_32, zeq_59, zeq_60, zeq_80, zmul_2, zmul_4, zmul_6, zmul_8, zmul_10, zmul_24, zsub_1, zsub_2, zsub_10, zsub_48, zsub_97, zle_0, zle_1, zle_2, zle_6, zle_11, zle_200, zle_600, zle_100000000, ylt_0, ylt_1, ylt_2, ylt_3, ylt_6, ylt_9, ylt_20, ylt_24, ylt_57, ylt_60, ylt_99, ylt_120, ylt_122, ylt_999, ylt_9999, yle_0, yle_2, yle_4, yle_5, yle_6, yle_7, yle_8, yle_10, yle_12, yle_13, yle_15, yle_16, yle_20, yle_24, yle_40, yle_60, yle_64, yle_80, yadd_1, yadd_22, ymul_2, ymul_4, ymul_6, ymul_8, ymul_10, ymul_24, ymul_27, ymul_100, ysub_1, ysub_24, zdiv_2, zdiv_4, zdiv_24, g4, q1]
      refine isI_e (RN_s _ _ _ _ _ _ _ _ _ _ _ _) ?_
      exact ih'
    | true =>
      rw [c, b2i_t] at q1
      rw [c, if_pos rfl] at ih'
      simp (disch := first | omega | rfl | decide) only [e_X6_hears_15, e_X6_hears_35, e_X6_hears_45, xr_v, xr_n, hl_of, hl_cl, hl_toInt, hl_le, hl_lt, hl_eq, nI_add, hl_sub, pk_mul, hl_div, if_pos, if_neg, ↓reduceIte, Nat.reduceAdd, Nat.reduceSub, Nat.reduceMul, Nat.add_zero, Nat.zero_add, mp_s, mp_k, mp_i, mp_g, mr_s, mr_i, mr_g, zlt_0, zlt_1, zlt_2, zlt_3, zlt_4, zlt_5, zlt_6, zlt_8, zlt_12, zlt_15, zlt_20, zlt_24, zlt_36, zlt_40, zlt_48, zlt_80, zlt_97, zlt_120, zlt_256, zlt_600, zlt_99999999, zadd_1, zadd_2, zadd_5, zadd_6, zadd_8, zadd_20, zadd_24, zeq_0, zeq_1, zeq_2, zeq_3, zeq_4, zeq_5, zeq_6, zeq_7, zeq_8, zeq_13, zeq_14, zeq_20, zeq_32, zeq_59, zeq_60, zeq_80, zmul_2, zmul_4, zmul_6, zmul_8, zmul_10, zmul_24, zsub_1, zsub_2, zsub_10, zsub_48, zsub_97, zle_0, zle_1, zle_2, zle_6, zle_11, zle_200, zle_600, zle_100000000, ylt_0, ylt_1, ylt_2, ylt_3, ylt_6, ylt_9, ylt_20, ylt_24, ylt_57, ylt_60, ylt_99, ylt_120, ylt_122, ylt_999, ylt_9999, yle_0, yle_2, yle_4, yle_5, yle_6, yle_7, yle_8, yle_10, yle_12, yle_13, yle_15, yle_16, yle_20, yle_24, yle_40, yle_60, yle_64, yle_80, yadd_1, yadd_22, ymul_2, ymul_4, ymul_6, ymul_8, ymul_10, ymul_24, ymul_27, ymul_100, ysub_1, ysub_24, zdiv_2, zdiv_4, zdiv_24, g4, q1]
      refine isI_e (RN_s _ _ _ _ _ _ _ _ _ _ _ _) ?_
      exact ih'
theorem c_hears {M0 : Mem} {V : Vw} {As : Nat → Nat → Int32} {n nh ns nw na : Nat} {D : Nat} (hD : 9 ≤ D) (a h : Nat) (ha : a < na) (hh : h < 24) (M : Mem) (hM : CQ M0 V As n nh ns nw na M) : isI (EX L xs (D) q_X6_hears [.inr (.inr (0, 0)), .inl (nI a), .inl (nI h)] M O) O (bitsF (fun k => hearF V (As a) n ns h k) nh) (CQ M0 V As n nh ns nw na) := by
  have v6 : nh ≤ 8 := hM.2.1.2.2.2.2.2.2.1
  have g6 := hM.2.2.2.2.1
  obtain ⟨d, rfl⟩ : ∃ d, D = d + 2 := ⟨D - 2, by omega⟩
  refine isI_e (EX_in mi_X6_hears rfl rfl rfl (ls := [some (.inr (.inr (0, 0))), some (.inl (nI a)), some (.inl (nI h)), none, none]) rfl) ?_
  have q1 := x6_needAir_in L xs O (D := d + 1) (by omega) (by omega) a M hM.2.2.2.1 ha
  have q2 := x6_needHour_in L xs O (D := d + 1) (by omega) h M hh
  simp (disch := first | omega | rfl | decide) only [e_X6_hears_0, e_X6_hears_5, e_X6_hears_10, e_X6_hears_35, e_X6_hears_45, xr_v, xr_n, hl_of, hl_cl, hl_toInt, hl_le, hl_lt, hl_eq, nI_add, hl_sub, pk_mul, hl_div, if_pos, if_neg, ↓reduceIte, Nat.reduceAdd, Nat.reduceSub, Nat.reduceMul, Nat.add_zero, Nat.zero_add, mp_s, mp_k, mp_i, mp_g, mr_s, mr_i, mr_g, zlt_0, zlt_1, zlt_2, zlt_3, zlt_4, zlt_5, zlt_6, zlt_8, zlt_12, zlt_15, zlt_20, zlt_24, zlt_36, zlt_40, zlt_48, zlt_80, zlt_97, zlt_120, zlt_256, zlt_600, zlt_99999999, zadd_1, zadd_2, zadd_5, zadd_6, zadd_8, zadd_20, zadd_24, zeq_0, zeq_1, zeq_2, zeq_3, zeq_4, zeq_5, zeq_6, zeq_7, zeq_8, zeq_13, zeq_14, zeq_20, zeq_32, zeq_59, zeq_60, zeq_80, zmul_2, zmul_4, zmul_6, zmul_8, zmul_10, zmul_24, zsub_1, zsub_2, zsub_10, zsub_48, zsub_97, zle_0, zle_1, zle_2, zle_6, zle_11, zle_200, zle_600, zle_100000000, ylt_0, ylt_1, ylt_2, ylt_3, ylt_6, ylt_9, ylt_20, ylt_24, ylt_57, ylt_60, ylt_99, ylt_120, ylt_122, ylt_999, ylt_9999, yle_0, yle_2, yle_4, yle_5, yle_6, yle_7, yle_8, yle_10, yle_12, yle_13, yle_15, yle_16, yle_20, yle_24, yle_40, yle_60, yle_64, yle_80, yadd_1, yadd_22, ymul_2, ymul_4, ymul_6, ymul_8, ymul_10, ymul_24, ymul_27, ymul_100, ysub_1, ysub_24, zdiv_2, zdiv_4, zdiv_24, q1, q2]
  exact ch_l L xs O d (by omega) a h ha hh nh FUEL _ 0 M (by omega) (Nat.le_of_lt (FU (by omega))) hM
end
theorem bits_s (p : Nat → Bool) (j : Nat) : bitsF p (j + 1) = if p j = true then bitsF p j ||| (1 <<< (nI j &&& 31)) else bitsF p j := rfl
theorem sum_s (w : Nat → Int32) (p : Nat → Bool) (j : Nat) : sumF w p (j + 1) = if p j = true then sumF w p j + w j else sumF w p j := rfl
theorem cnt_s (p : Nat → Bool) (j : Nat) : cntF p (j + 1) = if p j = true then cntF p j + 1 else cntF p j := rfl
theorem bits_t {p : Nat → Bool} {j : Nat} (h : p j = true) : bitsF p j ||| (1 <<< (nI j &&& 31)) = bitsF p (j + 1) := (if_pos h).symm
theorem bits_f {p : Nat → Bool} {j : Nat} (h : p j = false) : bitsF p j = bitsF p (j + 1) := (if_neg (fun e => by rw [h] at e; cases e)).symm
theorem sum_t {w : Nat → Int32} {p : Nat → Bool} {j : Nat} (h : p j = true) : sumF w p j + w j = sumF w p (j + 1) := (if_pos h).symm
theorem sum_f {w : Nat → Int32} {p : Nat → Bool} {j : Nat} (h : p j = false) : sumF w p j = sumF w p (j + 1) := (if_neg (fun e => by rw [h] at e; cases e)).symm
theorem cnt_t {p : Nat → Bool} {j : Nat} (h : p j = true) : cntF p j + 1 = cntF p (j + 1) := (if_pos h).symm
theorem cnt_f {p : Nat → Bool} {j : Nat} (h : p j = false) : cntF p j = cntF p (j + 1) := (if_neg (fun e => by rw [h] at e; cases e)).symm
theorem cnt_ti {p : Nat → Bool} {j : Nat} (h : p j = true) : nI (cntF p j + 1) = nI (cntF p (j + 1)) := congrArg nI (cnt_t h)
theorem cnt_fi {p : Nat → Bool} {j : Nat} (h : p j = false) : nI (cntF p j) = nI (cntF p (j + 1)) := congrArg nI (cnt_f h)
