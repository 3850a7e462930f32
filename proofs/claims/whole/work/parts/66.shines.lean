/-! The reference's RAYS and how LOUD one sound is. -/
theorem le_nlt {a b : Int32} (h : ¬ a < b) : b ≤ a := by
  rw [i_lt] at h
  rw [i_le]
  omega
theorem nle_lt {a b : Int32} (h : a < b) : ¬ b ≤ a := by
  rw [i_lt] at h
  rw [i_le]
  omega
theorem lt_nle {a b : Int32} (h : ¬ a ≤ b) : b < a := by
  rw [i_le] at h
  rw [i_lt]
  omega
theorem nlt_le {a b : Int32} (h : a ≤ b) : ¬ b < a := by
  rw [i_le] at h
  rw [i_lt]
  omega
theorem i_eq {a b : Int32} (h : a.toInt = b.toInt) : a = b := Int32.toInt_inj.mp h
theorem b2i_t : b2i true = 1 := rfl
theorem b2i_f : b2i false = 0 := rfl
theorem clamp6 (t : Int32) : (if t ≤ 6 then (if -6 ≤ t then t else -6) else 6) = (if -6 < (if t < 6 then t else 6) then (if t < 6 then t else 6) else -6) := by
  have e6 : (6 : Int32).toInt = 6 := by decide
  have e7 : (-6 : Int32).toInt = -6 := by decide
  have e0 : (-6 : Int32) < 6 := by decide
  by_cases h : t < 6
  · have h1 : t ≤ 6 := by
      rw [i_le]
      rw [i_lt] at h
      omega
    rw [if_pos h1, if_pos h]
    by_cases h2 : -6 < t
    · rw [if_pos h2, if_pos]
      rw [i_le]
      rw [i_lt] at h2
      omega
    · rw [if_neg h2]
      by_cases h3 : -6 ≤ t
      · rw [if_pos h3]
        rw [i_le] at h3
        rw [i_lt] at h2
        exact i_eq (by omega)
      · rw [if_neg h3]
  · rw [if_neg h, if_pos e0]
    by_cases h1 : t ≤ 6
    · have ht : t = 6 := by
        rw [i_le] at h1
        rw [i_lt] at h
        exact i_eq (by omega)
      rw [if_pos h1, ht, if_pos (by decide)]
    · rw [if_neg h1]
def plF (o : Option R3) : Int32 := match o with
  | none => -1
  | some z => z.1
def lfF (o : Option R3) : Int32 := match o with
  | none => 0
  | some z => z.2.2
/-- the reference's ground, heights and walls are V's -/
def MG (M : Mem) (V : Vw) (n : Nat) : Prop := M 44 0 0 = nI n ∧ ∀ j, j < n → M 73 0 j = V 4 j ∧ M 50 0 j = V 5 j ∧ M 74 0 j = V 6 j
def MA (M : Mem) (a : Nat) (A : Nat → Int32) : Prop := ∀ j, j < 15 → M 67 a j = A j
def sSh (g _i _k : Nat) : Bool := Nat.beq g 77 || Nat.beq g 78
theorem MG_fr {S : Nat → Nat → Nat → Bool} {M M' : Mem} {V : Vw} {n : Nat} (h : MG M V n) (fr : Fr S M M') (h1 : ∀ k, S 44 0 k = false) (h2 : ∀ k, S 73 0 k = false) (h3 : ∀ k, S 50 0 k = false) (h4 : ∀ k, S 74 0 k = false) : MG M' V n :=
  ⟨(fr 44 0 0 (h1 0)).trans h.1, fun j hj => ⟨(fr 73 0 j (h2 j)).trans (h.2 j hj).1, (fr 50 0 j (h3 j)).trans (h.2 j hj).2.1, (fr 74 0 j (h4 j)).trans (h.2 j hj).2.2⟩⟩
theorem MA_fr {S : Nat → Nat → Nat → Bool} {M M' : Mem} {a : Nat} {A : Nat → Int32} (h : MA M a A) (fr : Fr S M M') (h1 : ∀ k, S 67 a k = false) : MA M' a A := fun j hj => (fr 67 a j (h1 j)).trans (h j hj)
theorem rEnd_p {V : Vw} {A : Nat → Int32} {tw pt : Int32} {y : Nat} {aw p s r : Int32} {z : R3} (h : rEnd V A tw pt y aw p s r = some z) : z = (p, rTurn A tw p s, r - rEat pt aw) ∧ 0 < r - rEat pt aw := by
  unfold rEnd at h
  by_cases h1 : 24 < p
  · rw [if_pos h1] at h
    cases h
  · rw [if_neg h1] at h
    by_cases h2 : V 6 y ≤ 0 ∨ V 5 y + V 6 y ≤ p
    · rw [if_pos h2] at h
      by_cases h3 : 0 < r - rEat pt aw
      · rw [if_pos h3] at h
        cases h
        exact ⟨rfl, h3⟩
      · rw [if_neg h3] at h
        cases h
    · rw [if_neg h2] at h
      cases h
theorem rStep_nn {V : Vw} {A : Nat → Int32} {tw pt : Int32} {y : Nat} {aw : Int32} {z z' : R3} (hv : V 5 y = nI (vN V 5 y)) (h9 : vN V 5 y ≤ 9) (h : rStep V A tw pt y aw z = some z') : ¬ z'.1 < 0 := by
  unfold rStep at h
  by_cases h1 : V 5 y < z.1 + z.2.1
  · rw [if_pos h1] at h
    rw [(rEnd_p h).1]
    rw [hv] at h1
    exact nn_lt (by omega) h1
  · rw [if_neg h1] at h
    rw [(rEnd_p h).1]
    show ¬ V 5 y < 0
    rw [hv]
    exact nn_n _ (by omega)
section
variable (L : Nat) (xs : Nat → Int32) (O : Int64)
theorem x7_in {D : Nat} (hD : 2 ≤ D) (a lo hi : Int32) (M : Mem) : EX L xs (D) q_X7_in [.inl (a), .inl (lo), .inl (hi)] M O = (some (.inl (some (.inl (if a < lo then 0 else if hi < a then 0 else 1))), M, O, 0, 0) : Res) := by
  obtain ⟨d, rfl⟩ : ∃ d, D = d + 2 := ⟨D - 2, by omega⟩
  refine (EX_in mi_X7_in rfl rfl rfl (ls := [some (.inl (a)), some (.inl (lo)), some (.inl (hi))]) rfl).trans ?_
  by_cases h : a < lo
  · simp (disch := first | omega | rfl | decide) only [e_X7_in_0, e_X7_in_14, e_X7_in_15, xr_v, xr_n, hl_of, hl_cl, hl_toInt, hl_le, hl_lt, hl_eq, nI_add, hl_sub, pk_mul, hl_div, if_pos, if_neg, ↓reduceIte, Nat.reduceAdd, Nat.reduceSub, Nat.reduceMul, Nat.add_zero, Nat.zero_add, mp_s, mp_k, mp_i, mp_g, mr_s, mr_i, mr_g, zlt_0, zlt_1, zlt_2, zlt_3, zlt_4, zlt_5, zlt_6, zlt_8, zlt_12, zlt_15, zlt_20, zlt_24, zlt_36, zlt_40, zlt_48, zlt_80, zlt_97, zlt_120, zlt_256, zlt_600, zlt_99999999, zadd_1, zadd_2, zadd_5, zadd_6, zadd_8, zadd_20, zadd_24, zeq_0, zeq_1, zeq_2, zeq_3, zeq_4, zeq_5, zeq_6, zeq_7, zeq_8, zeq_13, zeq_14, zeq_20, zeq_32, zeq_59, zeq_60, zeq_80, zmul_2, zmul_4, zmul_6, zmul_8, zmul_10, zmul_24, zsub_1, zsub_2, zsub_10, zsub_48, zsub_97, zle_0, zle_1, zle_2, zle_6, zle_11, zle_200, zle_600, zle_100000000, ylt_0, ylt_1, ylt_2, ylt_3, ylt_6, ylt_9, ylt_20, ylt_24, ylt_57, ylt_60, ylt_99, ylt_120, ylt_122, ylt_999, ylt_9999, yle_0, yle_2, yle_4, yle_5, yle_6, yle_7, yle_8, yle_10, yle_12, yle_13, yle_15, yle_16, yle_20, yle_24, yle_40, yle_60, yle_64, yle_80, yadd_1, yadd_22, ymul_2, ymul_4, ymul_6, ymul_8, ymul_10, ymul_24, ymul_27, ymul_100, ysub_1, ysub_24, zdiv_2, zdiv_4, zdiv_24, h]
  · by_cases h2 : hi < a
    · simp (disch := first | omega | rfl | decide) only [e_X7_in_0, e_X7_in_14, e_X7_in_15, xr_v, xr_n, hl_of, hl_cl, hl_toInt, hl_le, hl_lt, hl_eq, nI_add, hl_sub, pk_mul, hl_div, if_pos, if_neg, ↓reduceIte, Nat.reduceAdd, Nat.reduceSub, Nat.reduceMul, Nat.add_zero, Nat.zero_add, mp_s, mp_k, mp_i, mp_g, mr_s, mr_i, mr_g, zlt_0, zlt_1, zlt_2, zlt_3, zlt_4, zlt_5, zlt_6, zlt_8, zlt_12, zlt_15, zlt_20, zlt_24, zlt_36, zlt_40, zlt_48, zlt_80, zlt_97, zlt_120, zlt_256, zlt_600, zlt_99999999, zadd_1, zadd_2, zadd_5, zadd_6, zadd_8, zadd_20, zadd_24, zeq_0, zeq_1, zeq_2, zeq_3, zeq_4, zeq_5, zeq_6, zeq_7, zeq_8, zeq_13, zeq_14, zeq_20, zeq_32, zeq_59, zeq_60, zeq_80, zmul_2, zmul_4, zmul_6, zmul_8, zmul_10, zmul_24, zsub_1, zsub_2, zsub_10, zsub_48, zsub_97, zle_0, zle_1, zle_2, zle_6, zle_11, zle_200, zle_600, zle_100000000, ylt_0, ylt_1, ylt_2, ylt_3, ylt_6, ylt_9, ylt_20, ylt_24, ylt_57, ylt_60, ylt_99, ylt_120, ylt_122, ylt_999, ylt_9999, yle_0, yle_2, yle_4, yle_5, yle_6, yle_7, yle_8, yle_10, yle_12, yle_13, yle_15, yle_16, yle_20, yle_24, yle_40, yle_60, yle_64, yle_80, yadd_1, yadd_22, ymul_2, ymul_4, ymul_6, ymul_8, ymul_10, ymul_24, ymul_27, ymul_100, ysub_1, ysub_24, zdiv_2, zdiv_4, zdiv_24, h, h2]
    · simp (disch := first | omega | rfl | decide) only [e_X7_in_0, e_X7_in_14, e_X7_in_15, xr_v, xr_n, hl_of, hl_cl, hl_toInt, hl_le, hl_lt, hl_eq, nI_add, hl_sub, pk_mul, hl_div, if_pos, if_neg, ↓reduceIte, Nat.reduceAdd, Nat.reduceSub, Nat.reduceMul, Nat.add_zero, Nat.zero_add, mp_s, mp_k, mp_i, mp_g, mr_s, mr_i, mr_g, zlt_0, zlt_1, zlt_2, zlt_3, zlt_4, zlt_5, zlt_6, zlt_8, zlt_12, zlt_15, zlt_20, zlt_24, zlt_36, zlt_40, zlt_48, zlt_80, zlt_97, zlt_120, zlt_256, zlt_600, zlt_99999999, zadd_1, zadd_2, zadd_5, zadd_6, zadd_8, zadd_20, zadd_24, zeq_0, zeq_1, zeq_2, zeq_3, zeq_4, zeq_5, zeq_6, zeq_7, zeq_8, zeq_13, zeq_14, zeq_20, zeq_32, zeq_59, zeq_60, zeq_80, zmul_2, zmul_4, zmul_6, zmul_8, zmul_10, zmul_24, zsub_1, zsub_2, zsub_10, zsub_48, zsub_97, zle_0, zle_1, zle_2, zle_6, zle_11, zle_200, zle_600, zle_100000000, ylt_0, ylt_1, ylt_2, ylt_3, ylt_6, ylt_9, ylt_20, ylt_24, ylt_57, ylt_60, ylt_99, ylt_120, ylt_122, ylt_999, ylt_9999, yle_0, yle_2, yle_4, yle_5, yle_6, yle_7, yle_8, yle_10, yle_12, yle_13, yle_15, yle_16, yle_20, yle_24, yle_40, yle_60, yle_64, yle_80, yadd_1, yadd_22, ymul_2, ymul_4, ymul_6, ymul_8, ymul_10, ymul_24, ymul_27, ymul_100, ysub_1, ysub_24, zdiv_2, zdiv_4, zdiv_24, h, h2]
theorem x7_isCell_in {D : Nat} (hD : 3 ≤ D) {n : Nat} (hn : n ≤ 40) (y : Nat) (M : Mem) (h0 : M 44 0 0 = nI n) (hy : y < n) : EX L xs (D) q_X7_isCell [.inr (.inr (40, 0)), .inl (nI y)] M O = (some (.inl (some (.inl (1))), M, O, 0, 0) : Res) := by
  obtain ⟨d, rfl⟩ : ∃ d, D = d + 2 := ⟨D - 2, by omega⟩
  refine (EX_in mi_X7_isCell rfl rfl rfl (ls := [some (.inr (.inr (40, 0))), some (.inl (nI y))]) rfl).trans ?_
  have h1 : ¬ nI y < 0 := nn_n y (by omega)
  rw [e_X7_isCell_0, x7_in L xs O (D := d + 1) (by omega), h0, zsub_1 (by omega), if_neg h1, if_neg (by rw [hl_lt (by omega) (by omega)]; omega)]
  simp only [xr_v, Nat.reduceAdd, Nat.add_zero]
  rw [e_X7_isCell_13, if_pos (Or.inr rfl)]
theorem x7_isCell_out {D : Nat} (hD : 3 ≤ D) {n : Nat} (hn : n ≤ 40) (hn1 : 1 ≤ n) (a : Int32) (M : Mem) (h0 : M 44 0 0 = nI n) (hy : a < 0 ∨ ¬ a < nI n) : EX L xs (D) q_X7_isCell [.inr (.inr (40, 0)), .inl (a)] M O = (some (.inl (some (.inl (0))), M, O, 0, 0) : Res) := by
  obtain ⟨d, rfl⟩ : ∃ d, D = d + 2 := ⟨D - 2, by omega⟩
  refine (EX_in mi_X7_isCell rfl rfl rfl (ls := [some (.inr (.inr (40, 0))), some (.inl (a))]) rfl).trans ?_
  rw [e_X7_isCell_0, x7_in L xs O (D := d + 1) (by omega), h0, zsub_1 (by omega)]
  have e : (if a < 0 then 0 else if nI (n - 1) < a then 0 else 1 : Int32) = 0 := by
    by_cases h1 : a < 0
    · rw [if_pos h1]
    · rw [if_neg h1, if_pos]
      have h2 := hy.resolve_left h1
      rw [i_lt, hl_toInt (by omega)] at *
      omega
  rw [e]
  simp only [xr_v, Nat.reduceAdd, Nat.add_zero]
  rw [e_X7_isCell_13, if_pos (Or.inl rfl)]
theorem x7_turns {D : Nat} (hD : 2 ≤ D) {A : Nat → Int32} (a : Nat) (ha : a < 6) (p s tw : Int32) (M : Mem) (hA : MA M a A) (hp : ¬ p < 0) : EX L xs (D) q_X7_turns [.inr (.inr (40, 0)), .inl (nI a), .inl (p), .inl (s), .inl (tw)] M O = (some (.inl (some (.inl (rTurn A tw p s))), M, O, 0, 0) : Res) := by
  obtain ⟨d, rfl⟩ : ∃ d, D = d + 2 := ⟨D - 2, by omega⟩
  refine (EX_in mi_X7_turns rfl rfl rfl (ls := [some (.inr (.inr (40, 0))), some (.inl (nI a)), some (.inl (p)), some (.inl (s)), some (.inl (tw)), none, none]) rfl).trans ?_
  have key : ∀ k q, q = (if 11 < p / 2 then 11 else p / 2 : Int32) → BK L xs (EX L xs (d + 1)) mi_X7_turns (RN L xs (d) mi_X7_turns FUEL) (k + 60) 16 [some (.inr (.inr (40, 0))), some (.inl (nI a)), some (.inl (p)), some (.inl (s)), some (.inl (tw)), none, none] [.inl (q)] M O none 0 0 = (some (.inl (some (.inl (rTurn A tw p s))), M, O, 0, 0) : Res) := by
    intro k q hq
    have h12 := lay_12 hp
    have hin := lay_ix hp
    unfold rLay at h12
    rw [← hq] at h12 hin
    have hm : s + A q.toNatClampNeg + tw * A 12 = s + rMore A tw p := by
      unfold rMore rLay
      rw [← hq, Int32.add_assoc]
    rw [e_X7_turns_16, if_pos (in_6 ha), if_pos ⟨hin.1, by omega⟩, if_pos (in_6 ha), hl_cl (by omega), Nat.zero_add, hA 12 (by omega), hA q.toNatClampNeg (by omega), hm]
    unfold rTurn
    rw [← clamp6]
    by_cases h1 : s + rMore A tw p ≤ 6
    · rw [if_pos h1, if_pos h1]
      by_cases h2 : -6 ≤ s + rMore A tw p
      · rw [if_pos h2, if_pos h2, e_X7_turns_70]
      · rw [if_neg h2, if_neg h2, e_X7_turns_70]
    · rw [if_neg h1, if_neg h1, e_X7_turns_70]
  rw [e_X7_turns_0]
  by_cases h : p / 2 ≤ 11
  · rw [if_pos h]
    exact key 2932 _ (if_neg (nlt_le h)).symm
  · rw [if_neg h]
    exact key 2933 _ (if_pos (lt_nle h)).symm
theorem x7_eats {D : Nat} (hD : 2 ≤ D) (q : Nat) (hq : q < 4) (M : Mem) : EX L xs (D) q_X7_eats [.inl (nI q)] M O = (some (.inl (some (.inl (geats q))), M, O, 0, 0) : Res) := by
  obtain ⟨d, rfl⟩ : ∃ d, D = d + 2 := ⟨D - 2, by omega⟩
  refine (EX_in mi_X7_eats rfl rfl rfl (ls := [some (.inl (nI q))]) rfl).trans ?_
  obtain rfl | rfl | rfl | rfl : q = 0 ∨ q = 1 ∨ q = 2 ∨ q = 3 := by omega
  · rw [e_X7_eats_0, if_pos (by decide), e_X7_eats_29]
    rfl
  · rw [e_X7_eats_0, if_neg (by decide), if_pos (by decide), e_X7_eats_29]
    rfl
  · rw [e_X7_eats_0, if_neg (by decide), if_neg (by decide), if_pos (by decide), e_X7_eats_29]
    rfl
  · rw [e_X7_eats_0, if_neg (by decide), if_neg (by decide), if_neg (by decide), e_X7_eats_29]
    rfl
theorem sh_231 (d fuel k m : Nat) (a1 a2 a3 a4 a5 a6 a7 a8 a9 a10 a12 a13 : Int32) (b : Bool) (hm : m < 40) (M : Mem) (P : Res → Prop)
    (h : P (RN L xs (d) mi_X7_shines fuel 93 [some (.inr (.inr (40, 0))), some (.inl (a1)), some (.inl (a2)), some (.inl (a3)), some (.inl (a4)), some (.inl (a5)), some (.inl (a6)), some (.inl (a7)), some (.inl (a8)), some (.inl (a9 - rEat a5 (nI m))), some (.inl (a10)), some (.inl (nI (m + 1))), some (.inl (b2i (b && decide (0 < a9 - rEat a5 (nI m))))), some (.inl (a13 + a6))] (if (b && decide (0 < a9 - rEat a5 (nI m))) = true then mput (mput M 77 0 m a8) 78 0 m (a9 - rEat a5 (nI m)) else M) O none 0 0)) :
    P (BK L xs (EX L xs (d + 1)) mi_X7_shines (RN L xs (d) mi_X7_shines fuel) (k + 100) 231 [some (.inr (.inr (40, 0))), some (.inl (a1)), some (.inl (a2)), some (.inl (a3)), some (.inl (a4)), some (.inl (a5)), some (.inl (a6)), some (.inl (a7)), some (.inl (a8)), some (.inl (a9)), some (.inl (a10)), some (.inl (nI m)), some (.inl (a12)), some (.inl (a13))] [.inl (b2i b)] M O none 0 0) := by
  have key : ∀ e k', rEat a5 (nI m) = a5 + e → P (BK L xs (EX L xs (d + 1)) mi_X7_shines (RN L xs (d) mi_X7_shines fuel) (k' + 60) 253 [some (.inr (.inr (40, 0))), some (.inl (a1)), some (.inl (a2)), some (.inl (a3)), some (.inl (a4)), some (.inl (a5)), some (.inl (a6)), some (.inl (a7)), some (.inl (a8)), some (.inl (a9)), some (.inl (a10)), some (.inl (nI m)), some (.inl (b2i b)), some (.inl (a13))] [.inl (e), .inl (a5), .inl (a9)] M O none 0 0) := by
    intro e k' hE
    rw [hE] at h
    cases b with
    | false =>
      rw [Bool.false_and, if_neg Bool.false_ne_true, b2i_f] at h
      simp (disch := first | omega | rfl | decide) only [e_X7_shines_0, e_X7_shines_31, e_X7_shines_36, e_X7_shines_93, e_X7_shines_310, e_X7_shines_104, e_X7_shines_129, e_X7_shines_189, e_X7_shines_172, e_X7_shines_230, e_X7_shines_226, e_X7_shines_186, e_X7_shines_231, e_X7_shines_253, e_X7_shines_271, e_X7_shines_272, e_X7_shines_297, xr_v, xr_n, hl_of, hl_cl, hl_toInt, hl_le, hl_lt, hl_eq, nI_add, hl_sub, pk_mul, hl_div, if_pos, if_neg, ↓reduceIte, Nat.reduceAdd, Nat.reduceSub, Nat.reduceMul, Nat.add_zero, Nat.zero_add, mp_s, mp_k, mp_i, mp_g, mr_s, mr_i, mr_g, zlt_0, zlt_1, zlt_2, zlt_3, zlt_4, zlt_5, zlt_6, zlt_8, zlt_12, zlt_15, zlt_20, zlt_24, zlt_36, zlt_40, zlt_48, zlt_80, zlt_97, zlt_120, zlt_256, zlt_600, zlt_99999999, zadd_1, zadd_2, zadd_5, zadd_6, zadd_8, zadd_20, zadd_24, zeq_0, zeq_1, zeq_2, zeq_3, zeq_4, zeq_5, zeq_6, zeq_7, zeq_8, zeq_13, zeq_14, zeq_20, zeq_32, zeq_59, zeq_60, zeq_80, zmul_2, zmul_4, zmul_6, zmul_8, zmul_10, zmul_24, zsub_1, zsub_2, zsub_10, zsub_48, zsub_97, zle_0, zle_1, zle_2, zle_6, zle_11, zle_200, zle_600, zle_100000000, ylt_0, ylt_1, ylt_2, ylt_3, ylt_6, ylt_9, ylt_20, ylt_24, ylt_57, ylt_60, ylt_99, ylt_120, ylt_122, ylt_999, ylt_9999, yle_0, yle_2, yle_4, yle_5, yle_6, yle_7, yle_8, yle_10, yle_12, yle_13, yle_15, yle_16, yle_20, yle_24, yle_40, yle_60, yle_64, yle_80, yadd_1, yadd_22, ymul_2, ymul_4, ymul_6, ymul_8, ymul_10, ymul_24, ymul_27, ymul_100, ysub_1, ysub_24, zdiv_2, zdiv_4, zdiv_24, b2i_f]
      exact h
    | true =>
      rw [Bool.true_and] at h
      by_cases h5 : 0 < a9 - (a5 + e)
      · rw [decide_eq_true h5, if_pos rfl, b2i_t] at h
        have h6 := nle_lt h5
        simp (disch := first | omega | rfl | decide) only [e_X7_shines_0, e_X7_shines_31, e_X7_shines_36, e_X7_shines_93, e_X7_shines_310, e_X7_shines_104, e_X7_shines_129, e_X7_shines_189, e_X7_shines_172, e_X7_shines_230, e_X7_shines_226, e_X7_shines_186, e_X7_shines_231, e_X7_shines_253, e_X7_shines_271, e_X7_shines_272, e_X7_shines_297, xr_v, xr_n, hl_of, hl_cl, hl_toInt, hl_le, hl_lt, hl_eq, nI_add, hl_sub, pk_mul, hl_div, if_pos, if_neg, ↓reduceIte, Nat.reduceAdd, Nat.reduceSub, Nat.reduceMul, Nat.add_zero, Nat.zero_add, mp_s, mp_k, mp_i, mp_g, mr_s, mr_i, mr_g, zlt_0, zlt_1, zlt_2, zlt_3, zlt_4, zlt_5, zlt_6, zlt_8, zlt_12, zlt_15, zlt_20, zlt_24, zlt_36, zlt_40, zlt_48, zlt_80, zlt_97, zlt_120, zlt_256, zlt_600, zlt_99999999, zadd_1, zadd_2, zadd_5, zadd_6, zadd_8, zadd_20, zadd_24, zeq_0, zeq_1, zeq_2, zeq_3, zeq_4, zeq_5, zeq_6, zeq_7, zeq_8, zeq_13, zeq_14, zeq_20, zeq_32, zeq_59, zeq_60, zeq_80, zmul_2, zmul_4, zmul_6, zmul_8, zmul_10, zmul_24, zsub_1, zsub_2, zsub_10, zsub_48, zsub_97, zle_0, zle_1, zle_2, zle_6, zle_11, zle_200, zle_600, zle_100000000, ylt_0, ylt_1, ylt_2, ylt_3, ylt_6, ylt_9, ylt_20, ylt_24, ylt_57, ylt_60, ylt_99, ylt_120, ylt_122, ylt_999, ylt_9999, yle_0, yle_2, yle_4, yle_5, yle_6, yle_7, yle_8, yle_10, yle_12, yle_13, yle_15, yle_16, yle_20, yle_24, yle_40, yle_60, yle_64, yle_80, yadd_1, yadd_22, ymul_2, ymul_4, ymul_6, ymul_8, ymul_10, ymul_24, ymul_27, ymul_100, ysub_1, ysub_24, zdiv_2, zdiv_4, zdiv_24, b2i_t, h6]
        exact h
      · rw [decide_eq_false h5, if_neg Bool.false_ne_true, b2i_f] at h
        have h6 := le_nlt h5
        simp (disch := first | omega | rfl | decide) only [e_X7_shines_0, e_X7_shines_31, e_X7_shines_36, e_X7_shines_93, e_X7_shines_310, e_X7_shines_104, e_X7_shines_129, e_X7_shines_189, e_X7_shines_172, e_X7_shines_230, e_X7_shines_226, e_X7_shines_186, e_X7_shines_231, e_X7_shines_253, e_X7_shines_271, e_X7_shines_272, e_X7_shines_297, xr_v, xr_n, hl_of, hl_cl, hl_toInt, hl_le, hl_lt, hl_eq, nI_add, hl_sub, pk_mul, hl_div, if_pos, if_neg, ↓reduceIte, Nat.reduceAdd, Nat.reduceSub, Nat.reduceMul, Nat.add_zero, Nat.zero_add, mp_s, mp_k, mp_i, mp_g, mr_s, mr_i, mr_g, zlt_0, zlt_1, zlt_2, zlt_3, zlt_4, zlt_5, zlt_6, zlt_8, zlt_12, zlt_15, zlt_20, zlt_24, zlt_36, zlt_40, zlt_48, zlt_80, zlt_97, zlt_120, zlt_256, zlt_600, zlt_99999999, zadd_1, zadd_2, zadd_5, zadd_6, zadd_8, zadd_20, zadd_24, zeq_0, zeq_1, zeq_2, zeq_3, zeq_4, zeq_5, zeq_6, zeq_7, zeq_8, zeq_13, zeq_14, zeq_20, zeq_32, zeq_59, zeq_60, zeq_80, zmul_2, zmul_4, zmul_6, zmul_8, zmul_10, zmul_24, zsub_1, zsub_2, zsub_10, zsub_48, zsub_97, zle_0, zle_1, zle_2, zle_6, zle_11, zle_200, zle_600, zle_100000000, ylt_0, ylt_1, ylt_2, ylt_3, ylt_6, ylt_9, ylt_20, ylt_24, ylt_57, ylt_60, ylt_99, ylt_120, ylt_122, ylt_999, ylt_9999, yle_0, yle_2, yle_4, yle_5, yle_6, yle_7, yle_8, yle_10, yle_12, yle_13, yle_15, yle_16, yle_20, yle_24, yle_40, yle_60, yle_64, yle_80, yadd_1, yadd_22, ymul_2, ymul_4, ymul_6, ymul_8, ymul_10, ymul_24, ymul_27, ymul_100, ysub_1, ysub_24, zdiv_2, zdiv_4, zdiv_24, b2i_t, h6]
        exact h
  rw [e_X7_shines_231]
  by_cases h4 : nI m &&& (nI m - 1) = 0
  · rw [if_pos h4]
    exact key 6 (k + 29) (if_pos h4)
  · rw [if_neg h4]
    exact key 0 (k + 30) ((if_neg h4).trans (Int32.add_zero a5).symm)
theorem rEnd_is {V : Vw} {A : Nat → Int32} {tw pt : Int32} {y : Nat} {aw p s r : Int32} : (rEnd V A tw pt y aw p s r).isSome = (decide (¬ 24 < p ∧ (V 6 y ≤ 0 ∨ V 5 y + V 6 y ≤ p)) && decide (0 < r - rEat pt aw)) := by
  unfold rEnd
  by_cases h1 : 24 < p
  · rw [if_pos h1, decide_eq_false (fun h => h.1 h1)]
    rfl
  · rw [if_neg h1]
    by_cases h2 : V 6 y ≤ 0 ∨ V 5 y + V 6 y ≤ p
    · rw [if_pos h2, decide_eq_true ⟨h1, h2⟩]
      by_cases h3 : 0 < r - rEat pt aw
      · rw [if_pos h3, decide_eq_true h3]
        rfl
      · rw [if_neg h3, decide_eq_false h3]
        rfl
    · rw [if_neg h2, decide_eq_false (fun h => h2 h.2)]
      rfl
theorem sh_189 (d fuel k m y : Nat) {V : Vw} (A : Nat → Int32) (tw : Int32) {n nh ns nw : Nat} (hV : VOK V n nh ns nw) (a1 a2 a3 a4 a5 a6 a7 a8 a9 a10 a12 : Int32) (hm : m < 40) (hy : y < n) (M : Mem) (hG : MG M V n) (P : Res → Prop)
    (h : P (RN L xs (d) mi_X7_shines fuel 93 [some (.inr (.inr (40, 0))), some (.inl (a1)), some (.inl (a2)), some (.inl (a3)), some (.inl (a4)), some (.inl (a5)), some (.inl (a6)), some (.inl (a7)), some (.inl (a8)), some (.inl (a9 - rEat a5 (nI m))), some (.inl (a10)), some (.inl (nI (m + 1))), some (.inl (b2i (rEnd V A tw a5 y (nI m) a8 a10 a9).isSome)), some (.inl (nI y + a6))] (if (rEnd V A tw a5 y (nI m) a8 a10 a9).isSome = true then mput (mput M 77 0 m a8) 78 0 m (a9 - rEat a5 (nI m)) else M) O none 0 0)) :
    P (BK L xs (EX L xs (d + 1)) mi_X7_shines (RN L xs (d) mi_X7_shines fuel) (k + 200) 189 [some (.inr (.inr (40, 0))), some (.inl (a1)), some (.inl (a2)), some (.inl (a3)), some (.inl (a4)), some (.inl (a5)), some (.inl (a6)), some (.inl (a7)), some (.inl (a8)), some (.inl (a9)), some (.inl (a10)), some (.inl (nI m)), some (.inl (a12)), some (.inl (nI y))] [] M O none 0 0) := by
  obtain ⟨v0, v1, v2, v3, v4, v5, v6, v7, v8, vk, vh, vw, vc, vs, vl, vwk, vcn⟩ := hV
  rw [rEnd_is] at h
  have hin : 0 ≤ (nI y).toInt ∧ (nI y).toInt < 40 := in_40 (show y < 40 by omega)
  have hcl : (nI y).toNatClampNeg = y := hl_cl (by omega)
  rw [e_X7_shines_189]
  by_cases h1 : 24 < a8
  · rw [if_pos h1, e_X7_shines_230]
    rw [decide_eq_false (p := ¬ 24 < a8 ∧ _) (fun e => e.1 h1)] at h
    exact sh_231 L xs O d fuel (k + 96) m a1 a2 a3 a4 a5 a6 a7 a8 a9 a10 a12 (nI y) false hm M P h
  · rw [if_neg h1, if_pos hin, hcl, (hG.2 y hy).2.2]
    by_cases h2 : V 6 y = 0
    · rw [if_pos h2, e_X7_shines_226]
      rw [decide_eq_true (p := ¬ 24 < a8 ∧ _) ⟨h1, Or.inl (by rw [h2]; decide)⟩] at h
      exact sh_231 L xs O d fuel (k + 90) m a1 a2 a3 a4 a5 a6 a7 a8 a9 a10 a12 (nI y) true hm M P h
    · rw [if_neg h2, if_pos hin, if_pos hin, (hG.2 y hy).2.1]
      have h2' : ¬ V 6 y ≤ 0 := by
        rw [(vw y hy).1] at h2 ⊢
        have hw := (vw y hy).2
        rw [zle_0 (by omega)]
        intro h0
        exact h2 (by rw [show vN V 6 y = 0 by omega]; rfl)
      by_cases h3 : a8 < V 5 y + V 6 y
      · rw [if_pos h3, e_X7_shines_230]
        rw [decide_eq_false (p := ¬ 24 < a8 ∧ _) (fun e => e.2.elim h2' (nle_lt h3))] at h
        exact sh_231 L xs O d fuel (k + 80) m a1 a2 a3 a4 a5 a6 a7 a8 a9 a10 a12 (nI y) false hm M P h
      · rw [if_neg h3, e_X7_shines_226]
        rw [decide_eq_true (p := ¬ 24 < a8 ∧ _) ⟨h1, Or.inr (le_nlt h3)⟩] at h
        exact sh_231 L xs O d fuel (k + 79) m a1 a2 a3 a4 a5 a6 a7 a8 a9 a10 a12 (nI y) true hm M P h
theorem sh_129 (d fuel k m y : Nat) (hd : 2 ≤ d + 1) {V : Vw} (A : Nat → Int32) (tw : Int32) {n nh ns nw : Nat} (hV : VOK V n nh ns nw) (a1 a2 a3 a4 a5 a6 a7 a10 a12 : Int32) (z : R3) (hm : m < 40) (hy : y < n) (M : Mem) (hG : MG M V n) (P : Res → Prop)
    (h : ∀ p s r, rStep V A tw a5 y (nI m) z = rEnd V A tw a5 y (nI m) p s r → P (RN L xs (d) mi_X7_shines fuel 93 [some (.inr (.inr (40, 0))), some (.inl (a1)), some (.inl (a2)), some (.inl (a3)), some (.inl (a4)), some (.inl (a5)), some (.inl (a6)), some (.inl (a7)), some (.inl (p)), some (.inl (r - rEat a5 (nI m))), some (.inl (s)), some (.inl (nI (m + 1))), some (.inl (b2i (rEnd V A tw a5 y (nI m) p s r).isSome)), some (.inl (nI y + a6))] (if (rEnd V A tw a5 y (nI m) p s r).isSome = true then mput (mput M 77 0 m p) 78 0 m (r - rEat a5 (nI m)) else M) O none 0 0)) :
    P (BK L xs (EX L xs (d + 1)) mi_X7_shines (RN L xs (d) mi_X7_shines fuel) (k + 300) 129 [some (.inr (.inr (40, 0))), some (.inl (a1)), some (.inl (a2)), some (.inl (a3)), some (.inl (a4)), some (.inl (a5)), some (.inl (a6)), some (.inl (a7)), some (.inl (z.1)), some (.inl (z.2.2)), some (.inl (a10)), some (.inl (nI m)), some (.inl (a12)), some (.inl (nI y))] [.inl (z.2.1)] M O none 0 0) := by
  have vk := hV.2.2.2.2.2.2.2.2.2.1
  have v5 : n ≤ 40 := hV.2.2.2.2.2.1
  have hin : 0 ≤ (nI y).toInt ∧ (nI y).toInt < 40 := in_40 (show y < 40 by omega)
  have hcl : (nI y).toNatClampNeg = y := hl_cl (by omega)
  rw [e_X7_shines_129, if_pos hin, hcl, (hG.2 y hy).2.1]
  by_cases h1 : V 5 y < z.1 + z.2.1
  · rw [if_pos h1]
    exact sh_189 L xs O d fuel (k + 89) m y A tw hV a1 a2 a3 a4 a5 a6 a7 _ _ _ a12 hm hy M hG P (h _ _ _ (if_pos h1))
  · rw [if_neg h1, if_pos hin]
    have key : ∀ k' q a10', q = rAbs z.2.1 → P (BK L xs (EX L xs (d + 1)) mi_X7_shines (RN L xs (d) mi_X7_shines fuel) (k' + 260) 172 [some (.inr (.inr (40, 0))), some (.inl (a1)), some (.inl (a2)), some (.inl (a3)), some (.inl (a4)), some (.inl (a5)), some (.inl (a6)), some (.inl (a7)), some (.inl (V 5 y)), some (.inl (z.2.2)), some (.inl (a10')), some (.inl (nI m)), some (.inl (a12)), some (.inl (nI y))] [.inl (q)] M O none 0 0) := by
      intro k' q a10' hq
      rw [e_X7_shines_172, if_pos hin, hcl, (hG.2 y hy).1, (vk y hy).1, x7_eats L xs O (D := d + 1) (by omega) _ (vk y hy).2]
      simp only [xr_v, Nat.reduceAdd, Nat.add_zero]
      rw [e_X7_shines_186, hq]
      refine sh_189 L xs O d fuel (k' + 51) m y A tw hV a1 a2 a3 a4 a5 a6 a7 _ _ _ a12 hm hy M hG P (h _ _ _ (if_neg h1))
    by_cases h2 : (0 : Int32) ≤ z.2.1
    · rw [if_pos h2]
      exact key (k + 21) _ _ (if_pos h2).symm
    · rw [if_neg h2]
      exact key (k + 19) _ _ ((Int32.zero_sub z.2.1).symm.trans (if_neg h2).symm)
end
