/-! Small methods of the class and of the reference: bits, HUM, what a HOUSE needs. -/
def bitF (b : Int32) (i : Int32) : Prop := (b >>> (i &&& 31)) &&& 1 = 1
theorem bitF_dec (b i : Int32) : bitF b i ↔ (b >>> (i &&& 31)) &&& 1 = 1 := Iff.rfl
section
variable (L : Nat) (xs : Nat → Int32) (O : Int64)
theorem x6_hasBit {D : Nat} (hD : 2 ≤ D) (b i : Int32) (M : Mem) : EX L xs (D) q_X6_hasBit [.inl (b), .inl (i)] M O = (some (.inl (some (.inl (if (b >>> (i &&& 31)) &&& 1 = 1 then 1 else 0))), M, O, 0, 0) : Res) := by
  obtain ⟨d, rfl⟩ : ∃ d, D = d + 2 := ⟨D - 2, by omega⟩
  refine (EX_in mi_X6_hasBit rfl rfl rfl (ls := [some (.inl (b)), some (.inl (i))]) rfl).trans ?_
  by_cases h : (b >>> (i &&& 31)) &&& 1 = 1
  · simp (disch := first | omega | rfl | decide) only [e_X6_hasBit_0, e_X6_hasBit_14, xr_v, xr_n, hl_of, hl_cl, hl_toInt, hl_le, hl_lt, hl_eq, hl_leR, hl_leL, hl_ltR, hl_ltL, hl_eqR, hl_addR, nI_add, hl_sub, hl_subR, hl_sub0, hl_mulR, hl_mulL, pk_mul, hl_div, hl_divR, if_pos, if_neg, ↓reduceIte, Nat.reduceAdd, Nat.reduceSub, Nat.reduceMul, Nat.add_zero, Nat.zero_add, mp_s, mp_k, mp_i, mp_g, mr_s, mr_i, mr_g, h]
  · simp (disch := first | omega | rfl | decide) only [e_X6_hasBit_0, e_X6_hasBit_14, xr_v, xr_n, hl_of, hl_cl, hl_toInt, hl_le, hl_lt, hl_eq, hl_leR, hl_leL, hl_ltR, hl_ltL, hl_eqR, hl_addR, nI_add, hl_sub, hl_subR, hl_sub0, hl_mulR, hl_mulL, pk_mul, hl_div, hl_divR, if_pos, if_neg, ↓reduceIte, Nat.reduceAdd, Nat.reduceSub, Nat.reduceMul, Nat.add_zero, Nat.zero_add, mp_s, mp_k, mp_i, mp_g, mr_s, mr_i, mr_g, h]
def humF (f : Nat → Int32) (hour : Nat) : Nat → Int32
  | 0 => 0
  | r + 1 => if f ((hour + r + 1) % 24) = -1 then humF f hour r else f ((hour + r + 1) % 24)
theorem x1_humOf_l (d i0 h : Nat) (hh : h < 24) (M : Mem) : ∀ r fuel k u, r ≤ fuel → r ≤ 24 →
    BK L xs (EX L xs (d + 1)) mi_X1_humOf (RN L xs (d) mi_X1_humOf fuel) (k + 60) 2 [some (.inr (.inr (3, i0))), some (.inl (nI h)), some (.inl (nI (24 - r))), u] [] M O none 0 0 = (some (.inl (some (.inl (humF (M 9 i0) h r))), M, O, 0, 0) : Res) := by
  intro r
  induction r with
  | zero =>
    intro fuel k u hf hr
    simp (disch := first | omega | rfl | decide) only [e_X1_humOf_0, e_X1_humOf_2, xr_v, xr_n, hl_of, hl_cl, hl_toInt, hl_le, hl_lt, hl_eq, hl_leR, hl_leL, hl_ltR, hl_ltL, hl_eqR, hl_addR, nI_add, hl_sub, hl_subR, hl_sub0, hl_mulR, hl_mulL, pk_mul, hl_div, hl_divR, if_pos, if_neg, ↓reduceIte, Nat.reduceAdd, Nat.reduceSub, Nat.reduceMul, Nat.add_zero, Nat.zero_add, mp_s, mp_k, mp_i, mp_g, mr_s, mr_i, mr_g]
    rfl
  | succ r ih =>
    intro fuel k u hf hr
    obtain ⟨f, rfl⟩ : ∃ f, fuel = f + 1 := ⟨fuel - 1, by omega⟩
    have e : h + 24 - (24 - (r + 1)) - (h + 24 - (24 - (r + 1))) / 24 * 24 = (h + r + 1) % 24 := by omega
    have e2 : 24 - (r + 1) + 1 = 24 - r := by omega
    by_cases hc : M 9 i0 ((h + r + 1) % 24) = -1
    · simp (disch := first | omega | rfl | decide) only [e_X1_humOf_0, e_X1_humOf_2, xr_v, xr_n, hl_of, hl_cl, hl_toInt, hl_le, hl_lt, hl_eq, hl_leR, hl_leL, hl_ltR, hl_ltL, hl_eqR, hl_addR, nI_add, hl_sub, hl_subR, hl_sub0, hl_mulR, hl_mulL, pk_mul, hl_div, hl_divR, if_pos, if_neg, ↓reduceIte, Nat.reduceAdd, Nat.reduceSub, Nat.reduceMul, Nat.add_zero, Nat.zero_add, mp_s, mp_k, mp_i, mp_g, mr_s, mr_i, mr_g, e, e2, hc, humF]
      exact RN_of (ih f 2940 _ (by omega) (by omega))
    · simp (disch := first | omega | rfl | decide) only [e_X1_humOf_0, e_X1_humOf_2, xr_v, xr_n, hl_of, hl_cl, hl_toInt, hl_le, hl_lt, hl_eq, hl_leR, hl_leL, hl_ltR, hl_ltL, hl_eqR, hl_addR, nI_add, hl_sub, hl_subR, hl_sub0, hl_mulR, hl_mulL, pk_mul, hl_div, hl_divR, if_pos, if_neg, ↓reduceIte, Nat.reduceAdd, Nat.reduceSub, Nat.reduceMul, Nat.add_zero, Nat.zero_add, mp_s, mp_k, mp_i, mp_g, mr_s, mr_i, mr_g, e, e2, hc, humF]
theorem x1_humOf {D : Nat} (hD : 2 ≤ D) (i0 h : Nat) (hh : h < 24) (M : Mem) : EX L xs (D) q_X1_humOf [.inr (.inr (3, i0)), .inl (nI h)] M O = (some (.inl (some (.inl (humF (M 9 i0) h 24))), M, O, 0, 0) : Res) := by
  obtain ⟨d, rfl⟩ : ∃ d, D = d + 2 := ⟨D - 2, by omega⟩
  refine (EX_in mi_X1_humOf rfl rfl rfl (ls := [some (.inr (.inr (3, i0))), some (.inl (nI h)), none, none]) rfl).trans ?_
  rw [e_X1_humOf_0]
  exact x1_humOf_l L xs O d i0 h hh M 24 FUEL 2938 none (Nat.le_of_lt (FU (by omega))) (by omega)
def needF (ears hums : Nat → Int32) (k h : Nat) : Int32 := if 1 < ears k + humF hums h 24 then ears k + humF hums h 24 else 1
theorem x1_needOf {D : Nat} (hD : 3 ≤ D) (i0 k h : Nat) (hk : k < 8) (hh : h < 24) (M : Mem) : EX L xs (D) q_X1_needOf [.inr (.inr (3, i0)), .inl (nI k), .inl (nI h)] M O = (some (.inl (some (.inl (needF (M 8 i0) (M 9 i0) k h))), M, O, 0, 0) : Res) := by
  obtain ⟨d, rfl⟩ : ∃ d, D = d + 2 := ⟨D - 2, by omega⟩
  refine (EX_in mi_X1_needOf rfl rfl rfl (ls := [some (.inr (.inr (3, i0))), some (.inl (nI k)), some (.inl (nI h))]) rfl).trans ?_
  simp (disch := first | omega | rfl | decide) only [e_X1_needOf_0, e_X1_needOf_12, e_X1_needOf_16, xr_v, xr_n, hl_of, hl_cl, hl_toInt, hl_le, hl_lt, hl_eq, hl_leR, hl_leL, hl_ltR, hl_ltL, hl_eqR, hl_addR, nI_add, hl_sub, hl_subR, hl_sub0, hl_mulR, hl_mulL, pk_mul, hl_div, hl_divR, if_pos, if_neg, ↓reduceIte, Nat.reduceAdd, Nat.reduceSub, Nat.reduceMul, Nat.add_zero, Nat.zero_add, mp_s, mp_k, mp_i, mp_g, mr_s, mr_i, mr_g, x1_humOf L xs O (D := d + 1) (by omega) i0 h hh M]
  rfl
theorem x1_soundsIn {D : Nat} (hD : 3 ≤ D) (i0 k h : Nat) (hk : k < 6) (M : Mem) : EX L xs (D) q_X1_soundsIn [.inr (.inr (3, i0)), .inl (nI k), .inl (nI h)] M O = (some (.inl (some (.inl (if (M 13 i0 k >>> (nI h &&& 31)) &&& 1 = 1 then 1 else 0))), M, O, 0, 0) : Res) := by
  obtain ⟨d, rfl⟩ : ∃ d, D = d + 2 := ⟨D - 2, by omega⟩
  refine (EX_in mi_X1_soundsIn rfl rfl rfl (ls := [some (.inr (.inr (3, i0))), some (.inl (nI k)), some (.inl (nI h))]) rfl).trans ?_
  simp (disch := first | omega | rfl | decide) only [e_X1_soundsIn_0, e_X1_soundsIn_10, xr_v, xr_n, hl_of, hl_cl, hl_toInt, hl_le, hl_lt, hl_eq, hl_leR, hl_leL, hl_ltR, hl_ltL, hl_eqR, hl_addR, nI_add, hl_sub, hl_subR, hl_sub0, hl_mulR, hl_mulL, pk_mul, hl_div, hl_divR, if_pos, if_neg, ↓reduceIte, Nat.reduceAdd, Nat.reduceSub, Nat.reduceMul, Nat.add_zero, Nat.zero_add, mp_s, mp_k, mp_i, mp_g, mr_s, mr_i, mr_g, x6_hasBit L xs O (D := d + 1) (by omega)]
  split <;> rfl
/-! the reference's -/
theorem x7_humOf_b (d h : Nat) (hh : h < 24) (M : Mem) : ∀ r fuel k, r ≤ fuel → h + r ≤ 23 →
    BK L xs (EX L xs (d + 1)) mi_X7_humOf (RN L xs (d) mi_X7_humOf fuel) (k + 60) 32 [some (.inr (.inr (40, 0))), some (.inl (nI h)), some (.inl (nI (h + r)))] [] M O none 0 0 = (some (.inl (some (.inl (humF (M 52 0) h r))), M, O, 0, 0) : Res) := by
  intro r
  induction r with
  | zero =>
    intro fuel k hf hr
    simp (disch := first | omega | rfl | decide) only [e_X7_humOf_0, e_X7_humOf_2, e_X7_humOf_32, xr_v, xr_n, hl_of, hl_cl, hl_toInt, hl_le, hl_lt, hl_eq, hl_leR, hl_leL, hl_ltR, hl_ltL, hl_eqR, hl_addR, nI_add, hl_sub, hl_subR, hl_sub0, hl_mulR, hl_mulL, pk_mul, hl_div, hl_divR, if_pos, if_neg, ↓reduceIte, Nat.reduceAdd, Nat.reduceSub, Nat.reduceMul, Nat.add_zero, Nat.zero_add, mp_s, mp_k, mp_i, mp_g, mr_s, mr_i, mr_g]
    rfl
  | succ r ih =>
    intro fuel k hf hr
    obtain ⟨f, rfl⟩ : ∃ f, fuel = f + 1 := ⟨fuel - 1, by omega⟩
    have e : (h + r + 1) % 24 = h + (r + 1) := by omega
    have e2 : h + (r + 1) = (h + r) + 1 := by omega
    by_cases hc : M 52 0 (h + (r + 1)) = -1
    · simp (disch := first | omega | rfl | decide) only [e_X7_humOf_0, e_X7_humOf_2, e_X7_humOf_32, xr_v, xr_n, hl_of, hl_cl, hl_toInt, hl_le, hl_lt, hl_eq, hl_leR, hl_leL, hl_ltR, hl_ltL, hl_eqR, hl_addR, nI_add, hl_sub, hl_subR, hl_sub0, hl_mulR, hl_mulL, pk_mul, hl_div, hl_divR, if_pos, if_neg, ↓reduceIte, Nat.reduceAdd, Nat.reduceSub, Nat.reduceMul, Nat.add_zero, Nat.zero_add, mp_s, mp_k, mp_i, mp_g, mr_s, mr_i, mr_g, hc, humF, e]
      rw [e2, hl_m1]
      exact RN_of (ih f 2940 (by omega) (by omega))
    · simp (disch := first | omega | rfl | decide) only [e_X7_humOf_0, e_X7_humOf_2, e_X7_humOf_32, xr_v, xr_n, hl_of, hl_cl, hl_toInt, hl_le, hl_lt, hl_eq, hl_leR, hl_leL, hl_ltR, hl_ltL, hl_eqR, hl_addR, nI_add, hl_sub, hl_subR, hl_sub0, hl_mulR, hl_mulL, pk_mul, hl_div, hl_divR, if_pos, if_neg, ↓reduceIte, Nat.reduceAdd, Nat.reduceSub, Nat.reduceMul, Nat.add_zero, Nat.zero_add, mp_s, mp_k, mp_i, mp_g, mr_s, mr_i, mr_g, hc, humF, e]
theorem x7_humOf_a (d h : Nat) (hh : h < 24) (M : Mem) : ∀ r fuel k, r + 30 < fuel → r ≤ h →
    BK L xs (EX L xs (d + 1)) mi_X7_humOf (RN L xs (d) mi_X7_humOf fuel) (k + 60) 2 [some (.inr (.inr (40, 0))), some (.inl (nI h)), some (.inl (nI r))] [] M O none 0 0 = (some (.inl (some (.inl (humF (M 52 0) h (r + 24 - h)))), M, O, 0, 0) : Res) := by
  intro r
  induction r with
  | zero =>
    intro fuel k hf hr
    obtain ⟨f, rfl⟩ : ∃ f, fuel = f + 1 := ⟨fuel - 1, by omega⟩
    obtain ⟨q, hq⟩ : ∃ q, 0 + 24 - h = q + 1 := ⟨0 + 24 - h - 1, by omega⟩
    have e : (h + q + 1) % 24 = 0 := by omega
    have e3 : nI 23 = nI (h + q) := by congr 1; omega
    by_cases hc : M 52 0 0 = -1
    · simp (disch := first | omega | rfl | decide) only [e_X7_humOf_0, e_X7_humOf_2, e_X7_humOf_32, xr_v, xr_n, hl_of, hl_cl, hl_toInt, hl_le, hl_lt, hl_eq, hl_leR, hl_leL, hl_ltR, hl_ltL, hl_eqR, hl_addR, nI_add, hl_sub, hl_subR, hl_sub0, hl_mulR, hl_mulL, pk_mul, hl_div, hl_divR, if_pos, if_neg, ↓reduceIte, Nat.reduceAdd, Nat.reduceSub, Nat.reduceMul, Nat.add_zero, Nat.zero_add, mp_s, mp_k, mp_i, mp_g, mr_s, mr_i, mr_g, hc, humF, e, hq]
      refine RN_of ?_
      rw [e_X7_humOf_2, if_pos (by decide)]
      exact (congrArg (fun z => BK L xs (EX L xs (d + 1)) mi_X7_humOf (RN L xs (d) mi_X7_humOf f) (2937 + 60) 32 [some (.inr (.inr (40, 0))), some (.inl (nI h)), some (.inl (z))] [] M O none 0 0) e3).trans (x7_humOf_b L xs O d h hh M q f 2937 (by omega) (by omega))
    · simp (disch := first | omega | rfl | decide) only [e_X7_humOf_0, e_X7_humOf_2, e_X7_humOf_32, xr_v, xr_n, hl_of, hl_cl, hl_toInt, hl_le, hl_lt, hl_eq, hl_leR, hl_leL, hl_ltR, hl_ltL, hl_eqR, hl_addR, nI_add, hl_sub, hl_subR, hl_sub0, hl_mulR, hl_mulL, pk_mul, hl_div, hl_divR, if_pos, if_neg, ↓reduceIte, Nat.reduceAdd, Nat.reduceSub, Nat.reduceMul, Nat.add_zero, Nat.zero_add, mp_s, mp_k, mp_i, mp_g, mr_s, mr_i, mr_g, hc, humF, e, hq]
  | succ r ih =>
    intro fuel k hf hr
    obtain ⟨f, rfl⟩ : ∃ f, fuel = f + 1 := ⟨fuel - 1, by omega⟩
    obtain ⟨q, hq⟩ : ∃ q, r + 1 + 24 - h = q + 1 := ⟨r + 24 - h, by omega⟩
    have e : (h + q + 1) % 24 = r + 1 := by omega
    have e4 : q = r + 24 - h := by omega
    by_cases hc : M 52 0 (r + 1) = -1
    · simp (disch := first | omega | rfl | decide) only [e_X7_humOf_0, e_X7_humOf_2, e_X7_humOf_32, xr_v, xr_n, hl_of, hl_cl, hl_toInt, hl_le, hl_lt, hl_eq, hl_leR, hl_leL, hl_ltR, hl_ltL, hl_eqR, hl_addR, nI_add, hl_sub, hl_subR, hl_sub0, hl_mulR, hl_mulL, pk_mul, hl_div, hl_divR, if_pos, if_neg, ↓reduceIte, Nat.reduceAdd, Nat.reduceSub, Nat.reduceMul, Nat.add_zero, Nat.zero_add, mp_s, mp_k, mp_i, mp_g, mr_s, mr_i, mr_g, hc, humF, e, hq]
      rw [hl_m1, e4]
      exact RN_of (ih f 2940 (by omega) (by omega))
    · simp (disch := first | omega | rfl | decide) only [e_X7_humOf_0, e_X7_humOf_2, e_X7_humOf_32, xr_v, xr_n, hl_of, hl_cl, hl_toInt, hl_le, hl_lt, hl_eq, hl_leR, hl_leL, hl_ltR, hl_ltL, hl_eqR, hl_addR, nI_add, hl_sub, hl_subR, hl_sub0, hl_mulR, hl_mulL, pk_mul, hl_div, hl_divR, if_pos, if_neg, ↓reduceIte, Nat.reduceAdd, Nat.reduceSub, Nat.reduceMul, Nat.add_zero, Nat.zero_add, mp_s, mp_k, mp_i, mp_g, mr_s, mr_i, mr_g, hc, humF, e, hq]
theorem x7_humOf {D : Nat} (hD : 2 ≤ D) (h : Nat) (hh : h < 24) (M : Mem) : EX L xs (D) q_X7_humOf [.inr (.inr (40, 0)), .inl (nI h)] M O = (some (.inl (some (.inl (humF (M 52 0) h 24))), M, O, 0, 0) : Res) := by
  obtain ⟨d, rfl⟩ : ∃ d, D = d + 2 := ⟨D - 2, by omega⟩
  refine (EX_in mi_X7_humOf rfl rfl rfl (ls := [some (.inr (.inr (40, 0))), some (.inl (nI h)), none]) rfl).trans ?_
  rw [e_X7_humOf_0]
  have := x7_humOf_a L xs O d h hh M h FUEL 2938 (FU (by omega)) (Nat.le_refl _)
  rw [show h + 24 - h = 24 by omega] at this
  exact this
end
