/-! A saying on the morrow. -/
def aW (A : Nat → Int32) : Nat := (A 13).toNatClampNeg
def aF (A : Nat → Int32) : Nat := (A 14).toNatClampNeg
/-- AIRS as they can be told -/
def AOK (As : Nat → Nat → Int32) (na : Nat) : Prop := ∀ a, a < na → As a 13 = nI (aW (As a)) ∧ 1 ≤ aW (As a) ∧ aW (As a) ≤ 99 ∧ As a 14 = nI (aF (As a)) ∧ aF (As a) ≤ 8
def sumN (w : Nat → Nat) (p : Nat → Bool) : Nat → Nat
  | 0 => 0
  | a + 1 => if p a = true then sumN w p a + w a else sumN w p a
theorem sumN_t {w : Nat → Nat} {p : Nat → Bool} {j : Nat} (h : p j = true) : sumN w p (j + 1) = sumN w p j + w j := if_pos h
theorem sumN_f {w : Nat → Nat} {p : Nat → Bool} {j : Nat} (h : p j = false) : sumN w p (j + 1) = sumN w p j := if_neg (fun e => by rw [h] at e; cases e)
theorem sumN_le {w : Nat → Nat} {p : Nat → Bool} {B : Nat} : ∀ m, (∀ a, a < m → w a ≤ B) → sumN w p m ≤ B * m := by
  intro m
  induction m with
  | zero => intro _; exact Nat.le_refl _
  | succ m ih =>
    intro h
    have h1 := ih (fun a ha => h a (by omega))
    have h2 := h m (by omega)
    have h3 : B * (m + 1) = B * m + B := Nat.mul_succ B m
    unfold sumN
    split <;> omega
/-- Euclid's steps end -/
def eT : Nat → Nat → Nat → Prop
  | 0, _, y => y = 0
  | f + 1, x, y => y = 0 ∨ eT f y (x % y)
theorem mod_two {x y : Nat} (hy : 0 < y) (h : y < x) : x % y + y ≤ x := by
  have h1 := Nat.div_add_mod x y
  have h2 : 1 ≤ x / y := Nat.div_pos (by omega) hy
  have h3 := Nat.mul_le_mul_left y h2
  omega
theorem eT_ok : ∀ m f x y, 2 * m ≤ f → y < x → x < 2 ^ m → eT f x y := by
  intro m
  induction m with
  | zero => intro f x y _ h1 h2; omega
  | succ m ih =>
    intro f x y hf h1 h2
    obtain ⟨f, rfl⟩ : ∃ f', f = f' + 2 := ⟨f - 2, by omega⟩
    by_cases c : y = 0
    · exact Or.inl c
    · refine Or.inr ?_
      have hr := Nat.mod_lt x (show 0 < y by omega)
      by_cases c2 : x % y = 0
      · exact Or.inl c2
      · refine Or.inr (ih f _ _ (by omega) (Nat.mod_lt _ (by omega)) ?_)
        have := mod_two (show 0 < y by omega) h1
        have hp : 2 ^ (m + 1) = 2 ^ m * 2 := Nat.pow_succ 2 m
        omega
theorem eT_start {x y : Nat} (hx : x < 8192) (hy : y < 8192) : eT 64 x y := by
  by_cases c : y = 0
  · exact Or.inl c
  · exact Or.inr (eT_ok 13 63 y (x % y) (by omega) (Nat.mod_lt _ (by omega)) hy)
theorem gcd_s (x y : Nat) : Nat.gcd y (x % y) = Nat.gcd x y := by
  rw [Nat.gcd_comm x y, Nat.gcd_rec y x, Nat.gcd_comm]
def sayF (u l w : Nat) : Int32 := if l = 0 then nI (w % 2) else nI ((if w % 2 = 0 then u else l) / Nat.gcd u l)
section
variable (L : Nat) (xs : Nat → Int32) (O : Int64)
theorem x6_commonDivisor {D : Nat} (hD : 2 ≤ D) (u l : Nat) (hu : u < 8192) (hl : l < 8192) (hl0 : l ≠ 0) (M : Mem) : EX L xs (D) q_X6_commonDivisor [.inl (nI u), .inl (nI l)] M O = (some (.inl (some (.inl (nI (Nat.gcd u l)))), M, O, 0, 0) : Res) := by
  have hg : 0 < Nat.gcd u l := Nat.gcd_pos_of_pos_right u (by omega)
  obtain ⟨d, rfl⟩ : ∃ d, D = d + 2 := ⟨D - 2, by omega⟩
  refine (EX_in mi_X6_commonDivisor rfl rfl rfl (ls := [some (.inl (nI u)), some (.inl (nI l)), none, none, none, none]) rfl).trans ?_
  rw [e_X6_commonDivisor_0]
  refine loopA L xs O (P := fun r => r = (some (.inl (some (.inl (nI (Nat.gcd u l)))), M, O, 0, 0) : Res)) (fun j ls M' => ∃ x y u5, ls = [some (.inl (nI u)), some (.inl (nI l)), some (.inl (nI x)), some (.inl (nI y)), some (.inl (nI j)), u5] ∧ eT (64 - j) x y ∧ Nat.gcd x y = Nat.gcd u l ∧ x < 8192 ∧ y < 8192 ∧ M' = M) 64 100 (by omega) ?_ ?_ (Nat.le_of_lt (FU (by omega))) ⟨u, l, _, rfl, eT_start hu hl, rfl, hu, hl, rfl⟩
  · rintro f k j _ M' hj ⟨x, y, u5, rfl, hT, hG, hx, hy, e⟩ ih
    rw [e]
    by_cases c : y = 0
    · subst c
      rw [Nat.gcd_zero_right] at hG
      subst hG
      have h0 : (0 : Int32) = 0 := rfl
      rw [e_X6_commonDivisor_7, if_neg (by rw [yle_64 (by omega)]; omega), if_pos (by rw [zeq_0 (by omega)]), e_X6_commonDivisor_34, if_pos (by rw [ylt_0 (by omega)]; omega), e_X6_commonDivisor_43]
    · have em : x - x / y * y = x % y := by
        have h1 := Nat.div_add_mod x y
        rw [Nat.mul_comm] at h1
        omega
      have hd2 : x / y * y ≤ x := Nat.div_mul_le_self x y
      have hmx := Nat.mod_lt x (show 0 < y by omega)
      simp (disch := first | omega | rfl | decide) only [e_X6_commonDivisor_0, e_X6_commonDivisor_7, e_X6_commonDivisor_34, e_X6_commonDivisor_43, xr_v, xr_n, hl_of, hl_cl, hl_toInt, hl_le, hl_lt, hl_eq, nI_add, hl_sub, pk_mul, hl_div, if_pos, if_neg, ↓reduceIte, Nat.reduceAdd, Nat.reduceSub, Nat.reduceMul, Nat.add_zero, Nat.zero_add, mp_s, mp_k, mp_i, mp_g, mr_s, mr_i, mr_g, zlt_0, zlt_1, zlt_2, zlt_3, zlt_4, zlt_5, zlt_6, zlt_8, zlt_12, zlt_15, zlt_20, zlt_24, zlt_36, zlt_40, zlt_48, zlt_80, zlt_97, zlt_120, zlt_256, zlt_600, zlt_99999999, zadd_1, zadd_2, zadd_5, zadd_6, zadd_8, zadd_20, zadd_24, zeq_0, zeq_1, zeq_2, zeq_3, zeq_4, zeq_5, zeq_6, zeq_7, zeq_8, zeq_13, zeq_14, zeq_20, zeq_32, zeq_59, zeq_60, zeq_80, zmul_2, zmul_4, zmul_6, zmul_8, zmul_10, zmul_24, zsub_1, zsub_2, zsub_10, zsub_48, zsub_97, zle_0, zle_1, zle_2, zle_6, zle_11, zle_200, zle_600, zle_100000000, ylt_0, ylt_1, ylt_2, ylt_3, ylt_6, ylt_9, ylt_20, ylt_24, ylt_57, ylt_60, ylt_99, ylt_120, ylt_122, ylt_999, ylt_9999, yle_0, yle_2, yle_4, yle_5, yle_6, yle_7, yle_8, yle_10, yle_12, yle_13, yle_15, yle_16, yle_20, yle_24, yle_40, yle_60, yle_64, yle_80, yadd_1, yadd_22, ymul_2, ymul_4, ymul_6, ymul_8, ymul_10, ymul_24, ymul_27, ymul_100, ysub_1, ysub_24, zdiv_2, zdiv_4, zdiv_24, em]
      obtain ⟨q, hq⟩ : ∃ q, 64 - j = q + 1 := ⟨63 - j, by omega⟩
      rw [hq] at hT
      refine ih _ _ ⟨y, x % y, _, rfl, ?_, (gcd_s x y).trans hG, hy, by omega, rfl⟩
      rw [show 64 - (j + 1) = q by omega]
      exact hT.resolve_left c
  · rintro f k _ M' ⟨x, y, u5, rfl, hT, hG, hx, hy, e⟩
    have hy0 : y = 0 := hT
    subst hy0
    rw [Nat.gcd_zero_right] at hG
    subst hG
    rw [e, e_X6_commonDivisor_7, if_pos (by decide), e_X6_commonDivisor_34, if_pos (by rw [ylt_0 (by omega)]; omega), e_X6_commonDivisor_43]
theorem c_saying {M0 : Mem} {V : Vw} {As : Nat → Nat → Int32} {n nh ns nw na : Nat} {D : Nat} (hD : 9 ≤ D) (hA : AOK As na) (k0 s h w : Nat) (hk : k0 < nh) (hs : s < ns) (hh : h < 24) (hw : w < 4) (M : Mem) (hM : CQ M0 V As n nh ns nw na M) : isI (EX L xs (D) q_X6_saying [.inr (.inr (0, 0)), .inl (nI k0), .inl (nI s), .inl (nI h), .inl (nI w)] M O) O (sayF (sumN (fun a => aW (As a) * aF (As a)) (fun a => oneF V (As a) n h k0 s == decide (w < 2)) na) (sumN (fun a => aW (As a) * 8) (fun a => oneF V (As a) n h k0 s == decide (w < 2)) na) w) (CQ M0 V As n nh ns nw na) := by
  have hV := hM.2.1
  have v5 : n ≤ 40 := hV.2.2.2.2.2.1
  have v6 : nh ≤ 8 := hV.2.2.2.2.2.2.1
  have v7 : ns ≤ 6 := hV.2.2.2.2.2.2.2.1
  have v8 : nw ≤ 8 := hV.2.2.2.2.2.2.2.2.1
  have h6 : na ≤ 6 := hM.2.2.2.2.1
  have g0 := (hM.2.2.1 3 0 rfl).trans hV.1
  have g4 := (hM.2.2.1 3 4 rfl).trans hV.2.1
  have g8 := (hM.2.2.1 3 8 rfl).trans hV.2.2.1
  have g13 := (hM.2.2.1 3 13 rfl).trans hV.2.2.2.1
  have g6 := hM.2.2.2.1
  obtain ⟨d, rfl⟩ : ∃ d, D = d + 2 := ⟨D - 2, by omega⟩
  refine isI_e (EX_in mi_X6_saying rfl rfl rfl (ls := [some (.inr (.inr (0, 0))), some (.inl (nI k0)), some (.inl (nI s)), some (.inl (nI h)), some (.inl (nI w)), none, none, none, none]) rfl) ?_
  have q1 := x6_needHouse_in L xs O (D := d + 1) (by omega) (by omega) k0 M g4 hk
  have q2 := x6_needSource_in L xs O (D := d + 1) (by omega) (by omega) s M g8 hs
  have q3 := x6_needHour_in L xs O (D := d + 1) (by omega) h M hh
  have q4 := x6_w4_in L xs O (D := d + 1) (by omega) w M hw
  have bw : ∀ a, a < na → aW (As a) * aF (As a) ≤ 792 := fun a ha => by
    have h1 := hA a ha
    have := Nat.mul_le_mul h1.2.2.1 h1.2.2.2.2
    omega
  have bw8 : ∀ a, a < na → aW (As a) * 8 ≤ 792 := fun a ha => by
    have h1 := hA a ha
    omega
  have key : ∀ k', isI (BK L xs (EX L xs (d + 1)) mi_X6_saying (RN L xs (d) mi_X6_saying FUEL) (k' + 400) 44 [some (.inr (.inr (0, 0))), some (.inl (nI k0)), some (.inl (nI s)), some (.inl (nI h)), some (.inl (nI w)), some (.inl (b2i (decide (w < 2)))), some (.inl (0)), some (.inl (0)), some (.inl (0))] [] M O none 0 0) O (sayF (sumN (fun a => aW (As a) * aF (As a)) (fun a => oneF V (As a) n h k0 s == decide (w < 2)) na) (sumN (fun a => aW (As a) * 8) (fun a => oneF V (As a) n h k0 s == decide (w < 2)) na) w) (CQ M0 V As n nh ns nw na) := by
    intro k'
    refine loopA L xs O (P := fun r => isI r O _ (CQ M0 V As n nh ns nw na)) (fun j ls M => ∃ u l, u = sumN (fun a => aW (As a) * aF (As a)) (fun a => oneF V (As a) n h k0 s == decide (w < 2)) j ∧ l = sumN (fun a => aW (As a) * 8) (fun a => oneF V (As a) n h k0 s == decide (w < 2)) j ∧ ls = [some (.inr (.inr (0, 0))), some (.inl (nI k0)), some (.inl (nI s)), some (.inl (nI h)), some (.inl (nI w)), some (.inl (b2i (decide (w < 2)))), some (.inl (nI u)), some (.inl (nI l)), some (.inl (nI j))] ∧ CQ M0 V As n nh ns nw na M) na 300 (by omega) ?_ ?_ (Nat.le_of_lt (FU (by omega))) ⟨_, _, rfl, rfl, rfl, hM⟩
    · rintro f k j _ M hj ⟨u, l, hu, hl, rfl, hM⟩ ih
      have hV := hM.2.1
      have v5 : n ≤ 40 := hV.2.2.2.2.2.1
      have v6 : nh ≤ 8 := hV.2.2.2.2.2.2.1
      have v7 : ns ≤ 6 := hV.2.2.2.2.2.2.2.1
      have v8 : nw ≤ 8 := hV.2.2.2.2.2.2.2.2.1
      have h6 : na ≤ 6 := hM.2.2.2.2.1
      have g0 := (hM.2.2.1 3 0 rfl).trans hV.1
      have g4 := (hM.2.2.1 3 4 rfl).trans hV.2.1
      have g8 := (hM.2.2.1 3 8 rfl).trans hV.2.2.1
      have g13 := (hM.2.2.1 3 13 rfl).trans hV.2.2.2.1
      have g6 := hM.2.2.2.1
      obtain ⟨M1, q5, h1⟩ := x6_hearsAlone L xs O (D := d + 1) (by omega) k0 j s h hk hj hs hh M hM
      obtain ⟨a1, a2, a3, a4, a5⟩ := hA j hj
      have g2 := ((h1.2.2.2.2.2.1 j hj).2.2.1).trans a1
      have g3 := ((h1.2.2.2.2.2.1 j hj).2.2.2).trans a4
      by_cases c : oneF V (As j) n h k0 s = decide (w < 2)
      · rw [c] at q5
        simp (disch := first | omega | rfl | decide) only [e_X6_saying_0, e_X6_saying_5, e_X6_saying_10, e_X6_saying_15, e_X6_saying_22, e_X6_saying_33, e_X6_saying_44, e_X6_saying_141, e_X6_saying_62, e_X6_saying_148, e_X6_saying_111, xr_v, xr_n, hl_of, hl_cl, hl_toInt, hl_le, hl_lt, hl_eq, nI_add, hl_sub, pk_mul, hl_div, if_pos, if_neg, ↓reduceIte, Nat.reduceAdd, Nat.reduceSub, Nat.reduceMul, Nat.add_zero, Nat.zero_add, mp_s, mp_k, mp_i, mp_g, mr_s, mr_i, mr_g, zlt_0, zlt_1, zlt_2, zlt_3, zlt_4, zlt_5, zlt_6, zlt_8, zlt_12, zlt_15, zlt_20, zlt_24, zlt_36, zlt_40, zlt_48, zlt_80, zlt_97, zlt_120, zlt_256, zlt_600, zlt_99999999, zadd_1, zadd_2, zadd_5, zadd_6, zadd_8, zadd_20, zadd_24, zeq_0, zeq_1, zeq_2, zeq_3, zeq_4, zeq_5, zeq_6, zeq_7, zeq_8, zeq_13, zeq_14, zeq_20, zeq_32, zeq_59, zeq_60, zeq_80, zmul_2, zmul_4, zmul_6, zmul_8, zmul_10, zmul_24, zsub_1, zsub_2, zsub_10, zsub_48, zsub_97, zle_0, zle_1, zle_2, zle_6, zle_11, zle_200, zle_600, zle_100000000, ylt_0, ylt_1, ylt_2, ylt_3, ylt_6, ylt_9, ylt_20, ylt_24, ylt_57, ylt_60, ylt_99, ylt_120, ylt_122, ylt_999, ylt_9999, yle_0, yle_2, yle_4, yle_5, yle_6, yle_7, yle_8, yle_10, yle_12, yle_13, yle_15, yle_16, yle_20, yle_24, yle_40, yle_60, yle_64, yle_80, yadd_1, yadd_22, ymul_2, ymul_4, ymul_6, ymul_8, ymul_10, ymul_24, ymul_27, ymul_100, ysub_1, ysub_24, zdiv_2, zdiv_4, zdiv_24, g6, q5, g2, g3]
        refine ih _ _ ⟨_, _, ?_, ?_, rfl, h1⟩
        · rw [sumN_t (by simp [c]), hu]
        · rw [sumN_t (by simp [c]), hl]
      · have c' : ¬ b2i (oneF V (As j) n h k0 s) = b2i (decide (w < 2)) := by
          intro e
          revert e c
          cases oneF V (As j) n h k0 s <;> cases decide (w < 2) <;> simp [b2i]
        simp (disch := first | omega | rfl | decide) only [e_X6_saying_0, e_X6_saying_5, e_X6_saying_10, e_X6_saying_15, e_X6_saying_22, e_X6_saying_33, e_X6_saying_44, e_X6_saying_141, e_X6_saying_62, e_X6_saying_148, e_X6_saying_111, xr_v, xr_n, hl_of, hl_cl, hl_toInt, hl_le, hl_lt, hl_eq, nI_add, hl_sub, pk_mul, hl_div, if_pos, if_neg, ↓reduceIte, Nat.reduceAdd, Nat.reduceSub, Nat.reduceMul, Nat.add_zero, Nat.zero_add, mp_s, mp_k, mp_i, mp_g, mr_s, mr_i, mr_g, zlt_0, zlt_1, zlt_2, zlt_3, zlt_4, zlt_5, zlt_6, zlt_8, zlt_12, zlt_15, zlt_20, zlt_24, zlt_36, zlt_40, zlt_48, zlt_80, zlt_97, zlt_120, zlt_256, zlt_600, zlt_99999999, zadd_1, zadd_2, zadd_5, zadd_6, zadd_8, zadd_20, zadd_24, zeq_0, zeq_1, zeq_2, zeq_3, zeq_4, zeq_5, zeq_6, zeq_7, zeq_8, zeq_13, zeq_14, zeq_20, zeq_32, zeq_59, zeq_60, zeq_80, zmul_2, zmul_4, zmul_6, zmul_8, zmul_10, zmul_24, zsub_1, zsub_2, zsub_10, zsub_48, zsub_97, zle_0, zle_1, zle_2, zle_6, zle_11, zle_200, zle_600, zle_100000000, ylt_0, ylt_1, ylt_2, ylt_3, ylt_6, ylt_9, ylt_20, ylt_24, ylt_57, ylt_60, ylt_99, ylt_120, ylt_122, ylt_999, ylt_9999, yle_0, yle_2, yle_4, yle_5, yle_6, yle_7, yle_8, yle_10, yle_12, yle_13, yle_15, yle_16, yle_20, yle_24, yle_40, yle_60, yle_64, yle_80, yadd_1, yadd_22, ymul_2, ymul_4, ymul_6, ymul_8, ymul_10, ymul_24, ymul_27, ymul_100, ysub_1, ysub_24, zdiv_2, zdiv_4, zdiv_24, g6, q5, c']
        refine ih _ _ ⟨_, _, ?_, ?_, rfl, h1⟩
        · rw [sumN_f (by simp [c]), hu]
        · rw [sumN_f (by simp [c]), hl]
    · rintro f k _ M ⟨u, l, hu, hl, rfl, hM⟩
      have hV := hM.2.1
      have v5 : n ≤ 40 := hV.2.2.2.2.2.1
      have v6 : nh ≤ 8 := hV.2.2.2.2.2.2.1
      have v7 : ns ≤ 6 := hV.2.2.2.2.2.2.2.1
      have v8 : nw ≤ 8 := hV.2.2.2.2.2.2.2.2.1
      have h6 : na ≤ 6 := hM.2.2.2.2.1
      have g0 := (hM.2.2.1 3 0 rfl).trans hV.1
      have g4 := (hM.2.2.1 3 4 rfl).trans hV.2.1
      have g8 := (hM.2.2.1 3 8 rfl).trans hV.2.2.1
      have g13 := (hM.2.2.1 3 13 rfl).trans hV.2.2.2.1
      have g6 := hM.2.2.2.1
      rw [← hu, ← hl]
      have hub := sumN_le (p := fun a => oneF V (As a) n h k0 s == decide (w < 2)) na bw
      have hlb := sumN_le (p := fun a => oneF V (As a) n h k0 s == decide (w < 2)) na bw8
      rw [← hu] at hub
      rw [← hl] at hlb
      have e2 : w - w / 2 * 2 = w % 2 := by omega
      unfold sayF
      by_cases c : l = 0
      · rw [if_pos c]
        simp (disch := first | omega | rfl | decide) only [e_X6_saying_0, e_X6_saying_5, e_X6_saying_10, e_X6_saying_15, e_X6_saying_22, e_X6_saying_33, e_X6_saying_44, e_X6_saying_141, e_X6_saying_62, e_X6_saying_148, e_X6_saying_111, xr_v, xr_n, hl_of, hl_cl, hl_toInt, hl_le, hl_lt, hl_eq, nI_add, hl_sub, pk_mul, hl_div, if_pos, if_neg, ↓reduceIte, Nat.reduceAdd, Nat.reduceSub, Nat.reduceMul, Nat.add_zero, Nat.zero_add, mp_s, mp_k, mp_i, mp_g, mr_s, mr_i, mr_g, zlt_0, zlt_1, zlt_2, zlt_3, zlt_4, zlt_5, zlt_6, zlt_8, zlt_12, zlt_15, zlt_20, zlt_24, zlt_36, zlt_40, zlt_48, zlt_80, zlt_97, zlt_120, zlt_256, zlt_600, zlt_99999999, zadd_1, zadd_2, zadd_5, zadd_6, zadd_8, zadd_20, zadd_24, zeq_0, zeq_1, zeq_2, zeq_3, zeq_4, zeq_5, zeq_6, zeq_7, zeq_8, zeq_13, zeq_14, zeq_20, zeq_32, zeq_59, zeq_60, zeq_80, zmul_2, zmul_4, zmul_6, zmul_8, zmul_10, zmul_24, zsub_1, zsub_2, zsub_10, zsub_48, zsub_97, zle_0, zle_1, zle_2, zle_6, zle_11, zle_200, zle_600, zle_100000000, ylt_0, ylt_1, ylt_2, ylt_3, ylt_6, ylt_9, ylt_20, ylt_24, ylt_57, ylt_60, ylt_99, ylt_120, ylt_122, ylt_999, ylt_9999, yle_0, yle_2, yle_4, yle_5, yle_6, yle_7, yle_8, yle_10, yle_12, yle_13, yle_15, yle_16, yle_20, yle_24, yle_40, yle_60, yle_64, yle_80, yadd_1, yadd_22, ymul_2, ymul_4, ymul_6, ymul_8, ymul_10, ymul_24, ymul_27, ymul_100, ysub_1, ysub_24, zdiv_2, zdiv_4, zdiv_24, g6, e2]
        exact isI_i hM
      · rw [if_neg c]
        have q6 := x6_commonDivisor L xs O (D := d + 1) (by omega) u l (by omega) (by omega) c M
        have hg : 0 < Nat.gcd u l := Nat.gcd_pos_of_pos_right u (by omega)
        have hgl : Nat.gcd u l ≤ l := Nat.gcd_le_right u (by omega)
        by_cases c2 : w % 2 = 0
        · rw [if_pos c2]
          simp (disch := first | omega | rfl | decide) only [e_X6_saying_0, e_X6_saying_5, e_X6_saying_10, e_X6_saying_15, e_X6_saying_22, e_X6_saying_33, e_X6_saying_44, e_X6_saying_141, e_X6_saying_62, e_X6_saying_148, e_X6_saying_111, xr_v, xr_n, hl_of, hl_cl, hl_toInt, hl_le, hl_lt, hl_eq, nI_add, hl_sub, pk_mul, hl_div, if_pos, if_neg, ↓reduceIte, Nat.reduceAdd, Nat.reduceSub, Nat.reduceMul, Nat.add_zero, Nat.zero_add, mp_s, mp_k, mp_i, mp_g, mr_s, mr_i, mr_g, zlt_0, zlt_1, zlt_2, zlt_3, zlt_4, zlt_5, zlt_6, zlt_8, zlt_12, zlt_15, zlt_20, zlt_24, zlt_36, zlt_40, zlt_48, zlt_80, zlt_97, zlt_120, zlt_256, zlt_600, zlt_99999999, zadd_1, zadd_2, zadd_5, zadd_6, zadd_8, zadd_20, zadd_24, zeq_0, zeq_1, zeq_2, zeq_3, zeq_4, zeq_5, zeq_6, zeq_7, zeq_8, zeq_13, zeq_14, zeq_20, zeq_32, zeq_59, zeq_60, zeq_80, zmul_2, zmul_4, zmul_6, zmul_8, zmul_10, zmul_24, zsub_1, zsub_2, zsub_10, zsub_48, zsub_97, zle_0, zle_1, zle_2, zle_6, zle_11, zle_200, zle_600, zle_100000000, ylt_0, ylt_1, ylt_2, ylt_3, ylt_6, ylt_9, ylt_20, ylt_24, ylt_57, ylt_60, ylt_99, ylt_120, ylt_122, ylt_999, ylt_9999, yle_0, yle_2, yle_4, yle_5, yle_6, yle_7, yle_8, yle_10, yle_12, yle_13, yle_15, yle_16, yle_20, yle_24, yle_40, yle_60, yle_64, yle_80, yadd_1, yadd_22, ymul_2, ymul_4, ymul_6, ymul_8, ymul_10, ymul_24, ymul_27, ymul_100, ysub_1, ysub_24, zdiv_2, zdiv_4, zdiv_24, g6, e2, q6]
          exact isI_i hM
        · rw [if_neg c2]
          simp (disch := first | omega | rfl | decide) only [e_X6_saying_0, e_X6_saying_5, e_X6_saying_10, e_X6_saying_15, e_X6_saying_22, e_X6_saying_33, e_X6_saying_44, e_X6_saying_141, e_X6_saying_62, e_X6_saying_148, e_X6_saying_111, xr_v, xr_n, hl_of, hl_cl, hl_toInt, hl_le, hl_lt, hl_eq, nI_add, hl_sub, pk_mul, hl_div, if_pos, if_neg, ↓reduceIte, Nat.reduceAdd, Nat.reduceSub, Nat.reduceMul, Nat.add_zero, Nat.zero_add, mp_s, mp_k, mp_i, mp_g, mr_s, mr_i, mr_g, zlt_0, zlt_1, zlt_2, zlt_3, zlt_4, zlt_5, zlt_6, zlt_8, zlt_12, zlt_15, zlt_20, zlt_24, zlt_36, zlt_40, zlt_48, zlt_80, zlt_97, zlt_120, zlt_256, zlt_600, zlt_99999999, zadd_1, zadd_2, zadd_5, zadd_6, zadd_8, zadd_20, zadd_24, zeq_0, zeq_1, zeq_2, zeq_3, zeq_4, zeq_5, zeq_6, zeq_7, zeq_8, zeq_13, zeq_14, zeq_20, zeq_32, zeq_59, zeq_60, zeq_80, zmul_2, zmul_4, zmul_6, zmul_8, zmul_10, zmul_24, zsub_1, zsub_2, zsub_10, zsub_48, zsub_97, zle_0, zle_1, zle_2, zle_6, zle_11, zle_200, zle_600, zle_100000000, ylt_0, ylt_1, ylt_2, ylt_3, ylt_6, ylt_9, ylt_20, ylt_24, ylt_57, ylt_60, ylt_99, ylt_120, ylt_122, ylt_999, ylt_9999, yle_0, yle_2, yle_4, yle_5, yle_6, yle_7, yle_8, yle_10, yle_12, yle_13, yle_15, yle_16, yle_20, yle_24, yle_40, yle_60, yle_64, yle_80, yadd_1, yadd_22, ymul_2, ymul_4, ymul_6, ymul_8, ymul_10, ymul_24, ymul_27, ymul_100, ysub_1, ysub_24, zdiv_2, zdiv_4, zdiv_24, g6, e2, q6]
          exact isI_i hM
  by_cases c : w < 2
  · have hk' := fun k' => key k'
    simp only [decide_eq_true c] at hk' ⊢
    simp (disch := first | omega | rfl | decide) only [e_X6_saying_0, e_X6_saying_5, e_X6_saying_10, e_X6_saying_15, e_X6_saying_22, e_X6_saying_33, e_X6_saying_141, e_X6_saying_62, e_X6_saying_148, e_X6_saying_111, xr_v, xr_n, hl_of, hl_cl, hl_toInt, hl_le, hl_lt, hl_eq, nI_add, hl_sub, pk_mul, hl_div, if_pos, if_neg, ↓reduceIte, Nat.reduceAdd, Nat.reduceSub, Nat.reduceMul, Nat.add_zero, Nat.zero_add, mp_s, mp_k, mp_i, mp_g, mr_s, mr_i, mr_g, zlt_0, zlt_1, zlt_2, zlt_3, zlt_4, zlt_5, zlt_6, zlt_8, zlt_12, zlt_15, zlt_20, zlt_24, zlt_36, zlt_40, zlt_48, zlt_80, zlt_97, zlt_120, zlt_256, zlt_600, zlt_99999999, zadd_1, zadd_2, zadd_5, zadd_6, zadd_8, zadd_20, zadd_24, zeq_0, zeq_1, zeq_2, zeq_3, zeq_4, zeq_5, zeq_6, zeq_7, zeq_8, zeq_13, zeq_14, zeq_20, zeq_32, zeq_59, zeq_60, zeq_80, zmul_2, zmul_4, zmul_6, zmul_8, zmul_10, zmul_24, zsub_1, zsub_2, zsub_10, zsub_48, zsub_97, zle_0, zle_1, zle_2, zle_6, zle_11, zle_200, zle_600, zle_100000000, ylt_0, ylt_1, ylt_2, ylt_3, ylt_6, ylt_9, ylt_20, ylt_24, ylt_57, ylt_60, ylt_99, ylt_120, ylt_122, ylt_999, ylt_9999, yle_0, yle_2, yle_4, yle_5, yle_6, yle_7, yle_8, yle_10, yle_12, yle_13, yle_15, yle_16, yle_20, yle_24, yle_40, yle_60, yle_64, yle_80, yadd_1, yadd_22, ymul_2, ymul_4, ymul_6, ymul_8, ymul_10, ymul_24, ymul_27, ymul_100, ysub_1, ysub_24, zdiv_2, zdiv_4, zdiv_24, q1, q2, q3, q4]
    exact hk' _
  · have hk' := fun k' => key k'
    simp only [decide_eq_false c] at hk' ⊢
    simp (disch := first | omega | rfl | decide) only [e_X6_saying_0, e_X6_saying_5, e_X6_saying_10, e_X6_saying_15, e_X6_saying_22, e_X6_saying_33, e_X6_saying_141, e_X6_saying_62, e_X6_saying_148, e_X6_saying_111, xr_v, xr_n, hl_of, hl_cl, hl_toInt, hl_le, hl_lt, hl_eq, nI_add, hl_sub, pk_mul, hl_div, if_pos, if_neg, ↓reduceIte, Nat.reduceAdd, Nat.reduceSub, Nat.reduceMul, Nat.add_zero, Nat.zero_add, mp_s, mp_k, mp_i, mp_g, mr_s, mr_i, mr_g, zlt_0, zlt_1, zlt_2, zlt_3, zlt_4, zlt_5, zlt_6, zlt_8, zlt_12, zlt_15, zlt_20, zlt_24, zlt_36, zlt_40, zlt_48, zlt_80, zlt_97, zlt_120, zlt_256, zlt_600, zlt_99999999, zadd_1, zadd_2, zadd_5, zadd_6, zadd_8, zadd_20, zadd_24, zeq_0, zeq_1, zeq_2, zeq_3, zeq_4, zeq_5, zeq_6, zeq_7, zeq_8, zeq_13, zeq_14, zeq_20, zeq_32, zeq_59, zeq_60, zeq_80, zmul_2, zmul_4, zmul_6, zmul_8, zmul_10, zmul_24, zsub_1, zsub_2, zsub_10, zsub_48, zsub_97, zle_0, zle_1, zle_2, zle_6, zle_11, zle_200, zle_600, zle_100000000, ylt_0, ylt_1, ylt_2, ylt_3, ylt_6, ylt_9, ylt_20, ylt_24, ylt_57, ylt_60, ylt_99, ylt_120, ylt_122, ylt_999, ylt_9999, yle_0, yle_2, yle_4, yle_5, yle_6, yle_7, yle_8, yle_10, yle_12, yle_13, yle_15, yle_16, yle_20, yle_24, yle_40, yle_60, yle_64, yle_80, yadd_1, yadd_22, ymul_2, ymul_4, ymul_6, ymul_8, ymul_10, ymul_24, ymul_27, ymul_100, ysub_1, ysub_24, zdiv_2, zdiv_4, zdiv_24, q1, q2, q3, q4]
    exact hk' _
end
section
variable (L : Nat) (xs : Nat → Int32) (O : Int64) {T : Vw} {f : Nat → Nat} {As : Nat → Nat → Int32} {n nh ns nw na nd : Nat}
theorem m_saying {D : Nat} (hD : 11 ≤ D) (hA : AOK As na) (k0 s h w : Nat) (hk : k0 < nh) (hs : s < ns) (hh : h < 24) (hw : w < 4) (M : Mem) (hB : MB M T f As n nh ns nw na nd) : isI (EX L xs (D) q_X7_saying [.inr (.inr (40, 0)), .inl (nI k0), .inl (nI s), .inl (nI h), .inl (nI w)] M O) O (sayF (sumN (fun a => aW (As a) * aF (As a)) (fun a => oneF (perfL T f nd) (As a) n h k0 s == decide (w < 2)) na) (sumN (fun a => aW (As a) * 8) (fun a => oneF (perfL T f nd) (As a) n h k0 s == decide (w < 2)) na) w) (MP M) := by
  obtain ⟨d, rfl⟩ : ∃ d, D = d + 2 := ⟨D - 2, by omega⟩
  refine isI_e (EX_in mi_X7_saying rfl rfl rfl (ls := [some (.inr (.inr (40, 0))), some (.inl (nI k0)), some (.inl (nI s)), some (.inl (nI h)), some (.inl (nI w)), none, none, none, none, none]) rfl) ?_
  obtain ⟨M1, e1, fr1, hB1, t1⟩ := m_start hB
  have v4 : 8 ≤ n := hB1.1.2.2.2.2.1
  have v5 : n ≤ 40 := hB1.1.2.2.2.2.2.1
  have v6 : nh ≤ 8 := hB1.1.2.2.2.2.2.2.1
  have v7 : ns ≤ 6 := hB1.1.2.2.2.2.2.2.2.1
  have v8 : nw ≤ 8 := hB1.1.2.2.2.2.2.2.2.2.1
  have h6 : na ≤ 6 := hB1.2.2.2.2.2.1
  have z0 := hB1.2.1.1
  have z1 := hB1.2.1.2.1
  have z2 := hB1.2.1.2.2.1
  have z3 := hB1.2.1.2.2.2.1
  have z26 := hB1.2.2.2.2.1
  have b0 := fun w q => x7_bad_0 L xs O (D := d + 1) (by omega) w q M1 t1
  obtain ⟨M2, ql, h2⟩ := x7_laidR L xs O (D := d + 1) (by omega) hB fr1 hB1 t1
  have p1 := x7_isHouse_i L xs O (D := d + 1) (by omega) (by omega) k0 M1 z1 hk
  have p2 := x7_isSource_i L xs O (D := d + 1) (by omega) (by omega) s M1 z2 hs
  have p3 := x7_isHour_i L xs O (D := d + 1) (by omega) h M1 hh
  have p4 := x7_i4_in L xs O (D := d + 1) (by omega) w M1 hw
  have bw : ∀ a, a < na → aW (As a) * aF (As a) ≤ 792 := fun a ha => by
    have h1 := hA a ha
    have := Nat.mul_le_mul h1.2.2.1 h1.2.2.2.2
    omega
  have bw8 : ∀ a, a < na → aW (As a) * 8 ≤ 792 := fun a ha => by
    have h1 := hA a ha
    omega
  simp (disch := first | omega | rfl | decide) only [e_X7_saying_0, e_X7_saying_11, e_X7_saying_22, e_X7_saying_19, e_X7_saying_27, e_X7_saying_32, e_X7_saying_40, e_X7_saying_66, e_X7_saying_53, e_X7_saying_50, e_X7_saying_58, e_X7_saying_63, e_X7_saying_72, e_X7_saying_96, e_X7_saying_231, e_X7_saying_103, e_X7_saying_114, e_X7_saying_164, xr_v, xr_n, hl_of, hl_cl, hl_toInt, hl_le, hl_lt, hl_eq, nI_add, hl_sub, pk_mul, hl_div, if_pos, if_neg, ↓reduceIte, Nat.reduceAdd, Nat.reduceSub, Nat.reduceMul, Nat.add_zero, Nat.zero_add, mp_s, mp_k, mp_i, mp_g, mr_s, mr_i, mr_g, zlt_0, zlt_1, zlt_2, zlt_3, zlt_4, zlt_5, zlt_6, zlt_8, zlt_12, zlt_15, zlt_20, zlt_24, zlt_36, zlt_40, zlt_48, zlt_80, zlt_97, zlt_120, zlt_256, zlt_600, zlt_99999999, zadd_1, zadd_2, zadd_5, zadd_6, zadd_8, zadd_20, zadd_24, zeq_0, zeq_1, zeq_2, zeq_3, zeq_4, zeq_5, zeq_6, zeq_7, zeq_8, zeq_13, zeq_14, zeq_20, zeq_32, zeq_59, zeq_60, zeq_80, zmul_2, zmul_4, zmul_6, zmul_8, zmul_10, zmul_24, zsub_1, zsub_2, zsub_10, zsub_48, zsub_97, zle_0, zle_1, zle_2, zle_6, zle_11, zle_200, zle_600, zle_100000000, ylt_0, ylt_1, ylt_2, ylt_3, ylt_6, ylt_9, ylt_20, ylt_24, ylt_57, ylt_60, ylt_99, ylt_120, ylt_122, ylt_999, ylt_9999, yle_0, yle_2, yle_4, yle_5, yle_6, yle_7, yle_8, yle_10, yle_12, yle_13, yle_15, yle_16, yle_20, yle_24, yle_40, yle_60, yle_64, yle_80, yadd_1, yadd_22, ymul_2, ymul_4, ymul_6, ymul_8, ymul_10, ymul_24, ymul_27, ymul_100, ysub_1, ysub_24, zdiv_2, zdiv_4, zdiv_24, e1, p1, p2, p3, p4, b0, ql]
  refine loopC L xs O (P := fun r => isI r O _ (MP M)) (fun j ls M' => ∃ u l u8 u9, u = sumN (fun a => aW (As a) * aF (As a)) (fun a => oneF (perfL T f nd) (As a) n h k0 s == decide (w < 2)) j ∧ l = sumN (fun a => aW (As a) * 8) (fun a => oneF (perfL T f nd) (As a) n h k0 s == decide (w < 2)) j ∧ ls = [some (.inr (.inr (40, 0))), some (.inl (nI k0)), some (.inl (nI s)), some (.inl (nI h)), some (.inl (nI w)), some (.inl (nI u)), some (.inl (nI l)), some (.inl (nI j)), u8, u9] ∧ MR T f As n nh ns nw na nd M M') na 400 (by omega) ?_ ?_ (Nat.le_of_lt (FU (by omega))) ⟨_, _, _, _, rfl, rfl, rfl, h2⟩
  · rintro fu k j _ M' hj ⟨u, l, u8, u9, hu, hl, rfl, h3⟩ ih
    have k26 := h3.2.1.2.2.2.1
    obtain ⟨M3, q3, h4, l4⟩ := x7_loudR L xs O (D := d + 1) (by omega) j hj M' h3
    have q4 := x7_hearsOne L xs O (D := d + 1) (by omega) (As j) k0 s h hk hs hh M3 h4.2.1 l4
    obtain ⟨a1, a2, a3, a4, a5⟩ := hA j hj
    have g13 := (h4.2.1.2.2.2.2.2 j hj 13 (by omega)).trans a1
    have g14 := (h4.2.1.2.2.2.2.2 j hj 14 (by omega)).trans a4
    have e8 : 8 * aW (As j) = aW (As j) * 8 := Nat.mul_comm _ _
    by_cases cw : w < 2
    · cases c : oneF (perfL T f nd) (As j) n h k0 s with
      | true =>
        rw [c, b2i_t] at q4
        simp (disch := first | omega | rfl | decide) only [e_X7_saying_0, e_X7_saying_11, e_X7_saying_22, e_X7_saying_19, e_X7_saying_27, e_X7_saying_32, e_X7_saying_40, e_X7_saying_66, e_X7_saying_53, e_X7_saying_50, e_X7_saying_58, e_X7_saying_63, e_X7_saying_72, e_X7_saying_81, e_X7_saying_188, e_X7_saying_96, e_X7_saying_231, e_X7_saying_103, e_X7_saying_114, e_X7_saying_164, xr_v, xr_n, hl_of, hl_cl, hl_toInt, hl_le, hl_lt, hl_eq, nI_add, hl_sub, pk_mul, hl_div, if_pos, if_neg, ↓reduceIte, Nat.reduceAdd, Nat.reduceSub, Nat.reduceMul, Nat.add_zero, Nat.zero_add, mp_s, mp_k, mp_i, mp_g, mr_s, mr_i, mr_g, zlt_0, zlt_1, zlt_2, zlt_3, zlt_4, zlt_5, zlt_6, zlt_8, zlt_12, zlt_15, zlt_20, zlt_24, zlt_36, zlt_40, zlt_48, zlt_80, zlt_97, zlt_120, zlt_256, zlt_600, zlt_99999999, zadd_1, zadd_2, zadd_5, zadd_6, zadd_8, zadd_20, zadd_24, zeq_0, zeq_1, zeq_2, zeq_3, zeq_4, zeq_5, zeq_6, zeq_7, zeq_8, zeq_13, zeq_14, zeq_20, zeq_32, zeq_59, zeq_60, zeq_80, zmul_2, zmul_4, zmul_6, zmul_8, zmul_10, zmul_24, zsub_1, zsub_2, zsub_10, zsub_48, zsub_97, zle_0, zle_1, zle_2, zle_6, zle_11, zle_200, zle_600, zle_100000000, ylt_0, ylt_1, ylt_2, ylt_3, ylt_6, ylt_9, ylt_20, ylt_24, ylt_57, ylt_60, ylt_99, ylt_120, ylt_122, ylt_999, ylt_9999, yle_0, yle_2, yle_4, yle_5, yle_6, yle_7, yle_8, yle_10, yle_12, yle_13, yle_15, yle_16, yle_20, yle_24, yle_40, yle_60, yle_64, yle_80, yadd_1, yadd_22, ymul_2, ymul_4, ymul_6, ymul_8, ymul_10, ymul_24, ymul_27, ymul_100, ysub_1, ysub_24, zdiv_2, zdiv_4, zdiv_24, k26, q3, q4, g13, g14, e8]
        refine ih _ _ ⟨_, _, _, _, ?_, ?_, rfl, h4⟩
        · rw [sumN_t (by simp [c, cw]), hu]
        · rw [sumN_t (by simp [c, cw]), hl]
      | false =>
        rw [c, b2i_f] at q4
        simp (disch := first | omega | rfl | decide) only [e_X7_saying_0, e_X7_saying_11, e_X7_saying_22, e_X7_saying_19, e_X7_saying_27, e_X7_saying_32, e_X7_saying_40, e_X7_saying_66, e_X7_saying_53, e_X7_saying_50, e_X7_saying_58, e_X7_saying_63, e_X7_saying_72, e_X7_saying_81, e_X7_saying_188, e_X7_saying_96, e_X7_saying_231, e_X7_saying_103, e_X7_saying_114, e_X7_saying_164, xr_v, xr_n, hl_of, hl_cl, hl_toInt, hl_le, hl_lt, hl_eq, nI_add, hl_sub, pk_mul, hl_div, if_pos, if_neg, ↓reduceIte, Nat.reduceAdd, Nat.reduceSub, Nat.reduceMul, Nat.add_zero, Nat.zero_add, mp_s, mp_k, mp_i, mp_g, mr_s, mr_i, mr_g, zlt_0, zlt_1, zlt_2, zlt_3, zlt_4, zlt_5, zlt_6, zlt_8, zlt_12, zlt_15, zlt_20, zlt_24, zlt_36, zlt_40, zlt_48, zlt_80, zlt_97, zlt_120, zlt_256, zlt_600, zlt_99999999, zadd_1, zadd_2, zadd_5, zadd_6, zadd_8, zadd_20, zadd_24, zeq_0, zeq_1, zeq_2, zeq_3, zeq_4, zeq_5, zeq_6, zeq_7, zeq_8, zeq_13, zeq_14, zeq_20, zeq_32, zeq_59, zeq_60, zeq_80, zmul_2, zmul_4, zmul_6, zmul_8, zmul_10, zmul_24, zsub_1, zsub_2, zsub_10, zsub_48, zsub_97, zle_0, zle_1, zle_2, zle_6, zle_11, zle_200, zle_600, zle_100000000, ylt_0, ylt_1, ylt_2, ylt_3, ylt_6, ylt_9, ylt_20, ylt_24, ylt_57, ylt_60, ylt_99, ylt_120, ylt_122, ylt_999, ylt_9999, yle_0, yle_2, yle_4, yle_5, yle_6, yle_7, yle_8, yle_10, yle_12, yle_13, yle_15, yle_16, yle_20, yle_24, yle_40, yle_60, yle_64, yle_80, yadd_1, yadd_22, ymul_2, ymul_4, ymul_6, ymul_8, ymul_10, ymul_24, ymul_27, ymul_100, ysub_1, ysub_24, zdiv_2, zdiv_4, zdiv_24, k26, q3, q4]
        refine ih _ _ ⟨_, _, _, _, ?_, ?_, rfl, h4⟩
        · rw [sumN_f (by simp [c, cw]), hu]
        · rw [sumN_f (by simp [c, cw]), hl]
    · cases c : oneF (perfL T f nd) (As j) n h k0 s with
      | true =>
        rw [c, b2i_t] at q4
        simp (disch := first | omega | rfl | decide) only [e_X7_saying_0, e_X7_saying_11, e_X7_saying_22, e_X7_saying_19, e_X7_saying_27, e_X7_saying_32, e_X7_saying_40, e_X7_saying_66, e_X7_saying_53, e_X7_saying_50, e_X7_saying_58, e_X7_saying_63, e_X7_saying_72, e_X7_saying_81, e_X7_saying_188, e_X7_saying_96, e_X7_saying_231, e_X7_saying_103, e_X7_saying_114, e_X7_saying_164, xr_v, xr_n, hl_of, hl_cl, hl_toInt, hl_le, hl_lt, hl_eq, nI_add, hl_sub, pk_mul, hl_div, if_pos, if_neg, ↓reduceIte, Nat.reduceAdd, Nat.reduceSub, Nat.reduceMul, Nat.add_zero, Nat.zero_add, mp_s, mp_k, mp_i, mp_g, mr_s, mr_i, mr_g, zlt_0, zlt_1, zlt_2, zlt_3, zlt_4, zlt_5, zlt_6, zlt_8, zlt_12, zlt_15, zlt_20, zlt_24, zlt_36, zlt_40, zlt_48, zlt_80, zlt_97, zlt_120, zlt_256, zlt_600, zlt_99999999, zadd_1, zadd_2, zadd_5, zadd_6, zadd_8, zadd_20, zadd_24, zeq_0, zeq_1, zeq_2, zeq_3, zeq_4, zeq_5, zeq_6, zeq_7, zeq_8, zeq_13, zeq_14, zeq_20, zeq_32, zeq_59, zeq_60, zeq_80, zmul_2, zmul_4, zmul_6, zmul_8, zmul_10, zmul_24, zsub_1, zsub_2, zsub_10, zsub_48, zsub_97, zle_0, zle_1, zle_2, zle_6, zle_11, zle_200, zle_600, zle_100000000, ylt_0, ylt_1, ylt_2, ylt_3, ylt_6, ylt_9, ylt_20, ylt_24, ylt_57, ylt_60, ylt_99, ylt_120, ylt_122, ylt_999, ylt_9999, yle_0, yle_2, yle_4, yle_5, yle_6, yle_7, yle_8, yle_10, yle_12, yle_13, yle_15, yle_16, yle_20, yle_24, yle_40, yle_60, yle_64, yle_80, yadd_1, yadd_22, ymul_2, ymul_4, ymul_6, ymul_8, ymul_10, ymul_24, ymul_27, ymul_100, ysub_1, ysub_24, zdiv_2, zdiv_4, zdiv_24, k26, q3, q4]
        refine ih _ _ ⟨_, _, _, _, ?_, ?_, rfl, h4⟩
        · rw [sumN_f (by simp [c, cw]), hu]
        · rw [sumN_f (by simp [c, cw]), hl]
      | false =>
        rw [c, b2i_f] at q4
        simp (disch := first | omega | rfl | decide) only [e_X7_saying_0, e_X7_saying_11, e_X7_saying_22, e_X7_saying_19, e_X7_saying_27, e_X7_saying_32, e_X7_saying_40, e_X7_saying_66, e_X7_saying_53, e_X7_saying_50, e_X7_saying_58, e_X7_saying_63, e_X7_saying_72, e_X7_saying_81, e_X7_saying_188, e_X7_saying_96, e_X7_saying_231, e_X7_saying_103, e_X7_saying_114, e_X7_saying_164, xr_v, xr_n, hl_of, hl_cl, hl_toInt, hl_le, hl_lt, hl_eq, nI_add, hl_sub, pk_mul, hl_div, if_pos, if_neg, ↓reduceIte, Nat.reduceAdd, Nat.reduceSub, Nat.reduceMul, Nat.add_zero, Nat.zero_add, mp_s, mp_k, mp_i, mp_g, mr_s, mr_i, mr_g, zlt_0, zlt_1, zlt_2, zlt_3, zlt_4, zlt_5, zlt_6, zlt_8, zlt_12, zlt_15, zlt_20, zlt_24, zlt_36, zlt_40, zlt_48, zlt_80, zlt_97, zlt_120, zlt_256, zlt_600, zlt_99999999, zadd_1, zadd_2, zadd_5, zadd_6, zadd_8, zadd_20, zadd_24, zeq_0, zeq_1, zeq_2, zeq_3, zeq_4, zeq_5, zeq_6, zeq_7, zeq_8, zeq_13, zeq_14, zeq_20, zeq_32, zeq_59, zeq_60, zeq_80, zmul_2, zmul_4, zmul_6, zmul_8, zmul_10, zmul_24, zsub_1, zsub_2, zsub_10, zsub_48, zsub_97, zle_0, zle_1, zle_2, zle_6, zle_11, zle_200, zle_600, zle_100000000, ylt_0, ylt_1, ylt_2, ylt_3, ylt_6, ylt_9, ylt_20, ylt_24, ylt_57, ylt_60, ylt_99, ylt_120, ylt_122, ylt_999, ylt_9999, yle_0, yle_2, yle_4, yle_5, yle_6, yle_7, yle_8, yle_10, yle_12, yle_13, yle_15, yle_16, yle_20, yle_24, yle_40, yle_60, yle_64, yle_80, yadd_1, yadd_22, ymul_2, ymul_4, ymul_6, ymul_8, ymul_10, ymul_24, ymul_27, ymul_100, ysub_1, ysub_24, zdiv_2, zdiv_4, zdiv_24, k26, q3, q4, g13, g14, e8]
        refine ih _ _ ⟨_, _, _, _, ?_, ?_, rfl, h4⟩
        · rw [sumN_t (by simp [c, cw]), hu]
        · rw [sumN_t (by simp [c, cw]), hl]
  · rintro fu k _ M' hf ⟨u, l, u8, u9, hu, hl, rfl, h3⟩
    have hf' : 999999 ≤ fu + na := hf
    have k26 := h3.2.1.2.2.2.1
    rw [← hu, ← hl]
    have hub := sumN_le (p := fun a => oneF (perfL T f nd) (As a) n h k0 s == decide (w < 2)) na bw
    have hlb := sumN_le (p := fun a => oneF (perfL T f nd) (As a) n h k0 s == decide (w < 2)) na bw8
    rw [← hu] at hub
    rw [← hl] at hlb
    have e2 : w - w / 2 * 2 = w % 2 := by omega
    unfold sayF
    by_cases c : l = 0
    · rw [if_pos c]
      simp (disch := first | omega | rfl | decide) only [e_X7_saying_0, e_X7_saying_11, e_X7_saying_22, e_X7_saying_19, e_X7_saying_27, e_X7_saying_32, e_X7_saying_40, e_X7_saying_66, e_X7_saying_53, e_X7_saying_50, e_X7_saying_58, e_X7_saying_63, e_X7_saying_72, e_X7_saying_81, e_X7_saying_96, e_X7_saying_231, e_X7_saying_103, e_X7_saying_114, e_X7_saying_164, xr_v, xr_n, hl_of, hl_cl, hl_toInt, hl_le, hl_lt, hl_eq, nI_add, hl_sub, pk_mul, hl_div, if_pos, if_neg, ↓reduceIte, Nat.reduceAdd, Nat.reduceSub, Nat.reduceMul, Nat.add_zero, Nat.zero_add, mp_s, mp_k, mp_i, mp_g, mr_s, mr_i, mr_g, zlt_0, zlt_1, zlt_2, zlt_3, zlt_4, zlt_5, zlt_6, zlt_8, zlt_12, zlt_15, zlt_20, zlt_24, zlt_36, zlt_40, zlt_48, zlt_80, zlt_97, zlt_120, zlt_256, zlt_600, zlt_99999999, zadd_1, zadd_2, zadd_5, zadd_6, zadd_8, zadd_20, zadd_24, zeq_0, zeq_1, zeq_2, zeq_3, zeq_4, zeq_5, zeq_6, zeq_7, zeq_8, zeq_13, zeq_14, zeq_20, zeq_32, zeq_59, zeq_60, zeq_80, zmul_2, zmul_4, zmul_6, zmul_8, zmul_10, zmul_24, zsub_1, zsub_2, zsub_10, zsub_48, zsub_97, zle_0, zle_1, zle_2, zle_6, zle_11, zle_200, zle_600, zle_100000000, ylt_0, ylt_1, ylt_2, ylt_3, ylt_6, ylt_9, ylt_20, ylt_24, ylt_57, ylt_60, ylt_99, ylt_120, ylt_122, ylt_999, ylt_9999, yle_0, yle_2, yle_4, yle_5, yle_6, yle_7, yle_8, yle_10, yle_12, yle_13, yle_15, yle_16, yle_20, yle_24, yle_40, yle_60, yle_64, yle_80, yadd_1, yadd_22, ymul_2, ymul_4, ymul_6, ymul_8, ymul_10, ymul_24, ymul_27, ymul_100, ysub_1, ysub_24, zdiv_2, zdiv_4, zdiv_24, k26, e2]
      exact isI_i (MR_P h3)
    · rw [if_neg c]
      have hg : 0 < Nat.gcd u l := Nat.gcd_pos_of_pos_right u (by omega)
      have hgl : Nat.gcd u l ≤ l := Nat.gcd_le_right u (by omega)
      simp (disch := first | omega | rfl | decide) only [e_X7_saying_0, e_X7_saying_11, e_X7_saying_22, e_X7_saying_19, e_X7_saying_27, e_X7_saying_32, e_X7_saying_40, e_X7_saying_66, e_X7_saying_53, e_X7_saying_50, e_X7_saying_58, e_X7_saying_63, e_X7_saying_72, e_X7_saying_81, e_X7_saying_96, e_X7_saying_231, e_X7_saying_103, e_X7_saying_114, e_X7_saying_164, xr_v, xr_n, hl_of, hl_cl, hl_toInt, hl_le, hl_lt, hl_eq, nI_add, hl_sub, pk_mul, hl_div, if_pos, if_neg, ↓reduceIte, Nat.reduceAdd, Nat.reduceSub, Nat.reduceMul, Nat.add_zero, Nat.zero_add, mp_s, mp_k, mp_i, mp_g, mr_s, mr_i, mr_g, zlt_0, zlt_1, zlt_2, zlt_3, zlt_4, zlt_5, zlt_6, zlt_8, zlt_12, zlt_15, zlt_20, zlt_24, zlt_36, zlt_40, zlt_48, zlt_80, zlt_97, zlt_120, zlt_256, zlt_600, zlt_99999999, zadd_1, zadd_2, zadd_5, zadd_6, zadd_8, zadd_20, zadd_24, zeq_0, zeq_1, zeq_2, zeq_3, zeq_4, zeq_5, zeq_6, zeq_7, zeq_8, zeq_13, zeq_14, zeq_20, zeq_32, zeq_59, zeq_60, zeq_80, zmul_2, zmul_4, zmul_6, zmul_8, zmul_10, zmul_24, zsub_1, zsub_2, zsub_10, zsub_48, zsub_97, zle_0, zle_1, zle_2, zle_6, zle_11, zle_200, zle_600, zle_100000000, ylt_0, ylt_1, ylt_2, ylt_3, ylt_6, ylt_9, ylt_20, ylt_24, ylt_57, ylt_60, ylt_99, ylt_120, ylt_122, ylt_999, ylt_9999, yle_0, yle_2, yle_4, yle_5, yle_6, yle_7, yle_8, yle_10, yle_12, yle_13, yle_15, yle_16, yle_20, yle_24, yle_40, yle_60, yle_64, yle_80, yadd_1, yadd_22, ymul_2, ymul_4, ymul_6, ymul_8, ymul_10, ymul_24, ymul_27, ymul_100, ysub_1, ysub_24, zdiv_2, zdiv_4, zdiv_24, k26]
      have fin : ∀ fu k u9 x, x = Nat.gcd u l → isI (BK L xs (EX L xs (d + 1)) mi_X7_saying (RN L xs (d) mi_X7_saying fu) (k + 100) 188 [some (.inr (.inr (40, 0))), some (.inl (nI k0)), some (.inl (nI s)), some (.inl (nI h)), some (.inl (nI w)), some (.inl (nI u)), some (.inl (nI l)), some (.inl (nI x)), some (.inl (nI 0)), u9] [] M' O none 0 0) O (nI ((if w % 2 = 0 then u else l) / Nat.gcd u l)) (MP M) := by
        intro fu k u9 x hx
        subst hx
        by_cases c2 : w % 2 = 0
        · rw [if_pos c2]
          simp (disch := first | omega | rfl | decide) only [e_X7_saying_0, e_X7_saying_11, e_X7_saying_22, e_X7_saying_19, e_X7_saying_27, e_X7_saying_32, e_X7_saying_40, e_X7_saying_66, e_X7_saying_53, e_X7_saying_50, e_X7_saying_58, e_X7_saying_63, e_X7_saying_72, e_X7_saying_81, e_X7_saying_188, e_X7_saying_96, e_X7_saying_231, e_X7_saying_103, e_X7_saying_114, e_X7_saying_164, xr_v, xr_n, hl_of, hl_cl, hl_toInt, hl_le, hl_lt, hl_eq, nI_add, hl_sub, pk_mul, hl_div, if_pos, if_neg, ↓reduceIte, Nat.reduceAdd, Nat.reduceSub, Nat.reduceMul, Nat.add_zero, Nat.zero_add, mp_s, mp_k, mp_i, mp_g, mr_s, mr_i, mr_g, zlt_0, zlt_1, zlt_2, zlt_3, zlt_4, zlt_5, zlt_6, zlt_8, zlt_12, zlt_15, zlt_20, zlt_24, zlt_36, zlt_40, zlt_48, zlt_80, zlt_97, zlt_120, zlt_256, zlt_600, zlt_99999999, zadd_1, zadd_2, zadd_5, zadd_6, zadd_8, zadd_20, zadd_24, zeq_0, zeq_1, zeq_2, zeq_3, zeq_4, zeq_5, zeq_6, zeq_7, zeq_8, zeq_13, zeq_14, zeq_20, zeq_32, zeq_59, zeq_60, zeq_80, zmul_2, zmul_4, zmul_6, zmul_8, zmul_10, zmul_24, zsub_1, zsub_2, zsub_10, zsub_48, zsub_97, zle_0, zle_1, zle_2, zle_6, zle_11, zle_200, zle_600, zle_100000000, ylt_0, ylt_1, ylt_2, ylt_3, ylt_6, ylt_9, ylt_20, ylt_24, ylt_57, ylt_60, ylt_99, ylt_120, ylt_122, ylt_999, ylt_9999, yle_0, yle_2, yle_4, yle_5, yle_6, yle_7, yle_8, yle_10, yle_12, yle_13, yle_15, yle_16, yle_20, yle_24, yle_40, yle_60, yle_64, yle_80, yadd_1, yadd_22, ymul_2, ymul_4, ymul_6, ymul_8, ymul_10, ymul_24, ymul_27, ymul_100, ysub_1, ysub_24, zdiv_2, zdiv_4, zdiv_24, e2]
          exact isI_i (MR_P h3)
        · rw [if_neg c2]
          simp (disch := first | omega | rfl | decide) only [e_X7_saying_0, e_X7_saying_11, e_X7_saying_22, e_X7_saying_19, e_X7_saying_27, e_X7_saying_32, e_X7_saying_40, e_X7_saying_66, e_X7_saying_53, e_X7_saying_50, e_X7_saying_58, e_X7_saying_63, e_X7_saying_72, e_X7_saying_81, e_X7_saying_188, e_X7_saying_96, e_X7_saying_231, e_X7_saying_103, e_X7_saying_114, e_X7_saying_164, xr_v, xr_n, hl_of, hl_cl, hl_toInt, hl_le, hl_lt, hl_eq, nI_add, hl_sub, pk_mul, hl_div, if_pos, if_neg, ↓reduceIte, Nat.reduceAdd, Nat.reduceSub, Nat.reduceMul, Nat.add_zero, Nat.zero_add, mp_s, mp_k, mp_i, mp_g, mr_s, mr_i, mr_g, zlt_0, zlt_1, zlt_2, zlt_3, zlt_4, zlt_5, zlt_6, zlt_8, zlt_12, zlt_15, zlt_20, zlt_24, zlt_36, zlt_40, zlt_48, zlt_80, zlt_97, zlt_120, zlt_256, zlt_600, zlt_99999999, zadd_1, zadd_2, zadd_5, zadd_6, zadd_8, zadd_20, zadd_24, zeq_0, zeq_1, zeq_2, zeq_3, zeq_4, zeq_5, zeq_6, zeq_7, zeq_8, zeq_13, zeq_14, zeq_20, zeq_32, zeq_59, zeq_60, zeq_80, zmul_2, zmul_4, zmul_6, zmul_8, zmul_10, zmul_24, zsub_1, zsub_2, zsub_10, zsub_48, zsub_97, zle_0, zle_1, zle_2, zle_6, zle_11, zle_200, zle_600, zle_100000000, ylt_0, ylt_1, ylt_2, ylt_3, ylt_6, ylt_9, ylt_20, ylt_24, ylt_57, ylt_60, ylt_99, ylt_120, ylt_122, ylt_999, ylt_9999, yle_0, yle_2, yle_4, yle_5, yle_6, yle_7, yle_8, yle_10, yle_12, yle_13, yle_15, yle_16, yle_20, yle_24, yle_40, yle_60, yle_64, yle_80, yadd_1, yadd_22, ymul_2, ymul_4, ymul_6, ymul_8, ymul_10, ymul_24, ymul_27, ymul_100, ysub_1, ysub_24, zdiv_2, zdiv_4, zdiv_24, e2]
          exact isI_i (MR_P h3)
      refine loopA L xs O (P := fun r => isI r O _ (MP M)) (fun j ls M'' => ∃ x y u9, ls = [some (.inr (.inr (40, 0))), some (.inl (nI k0)), some (.inl (nI s)), some (.inl (nI h)), some (.inl (nI w)), some (.inl (nI u)), some (.inl (nI l)), some (.inl (nI x)), some (.inl (nI y)), u9] ∧ eT (64 - j) x y ∧ Nat.gcd x y = Nat.gcd u l ∧ x < 8192 ∧ y < 8192 ∧ M'' = M') 64 200 (by omega) ?_ ?_ (by omega) ⟨u, l, _, rfl, eT_start (by omega) (by omega), rfl, by omega, by omega, rfl⟩
      · rintro fu k j _ M'' hj ⟨x, y, u9, rfl, hT, hG, hx, hy, e⟩ ih
        rw [e]
        by_cases c : y = 0
        · subst c
          rw [Nat.gcd_zero_right] at hG
          exact fin fu _ u9 x hG
        · have em : x - x / y * y = x % y := by
            have h1 := Nat.div_add_mod x y
            rw [Nat.mul_comm] at h1
            omega
          have hd2 : x / y * y ≤ x := Nat.div_mul_le_self x y
          have hmx := Nat.mod_lt x (show 0 < y by omega)
          simp (disch := first | omega | rfl | decide) only [e_X7_saying_0, e_X7_saying_11, e_X7_saying_22, e_X7_saying_19, e_X7_saying_27, e_X7_saying_32, e_X7_saying_40, e_X7_saying_66, e_X7_saying_53, e_X7_saying_50, e_X7_saying_58, e_X7_saying_63, e_X7_saying_72, e_X7_saying_81, e_X7_saying_188, e_X7_saying_96, e_X7_saying_231, e_X7_saying_103, e_X7_saying_114, e_X7_saying_164, xr_v, xr_n, hl_of, hl_cl, hl_toInt, hl_le, hl_lt, hl_eq, nI_add, hl_sub, pk_mul, hl_div, if_pos, if_neg, ↓reduceIte, Nat.reduceAdd, Nat.reduceSub, Nat.reduceMul, Nat.add_zero, Nat.zero_add, mp_s, mp_k, mp_i, mp_g, mr_s, mr_i, mr_g, zlt_0, zlt_1, zlt_2, zlt_3, zlt_4, zlt_5, zlt_6, zlt_8, zlt_12, zlt_15, zlt_20, zlt_24, zlt_36, zlt_40, zlt_48, zlt_80, zlt_97, zlt_120, zlt_256, zlt_600, zlt_99999999, zadd_1, zadd_2, zadd_5, zadd_6, zadd_8, zadd_20, zadd_24, zeq_0, zeq_1, zeq_2, zeq_3, zeq_4, zeq_5, zeq_6, zeq_7, zeq_8, zeq_13, zeq_14, zeq_20, zeq_32, zeq_59, zeq_60, zeq_80, zmul_2, zmul_4, zmul_6, zmul_8, zmul_10, zmul_24, zsub_1, zsub_2, zsub_10, zsub_48, zsub_97, zle_0, zle_1, zle_2, zle_6, zle_11, zle_200, zle_600, zle_100000000, ylt_0, ylt_1, ylt_2, ylt_3, ylt_6, ylt_9, ylt_20, ylt_24, ylt_57, ylt_60, ylt_99, ylt_120, ylt_122, ylt_999, ylt_9999, yle_0, yle_2, yle_4, yle_5, yle_6, yle_7, yle_8, yle_10, yle_12, yle_13, yle_15, yle_16, yle_20, yle_24, yle_40, yle_60, yle_64, yle_80, yadd_1, yadd_22, ymul_2, ymul_4, ymul_6, ymul_8, ymul_10, ymul_24, ymul_27, ymul_100, ysub_1, ysub_24, zdiv_2, zdiv_4, zdiv_24, em]
          obtain ⟨q, hq⟩ : ∃ q, 64 - j = q + 1 := ⟨63 - j, by omega⟩
          rw [hq] at hT
          refine ih _ _ ⟨y, x % y, _, rfl, ?_, (gcd_s x y).trans hG, hy, by omega, rfl⟩
          rw [show 64 - (j + 1) = q by omega]
          exact hT.resolve_left c
      · rintro fu k _ M'' ⟨x, y, u9, rfl, hT, hG, hx, hy, e⟩
        have hy0 : y = 0 := hT
        subst hy0
        rw [Nat.gcd_zero_right] at hG
        rw [e]
        exact fin fu _ u9 x hG
end
