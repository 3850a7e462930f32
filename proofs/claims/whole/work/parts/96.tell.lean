/-! TIMES and CLICKS. -/
theorem CW_e {V : Vw} {As : Nat → Nat → Int32} {n nh ns nw na : Nat} {M M' : Mem} (h : CW M V As n nh ns nw na) (e : ∀ g i k, (g = 0 ∧ (k = 6 ∨ k = 12 ∨ k = 13)) ∨ (3 ≤ g ∧ g ≤ 17 ∧ i = 2) ∨ g = 18 ∨ g = 19 ∨ g = 27 ∨ g = 28 ∨ g = 33 → M' g i k = M g i k) : CW M' V As n nh ns nw na := by
  refine ⟨h.1, fun g k hl => ?_, ?_, h.2.2.2.1, fun a ha => ⟨fun j hj => ?_, ?_, ?_, ?_⟩, fun i hi => ?_, ?_⟩
  · rw [e g 2 k (by have := isLand_le (lk_land hl); omega)]
    exact h.2.1 g k hl
  · rw [e 0 0 6 (by omega)]
    exact h.2.2.1
  · rw [e 19 a j (by omega)]
    exact (h.2.2.2.2.1 a ha).1 j hj
  · rw [e 18 a 1 (by omega)]
    exact (h.2.2.2.2.1 a ha).2.1
  · rw [e 18 a 2 (by omega)]
    exact (h.2.2.2.2.1 a ha).2.2.1
  · rw [e 18 a 3 (by omega)]
    exact (h.2.2.2.2.1 a ha).2.2.2
  · rw [e 28 0 i (by omega)]
    rcases h.2.2.2.2.2.1 i hi with h1 | ⟨h1, a, s, ha, hs, hi', hr⟩
    · exact Or.inl h1
    · refine Or.inr ⟨h1, a, s, ha, hs, hi', fun y hy => ?_⟩
      rw [e 27 i y (by omega)]
      exact hr y hy
  · rw [e 0 0 12 (by omega), e 0 0 13 (by omega)]
    rcases h.2.2.2.2.2.2 with h1 | ⟨a, t, ha, ht, h1, h2, h3⟩
    · exact Or.inl h1
    · refine Or.inr ⟨a, t, ha, ht, h1, h2, fun b hb => ?_⟩
      rw [e 33 0 b (by omega)]
      exact h3 b hb
section
variable {T : Vw} {As : Nat → Nat → Int32} {n nh ns nw na : Nat} {md : Md} {ia ni nt : Nat} {mds : Nat → Md} {M : Mem}
theorem CORE_md {M' : Mem} {md' : Md} (h : CORE T As n nh ns nw na md ia ni nt mds M) (e : ∀ g i k, ¬ (20 ≤ g ∧ g ≤ 23 ∧ i = 0) → ¬ (g = 40 ∧ (k = 0 ∨ k = 29 ∨ k = 30 ∨ k = 32)) → ¬ (68 ≤ g ∧ g ≤ 70) → M' g i k = M g i k) (h1 : md'.1 = md.1) (h2 : md'.2.1 = md.2.1) (hO : MdOK md' nw) (hC : CMd M' 0 md') (hM : MMd M' md') : CORE T As n nh ns nw na md' ia ni nt mds M' := by
  refine ⟨MB_of (MB0_e (MB_0 h.1) (e 40 0 26 (by omega) (by omega) (by omega)) (fun g i k a b => e g i k (by omega) (by omega) (by omega))) hO hM, ?_, h.2.2.1, ?_, ⟨hO, hC, hM⟩, ?_, ?_, ?_, ?_⟩
  · rw [h1, h2]
    exact CW_e h.2.1 (fun g i k hg => e g i k (by omega) (by omega) (by omega))
  · exact LndC_e h.2.2.2.1 (fun k hk => e 0 0 k (by omega) (by omega) (by omega)) (fun g i k a b c => e g i k (by omega) (by omega) (by omega))
  · exact ImgC_e h.2.2.2.2.2.1 (e 0 0 9 (by omega) (by omega) (by omega)) (e 40 0 31 (by omega) (by omega) (by omega)) (fun g i k a b c => e g i k (by omega) (by omega) (by omega)) (fun i k => e 72 i k (by omega) (by omega) (by omega))
  · exact TapC_e h.2.2.2.2.2.2.1 (e 1 0 1 (by omega) (by omega) (by omega)) (e 40 0 1 (by omega) (by omega) (by omega)) (fun i => e 2 0 i (by omega) (by omega) (by omega)) (fun i => e 41 0 i (by omega) (by omega) (by omega))
  · rw [e 1 0 5 (by omega) (by omega) (by omega), e 40 0 3 (by omega) (by omega) (by omega)]
    exact h.2.2.2.2.2.2.2.1
  · intro q hq
    rw [e 34 0 q (by omega) (by omega) (by omega), e 42 0 q (by omega) (by omega) (by omega)]
    exact h.2.2.2.2.2.2.2.2 q hq
theorem t_ok {a : Int32} (h1 : ¬ a < -2) (h2 : ¬ 999 < a) : tOK a := by
  have e1 : (-2 : Int32).toInt = -2 := by decide
  have e2 : (999 : Int32).toInt = 999 := by decide
  have e3 : (-1 : Int32).toInt = -1 := by decide
  rw [i_lt] at h1 h2
  by_cases c : a.toInt = -2
  · exact Or.inl (i_eq (by omega))
  · by_cases c2 : a.toInt = -1
    · exact Or.inr (Or.inl (i_eq (by omega)))
    · obtain ⟨e, h3, h4⟩ := i_nat (x := a) (by omega)
      exact Or.inr (Or.inr ⟨a.toNatClampNeg, by omega, e⟩)
end
section
variable (L : Nat) (xs : Nat → Int32) (O : Int64)
variable {T : Vw} {As : Nat → Nat → Int32} {n nh ns nw na : Nat} {md : Md} {ia ni nt : Nat} {mds : Nat → Md} {M : Mem}
theorem n_tell {d : Nat} (hD : 11 ≤ d) (hC : CORE T As n nh ns nw na md ia ni nt mds M) (k0 : Nat) (a2 : Int32) (hk : k0 < nh) (c1 : ¬ a2 < -2) (c2 : ¬ 999 < a2) : Stq L xs O (d + 1 + 1 + 1) q_L_tell q_X7_tell [.inl (nI k0), .inl a2] M := by
  have hM : CQ M (perfL T md.1 md.2.1) As n nh ns nw na M := ⟨Fr_refl, hC.2.1⟩
  have hV := hM.2.1
  have v5 : n ≤ 40 := hV.2.2.2.2.2.1
  have v6 : nh ≤ 8 := hV.2.2.2.2.2.2.1
  have v7 : ns ≤ 6 := hV.2.2.2.2.2.2.2.1
  have v8 : nw ≤ 8 := hV.2.2.2.2.2.2.2.2.1
  have h6 : na ≤ 6 := hM.2.2.2.2.1
  have g0 := (hM.2.2.1 3 0 rfl).trans hV.1
  have g4 := (hM.2.2.1 3 4 rfl).trans hV.2.1
  have g8 := (hM.2.2.1 3 8 rfl).trans hV.2.2.1
  have g13 := (hM.2.2.1 3 13 rfl).trans hV.2.2.2.1
  have g6 := hM.2.2.2.1
  obtain ⟨hOK, hCm, hMm⟩ := hC.2.2.2.2.1
  have g22 := hCm.2.2.1 k0 (by omega)
  have g69 := hMm.2.2.1 k0 (by omega)
  have hclass : EX L xs (d + 1 + 1) q_X6_tell [.inr (.inr (0, 0)), .inl (nI k0), .inl (a2)] M O = (some (.inl (some (.inl (md.2.2.1 k0))), mput M 22 0 k0 a2, O, 0, 0) : Res) := by
    refine (EX_in mi_X6_tell rfl rfl rfl (ls := [some (.inr (.inr (0, 0))), some (.inl (nI k0)), some (.inl (a2)), none]) rfl).trans ?_
    have q1 := x6_needHouse_in L xs O (D := d + 1) (by omega) (by omega) k0 M g4 hk
    have q2 := x6_needArg_1 L xs O (D := d + 1) (by omega) M
    simp (disch := first | omega | rfl | decide) only [e_X6_tell_0, e_X6_tell_5, e_X6_tell_23, e_X6_tell_24, e_X6_tell_27, xr_v, xr_n, hl_of, hl_cl, hl_toInt, hl_le, hl_lt, hl_eq, nI_add, hl_sub, pk_mul, hl_div, if_pos, if_neg, ↓reduceIte, Nat.reduceAdd, Nat.reduceSub, Nat.reduceMul, Nat.add_zero, Nat.zero_add, mp_s, mp_k, mp_i, mp_g, mr_s, mr_i, mr_g, zlt_0, zlt_1, zlt_2, zlt_3, zlt_4, zlt_5, zlt_6, zlt_8, zlt_12, zlt_15, zlt_20, zlt_24, zlt_36, zlt_40, zlt_48, zlt_80, zlt_97, zlt_120, zlt_256, zlt_600, zlt_99999999, zadd_1, zadd_2, zadd_5, zadd_6, zadd_8, zadd_20, zadd_24, zeq_0, zeq_1, zeq_2, zeq_3, zeq_4, zeq_5, zeq_6, zeq_7, zeq_8, zeq_13, zeq_14, zeq_20, zeq_32, zeq_59, zeq_60, zeq_80, zmul_2, zmul_4, zmul_6, zmul_8, zmul_10, zmul_24, zsub_1, zsub_2, zsub_10, zsub_48, zsub_97, zle_0, zle_1, zle_2, zle_6, zle_11, zle_200, zle_600, zle_100000000, ylt_0, ylt_1, ylt_2, ylt_3, ylt_6, ylt_9, ylt_20, ylt_24, ylt_57, ylt_60, ylt_99, ylt_120, ylt_122, ylt_999, ylt_9999, yle_0, yle_2, yle_4, yle_5, yle_6, yle_7, yle_8, yle_10, yle_12, yle_13, yle_15, yle_16, yle_20, yle_24, yle_40, yle_60, yle_64, yle_80, yadd_1, yadd_22, ymul_2, ymul_4, ymul_6, ymul_8, ymul_10, ymul_24, ymul_27, ymul_100, ysub_1, ysub_24, zdiv_2, zdiv_4, zdiv_24, q1, q2, c1, c2, g22]
  have hmodel : ∀ O1, EX L xs (d + 1 + 1 + 1) q_X7_tell [.inr (.inr (40, 0)), .inl (nI k0), .inl a2] (mput M 22 0 k0 a2) O1 = (some (.inl (some (.inl (md.2.2.1 k0))), mput (mput (mput M 22 0 k0 a2) 40 0 0 0) 69 0 k0 a2, O1, 0, 0) : Res) := by
    intro O1
    refine (EX_in mi_X7_tell rfl rfl rfl (ls := [some (.inr (.inr (40, 0))), some (.inl (nI k0)), some (.inl (a2)), none]) rfl).trans ?_
    have z1 : mput (mput M 22 0 k0 a2) 40 0 0 0 44 0 1 = nI nh := by rw [mp_g (by omega), mp_g (by omega)]; exact hC.1.2.1.2.1
    have t1 : mput (mput M 22 0 k0 a2) 40 0 0 0 40 0 0 = 0 := mp_s
    have g69' : mput (mput M 22 0 k0 a2) 40 0 0 0 69 0 k0 = md.2.2.1 k0 := by rw [mp_g (by omega), mp_g (by omega)]; exact g69
    generalize hM1 : mput (mput M 22 0 k0 a2) 40 0 0 0 = M1 at *
    have b0 := fun w q => x7_bad_0 L xs O1 (D := d + 1 + 1) (by omega) w q M1 t1
    have p1 := x7_isHouse_i L xs O1 (D := d + 1 + 1) (by omega) (by omega) k0 M1 z1 hk
    have p2 := x7_r_in L xs O1 (D := d + 1 + 1) (by omega) a2 (-2) 999 M1 c1 c2
    simp (disch := first | omega | rfl | decide) only [e_X7_tell_0, e_X7_tell_11, e_X7_tell_19, e_X7_tell_24, e_X7_tell_37, e_X7_tell_53, e_X7_tell_45, e_X7_tell_50, xr_v, xr_n, hl_of, hl_cl, hl_toInt, hl_le, hl_lt, hl_eq, nI_add, hl_sub, pk_mul, hl_div, if_pos, if_neg, ↓reduceIte, Nat.reduceAdd, Nat.reduceSub, Nat.reduceMul, Nat.add_zero, Nat.zero_add, mp_s, mp_k, mp_i, mp_g, mr_s, mr_i, mr_g, zlt_0, zlt_1, zlt_2, zlt_3, zlt_4, zlt_5, zlt_6, zlt_8, zlt_12, zlt_15, zlt_20, zlt_24, zlt_36, zlt_40, zlt_48, zlt_80, zlt_97, zlt_120, zlt_256, zlt_600, zlt_99999999, zadd_1, zadd_2, zadd_5, zadd_6, zadd_8, zadd_20, zadd_24, zeq_0, zeq_1, zeq_2, zeq_3, zeq_4, zeq_5, zeq_6, zeq_7, zeq_8, zeq_13, zeq_14, zeq_20, zeq_32, zeq_59, zeq_60, zeq_80, zmul_2, zmul_4, zmul_6, zmul_8, zmul_10, zmul_24, zsub_1, zsub_2, zsub_10, zsub_48, zsub_97, zle_0, zle_1, zle_2, zle_6, zle_11, zle_200, zle_600, zle_100000000, ylt_0, ylt_1, ylt_2, ylt_3, ylt_6, ylt_9, ylt_20, ylt_24, ylt_57, ylt_60, ylt_99, ylt_120, ylt_122, ylt_999, ylt_9999, yle_0, yle_2, yle_4, yle_5, yle_6, yle_7, yle_8, yle_10, yle_12, yle_13, yle_15, yle_16, yle_20, yle_24, yle_40, yle_60, yle_64, yle_80, yadd_1, yadd_22, ymul_2, ymul_4, ymul_6, ymul_8, ymul_10, ymul_24, ymul_27, ymul_100, ysub_1, ysub_24, zdiv_2, zdiv_4, zdiv_24, hM1, b0, p1, p2, g69']
  generalize hM2 : mput (mput (mput M 22 0 k0 a2) 40 0 0 0) 69 0 k0 a2 = M2 at hmodel
  have fr : Fr (fun g i k => decide ((g = 22 ∧ i = 0 ∧ k = k0) ∨ (g = 69 ∧ k = k0) ∨ (g = 40 ∧ k = 0))) M M2 := hM2 ▸ Fr_put (Fr_put (Fr_put Fr_refl (decide_eq_true (by omega))) (decide_eq_true (by omega))) (decide_eq_true (by omega))
  have e : ∀ g i k, ¬ ((g = 22 ∧ i = 0 ∧ k = k0) ∨ (g = 69 ∧ k = k0) ∨ (g = 40 ∧ k = 0)) → M2 g i k = M g i k := fun g i k h => fr g i k (decide_eq_false h)
  refine ⟨0, _, _, 0, 0, w_tell_v L xs O (nI k0) a2 _ M _ hclass, by omega, by omega, by omega, .inl (md.2.2.1 k0), M2, 0, 0, hmodel _, by omega, by omega, ?_, fun _ => rfl, T, As, n, nh, ns, nw, na, (md.1, md.2.1, (fun k => if k = k0 then a2 else md.2.2.1 k), md.2.2.2), ia, ni, nt, mds, ?_⟩
  · rw [← hM2, mp_g (by omega), mp_s]
    rfl
  · refine CORE_md hC (fun g i k h1 h2 h3 => e g i k (by omega)) rfl rfl ⟨hOK.1, hOK.2.1, hOK.2.2.1, fun k hk' => ?_, hOK.2.2.2.2⟩ ⟨?_, fun j hj => ?_, fun k hk' => ?_, ?_, fun j hj => ?_⟩ ⟨?_, fun j hj => ?_, fun k hk' => ?_, ?_, fun j hj => ?_⟩
    · show tOK (if k = k0 then a2 else md.2.2.1 k)
      split
      · exact t_ok c1 c2
      · exact hOK.2.2.2.1 k hk'
    · rw [e 20 0 1 (by omega)]
      exact hCm.1
    · rw [e 21 0 j (by omega)]
      exact hCm.2.1 j hj
    · show M2 22 0 k = if k = k0 then a2 else md.2.2.1 k
      by_cases ek : k = k0
      · rw [if_pos ek, ek, ← hM2, mp_g (by omega), mp_g (by omega), mp_s]
      · rw [if_neg ek, e 22 0 k (by omega)]
        exact hCm.2.2.1 k hk'
    · rw [e 20 0 4 (by omega)]
      exact hCm.2.2.2.1
    · rw [e 23 0 j (by omega)]
      exact hCm.2.2.2.2 j hj
    · rw [e 40 0 29 (by omega)]
      exact hMm.1
    · rw [e 68 0 j (by omega)]
      exact hMm.2.1 j hj
    · show M2 69 0 k = if k = k0 then a2 else md.2.2.1 k
      by_cases ek : k = k0
      · rw [if_pos ek, ek, ← hM2, mp_s]
      · rw [if_neg ek, e 69 0 k (by omega)]
        exact hMm.2.2.1 k hk'
    · rw [e 40 0 30 (by omega)]
      exact hMm.2.2.2.1
    · rw [e 70 0 j (by omega)]
      exact hMm.2.2.2.2 j hj
end
