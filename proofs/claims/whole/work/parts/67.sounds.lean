/-! The reference: a whole RAY, all RAYS of a sound. -/
theorem pos_d : ∀ x, x < 40 → ∀ i, i < 40 → (i ≤ x → nI x + (-1) * nI i = nI (x - i)) ∧ (x < i → nI x + (-1) * nI i < 0) := by decide +kernel
theorem pos_in {n x : Nat} {rt : Bool} {i y : Nat} (hx : x < 40) (hi : i < 40) (h : yAt n rt x i = some y) : nI x + twI rt * nI i = nI y := by
  unfold yAt at h
  unfold twI
  cases rt with
  | true =>
    rw [if_pos rfl] at h ⊢
    by_cases h2 : x + i < n
    · rw [if_pos h2] at h
      cases h
      rw [Int32.one_mul, nI_add]
    · rw [if_neg h2] at h
      cases h
  | false =>
    rw [if_neg (by decide)] at h ⊢
    by_cases h2 : i ≤ x
    · rw [if_pos h2] at h
      cases h
      exact (pos_d x hx i hi).1 h2
    · rw [if_neg h2] at h
      cases h
theorem pos_out {n x : Nat} {rt : Bool} {i : Nat} (hn : n ≤ 40) (hx : x < 40) (hi : i < 40) (h : yAt n rt x i = none) : nI x + twI rt * nI i < 0 ∨ ¬ nI x + twI rt * nI i < nI n := by
  unfold yAt at h
  unfold twI
  cases rt with
  | true =>
    rw [if_pos rfl] at h ⊢
    by_cases h2 : x + i < n
    · rw [if_pos h2] at h
      cases h
    · right
      rw [Int32.one_mul, nI_add, hl_lt (by omega) (by omega)]
      omega
  | false =>
    rw [if_neg (by decide)] at h ⊢
    by_cases h2 : i ≤ x
    · rw [if_pos h2] at h
      cases h
    · left
      exact (pos_d x hx i hi).2 (by omega)
theorem slI_m : ∀ j, j < 10 → ¬ 7 ≤ slI j := by decide
section
variable {V : Vw} {A : Nat → Int32} {n x : Nat} {up lv pt : Int32}
theorem row_skip {rt : Bool} {i j : Nat} (c0 : Bool → Nat) (hi : 1 ≤ i) (hx : x < n) (h : yAt n rt x i = none) (y' : Nat) (hy : y' < n) : rowF V A n x up lv pt (cntA rt j (i + 1) c0) y' = rowF V A n x up lv pt (cntA rt j i c0) y' := by
  unfold rowF
  by_cases e2 : y' = x
  · rw [if_pos e2, if_pos e2]
  · rw [if_neg e2, if_neg e2]
    unfold cntA
    by_cases e3 : sd x y' = rt
    · have e4 : dist x y' ≠ i := by
        intro e4
        unfold yAt at h
        unfold sd at e3
        unfold dist at e4
        cases rt with
        | true =>
          have c : x < y' := of_decide_eq_true e3
          rw [if_pos c] at e4
          rw [if_pos rfl, if_pos (by omega)] at h
          cases h
        | false =>
          have c : ¬ x < y' := of_decide_eq_false e3
          rw [if_neg c] at e4
          rw [if_neg (by decide), if_pos (by omega)] at h
          cases h
      rw [if_pos e3, if_pos e3]
      by_cases e5 : dist x y' < i
      · rw [if_pos e5, if_pos (by omega)]
      · rw [if_neg e5, if_neg (by omega)]
    · rw [if_neg e3, if_neg e3]
end
section
variable (L : Nat) (xs : Nat → Int32) (O : Int64)
theorem sh_loop (d : Nat) (hd : 4 ≤ d + 1) {V : Vw} {A : Nat → Int32} {n x nh ns nw : Nat} {up lv pt : Int32} (hV : VOK V n nh ns nw) (a : Nat) (ha : a < 6) (M0 : Mem) (hG : MG M0 V n) (hA : MA M0 a A) (hxn : x < n)
    (rt : Bool) (s0 : Int32) (Q : Mem → Prop) (hQ : ∀ M', Fr sSh M0 M' → (∀ i, i < 40 → M' 77 0 i = plF (rayF V A n x up lv pt rt s0 i) ∧ M' 78 0 i = lfF (rayF V A n x up lv pt rt s0 i)) → Q M') : ∀ r fuel k m y p sl rm M, m + r = 40 → r ≤ fuel → Fr sSh M0 M → yAt n rt x m = some y →
    (m = 0 ∨ ¬ p < 0) → rayF V A n x up lv pt rt s0 m = some (p, if m = 0 then sl else rTurn A (twI rt) p sl, rm) →
    (∀ i, i < 40 → M 77 0 i = plF (if i ≤ m then rayF V A n x up lv pt rt s0 i else none) ∧ M 78 0 i = lfF (if i ≤ m then rayF V A n x up lv pt rt s0 i else none)) →
    isV (BK L xs (EX L xs (d + 1)) mi_X7_shines (RN L xs (d) mi_X7_shines fuel) (k + 400) 93 [some (.inr (.inr (40, 0))), some (.inl (nI a)), some (.inl (nI x)), some (.inl (up)), some (.inl (lv)), some (.inl (pt)), some (.inl (twI rt)), some (.inl (s0)), some (.inl (p)), some (.inl (rm)), some (.inl (sl)), some (.inl (nI (m + 1))), some (.inl (1)), some (.inl (nI y + twI rt))] [] M O none 0 0) O Q := by
  have v5 : n ≤ 40 := hV.2.2.2.2.2.1
  have v4 : 8 ≤ n := hV.2.2.2.2.1
  have vh := hV.2.2.2.2.2.2.2.2.2.2.1
  intro r
  induction r with
  | zero =>
    intro fuel k m y p sl rm M hm hf fr hy hp hz hrow
    exfalso
    unfold yAt at hy
    cases rt with
    | true =>
      rw [if_pos rfl, if_neg (by omega)] at hy
      cases hy
    | false =>
      rw [if_neg (by decide), if_neg (by omega)] at hy
      cases hy
  | succ r ih =>
    intro fuel k m y p sl rm M hm hf fr hy hp hz hrow
    obtain ⟨f, rfl⟩ : ∃ f, fuel = f + 1 := ⟨fuel - 1, by omega⟩
    have hGM := MG_fr hG fr (fun _ => rfl) (fun _ => rfl) (fun _ => rfl) (fun _ => rfl)
    have hAM := MA_fr hA fr (fun _ => rfl)
    cases hyn : yAt n rt x (m + 1) with
    | none =>
      rw [e_X7_shines_93, if_neg (by decide), x7_isCell_out L xs O (D := d + 1) (by omega) v5 (by omega) _ M hGM.1 (next_out v5 hxn hy hyn)]
      simp only [xr_v, Nat.reduceAdd, Nat.add_zero]
      rw [e_X7_shines_104, if_pos rfl, e_X7_shines_310]
      refine isV_i (hQ M fr (fun i hi => ?_))
      by_cases h : i ≤ m
      · have := hrow i hi
        rw [if_pos h] at this
        exact this
      · have := hrow i hi
        rw [if_neg h] at this
        have hn := ray_none (ray_n (V := V) (A := A) (up := up) (lv := lv) (pt := pt) (s0 := s0) hyn) (i - (m + 1))
        rw [show m + 1 + (i - (m + 1)) = i by omega] at hn
        rw [hn]
        exact this
    | some y1 =>
      have hy1 : y1 < n := yAt_lt hxn hyn
      have hm1 := yAt_i v5 hxn hyn
      have hs := ray_s hz hyn
      rw [next_in hy hyn, e_X7_shines_93, if_neg (by decide), x7_isCell_in L xs O (D := d + 1) (by omega) v5 y1 M hGM.1 hy1]
      simp only [xr_v, Nat.reduceAdd, Nat.add_zero]
      rw [e_X7_shines_104, if_neg (by decide)]
      have key : ∀ k', isV (BK L xs (EX L xs (d + 1)) mi_X7_shines (RN L xs (d) mi_X7_shines (f + 1)) (k' + 300) 129 [some (.inr (.inr (40, 0))), some (.inl (nI a)), some (.inl (nI x)), some (.inl (up)), some (.inl (lv)), some (.inl (pt)), some (.inl (twI rt)), some (.inl (s0)), some (.inl (p)), some (.inl (rm)), some (.inl (sl)), some (.inl (nI (m + 1))), some (.inl (1)), some (.inl (nI y1))] [.inl (if m = 0 then sl else rTurn A (twI rt) p sl)] M O none 0 0) O Q := by
        intro k'
        refine sh_129 L xs O d (f + 1) k' (m + 1) y1 (by omega) A (twI rt) hV (nI a) (nI x) up lv pt (twI rt) s0 sl 1 (p, if m = 0 then sl else rTurn A (twI rt) p sl, rm) (by omega) hy1 M hGM (fun r => isV r O Q) ?_
        intro p1 s1 r1 hst
        have hs' := hs.trans hst
        cases hR : rEnd V A (twI rt) pt y1 (nI (m + 1)) p1 s1 r1 with
        | none =>
          rw [hR] at hs'
          rw [Option.isSome_none, if_neg Bool.false_ne_true, b2i_f]
          refine isV_e (RN_s _ _ _ _ _ _ _ _ _ _ _ _) ?_
          rw [e_X7_shines_93, if_pos rfl, e_X7_shines_310]
          refine isV_i (hQ M fr (fun i hi => ?_))
          by_cases h : i ≤ m
          · have := hrow i hi
            rw [if_pos h] at this
            exact this
          · have := hrow i hi
            rw [if_neg h] at this
            have hn := ray_none hs' (i - (m + 1))
            rw [show m + 1 + (i - (m + 1)) = i by omega] at hn
            rw [hn]
            exact this
        | some z1 =>
          have hz1 := (rEnd_p hR).1
          have hnn : ¬ z1.1 < 0 := rStep_nn (vh y1 hy1).1 (vh y1 hy1).2 (hst.trans hR)
          rw [hR] at hs'
          rw [Option.isSome_some, if_pos rfl, b2i_t]
          refine isV_e (RN_s _ _ _ _ _ _ _ _ _ _ _ _) ?_
          rw [hz1] at hnn hs'
          refine ih f 2600 (m + 1) y1 p1 s1 _ _ (by omega) (by omega) (Fr_put (Fr_put fr rfl) rfl) hyn (Or.inr hnn) ?_ ?_
          · rw [if_neg (by omega)]
            exact hs'
          · intro i hi
            by_cases e : i = m + 1
            · rw [e, if_pos (by omega), hs', mp_g (by omega), mp_s, mp_s]
              exact ⟨rfl, rfl⟩
            · rw [mp_g (by omega), mp_k e, mp_k e, mp_g (by omega)]
              have := hrow i hi
              by_cases h : i ≤ m
              · rw [if_pos h] at this
                rw [if_pos (by omega)]
                exact this
              · rw [if_neg h] at this
                rw [if_neg (by omega)]
                exact this
      by_cases h0 : m = 0
      · rw [if_pos (by rw [h0]; rfl)]
        have := key (k + 89)
        rw [if_pos h0] at this
        exact this
      · rw [if_neg (by rw [zeq_1 (by omega)]; omega), x7_turns L xs O (D := d + 1) (by omega) a ha p sl (twI rt) M hAM (hp.resolve_left h0)]
        simp only [xr_v, Nat.reduceAdd, Nat.add_zero]
        have := key (k + 85)
        rw [if_neg h0] at this
        exact this
def sR2 (g _i _k : Nat) : Bool := Nat.beq g 77 || Nat.beq g 78
theorem sh_clear (d : Nat) (a1 a2 a3 a4 a5 a6 a7 a8 a9 a10 a11 a12 : Int32) (M0 : Mem) (P : Res → Prop) : ∀ r fuel k j M, j + r = 40 → r ≤ fuel → Fr sSh M0 M → (∀ i, i < j → M 77 0 i = -1 ∧ M 78 0 i = 0) →
    (∀ f' k' M', fuel ≤ f' + r → Fr sSh M0 M' → (∀ i, i < 40 → M' 77 0 i = -1 ∧ M' 78 0 i = 0) → P (BK L xs (EX L xs (d + 1)) mi_X7_shines (RN L xs (d) mi_X7_shines (f')) (k' + 1000) 36 [some (.inr (.inr (40, 0))), some (.inl (a1)), some (.inl (a2)), some (.inl (a3)), some (.inl (a4)), some (.inl (a5)), some (.inl (a6)), some (.inl (a7)), some (.inl (a8)), some (.inl (a9)), some (.inl (a10)), some (.inl (a11)), some (.inl (a12)), some (.inl (nI 40))] [] M' O none 0 0)) →
    P (BK L xs (EX L xs (d + 1)) mi_X7_shines (RN L xs (d) mi_X7_shines fuel) (k + 1000) 36 [some (.inr (.inr (40, 0))), some (.inl (a1)), some (.inl (a2)), some (.inl (a3)), some (.inl (a4)), some (.inl (a5)), some (.inl (a6)), some (.inl (a7)), some (.inl (a8)), some (.inl (a9)), some (.inl (a10)), some (.inl (a11)), some (.inl (a12)), some (.inl (nI j))] [] M O none 0 0) := by
  intro r
  induction r with
  | zero =>
    intro fuel k j M hj hf fr h hex
    obtain rfl : j = 40 := by omega
    exact hex fuel k M (by omega) fr h
  | succ r ih =>
    intro fuel k j M hj hf fr h hex
    obtain ⟨f, rfl⟩ : ∃ f, fuel = f + 1 := ⟨fuel - 1, by omega⟩
    simp (disch := first | omega | rfl | decide) only [e_X7_shines_36, xr_v, xr_n, hl_of, hl_cl, hl_toInt, hl_le, hl_lt, hl_eq, nI_add, hl_sub, pk_mul, hl_div, if_pos, if_neg, ↓reduceIte, Nat.reduceAdd, Nat.reduceSub, Nat.reduceMul, Nat.add_zero, Nat.zero_add, mp_s, mp_k, mp_i, mp_g, mr_s, mr_i, mr_g, zlt_0, zlt_1, zlt_2, zlt_3, zlt_4, zlt_5, zlt_6, zlt_8, zlt_12, zlt_15, zlt_20, zlt_24, zlt_36, zlt_40, zlt_48, zlt_80, zlt_97, zlt_120, zlt_256, zlt_600, zlt_99999999, zadd_1, zadd_2, zadd_5, zadd_6, zadd_8, zadd_20, zadd_24, zeq_0, zeq_1, zeq_2, zeq_3, zeq_4, zeq_5, zeq_6, zeq_7, zeq_8, zeq_13, zeq_14, zeq_20, zeq_32, zeq_59, zeq_60, zeq_80, zmul_2, zmul_4, zmul_6, zmul_8, zmul_10, zmul_24, zsub_1, zsub_2, zsub_10, zsub_48, zsub_97, zle_0, zle_1, zle_2, zle_6, zle_11, zle_200, zle_600, zle_100000000, ylt_0, ylt_1, ylt_2, ylt_3, ylt_6, ylt_9, ylt_20, ylt_24, ylt_57, ylt_60, ylt_99, ylt_120, ylt_122, ylt_999, ylt_9999, yle_0, yle_2, yle_4, yle_5, yle_6, yle_7, yle_8, yle_10, yle_12, yle_13, yle_15, yle_16, yle_20, yle_24, yle_40, yle_60, yle_64, yle_80, yadd_1, yadd_22, ymul_2, ymul_4, ymul_6, ymul_8, ymul_10, ymul_24, ymul_27, ymul_100, ysub_1, ysub_24, zdiv_2, zdiv_4, zdiv_24]
    refine P_e (RN_s _ _ _ _ _ _ _ _ _ _ _ _) ?_
    refine ih f 2000 (j + 1) _ (by omega) (by omega) (Fr_put (Fr_put fr rfl) rfl) ?_ (fun f' k' M' e => hex f' k' M' (by omega))
    intro i hi
    by_cases e : i = j
    · rw [e, mp_g (by omega), mp_s, mp_s]
      exact ⟨rfl, rfl⟩
    · rw [mp_g (by omega), mp_k e, mp_k e, mp_g (by omega)]
      exact h i (by omega)
theorem x7_shines {D : Nat} (hD : 5 ≤ D) {V : Vw} {A : Nat → Int32} {n x nh ns nw : Nat} {up lv pt : Int32} (hV : VOK V n nh ns nw) (a : Nat) (ha : a < 6) (M : Mem) (hG : MG M V n) (hA : MA M a A) (hxn : x < n) (rt : Bool) (s0 : Int32) :
    isV (EX L xs (D) q_X7_shines [.inr (.inr (40, 0)), .inl (nI a), .inl (nI x), .inl (up), .inl (lv), .inl (pt), .inl (twI rt), .inl (s0)] M O) O (fun M' => Fr sSh M M' ∧ ∀ i, i < 40 → M' 77 0 i = plF (rayF V A n x up lv pt rt s0 i) ∧ M' 78 0 i = lfF (rayF V A n x up lv pt rt s0 i)) := by
  have v5 : n ≤ 40 := hV.2.2.2.2.2.1
  obtain ⟨d, rfl⟩ : ∃ d, D = d + 2 := ⟨D - 2, by omega⟩
  refine isV_e (EX_in mi_X7_shines rfl rfl rfl (ls := [some (.inr (.inr (40, 0))), some (.inl (nI a)), some (.inl (nI x)), some (.inl (up)), some (.inl (lv)), some (.inl (pt)), some (.inl (twI rt)), some (.inl (s0)), none, none, none, none, none, none]) rfl) ?_
  have hin : 0 ≤ (nI x).toInt ∧ (nI x).toInt < 40 := in_40 (show x < 40 by omega)
  rw [e_X7_shines_0, if_pos hin, hl_cl (by omega), (hG.2 x hxn).2.1]
  by_cases h0 : lv ≤ 0
  · have hn : ∀ i, rayF V A n x up lv pt rt s0 i = none := fun i => by
      have h00 : rayF V A n x up lv pt rt s0 0 = none := if_neg (nlt_le h0)
      have := ray_none h00 i
      rw [Nat.zero_add] at this
      exact this
    rw [if_pos h0, e_X7_shines_31]
    refine sh_clear L xs O d _ _ _ _ _ _ _ _ _ _ _ _ M (fun r => isV r O _) 40 FUEL 1981 0 M (by omega) (Nat.le_of_lt (FU (by omega))) Fr_refl (fun i hi => absurd hi (by omega)) ?_
    intro f' k' M' hf' fr' h'
    simp (disch := first | omega | rfl | decide) only [e_X7_shines_36, xr_v, xr_n, hl_of, hl_cl, hl_toInt, hl_le, hl_lt, hl_eq, nI_add, hl_sub, pk_mul, hl_div, if_pos, if_neg, ↓reduceIte, Nat.reduceAdd, Nat.reduceSub, Nat.reduceMul, Nat.add_zero, Nat.zero_add, mp_s, mp_k, mp_i, mp_g, mr_s, mr_i, mr_g, zlt_0, zlt_1, zlt_2, zlt_3, zlt_4, zlt_5, zlt_6, zlt_8, zlt_12, zlt_15, zlt_20, zlt_24, zlt_36, zlt_40, zlt_48, zlt_80, zlt_97, zlt_120, zlt_256, zlt_600, zlt_99999999, zadd_1, zadd_2, zadd_5, zadd_6, zadd_8, zadd_20, zadd_24, zeq_0, zeq_1, zeq_2, zeq_3, zeq_4, zeq_5, zeq_6, zeq_7, zeq_8, zeq_13, zeq_14, zeq_20, zeq_32, zeq_59, zeq_60, zeq_80, zmul_2, zmul_4, zmul_6, zmul_8, zmul_10, zmul_24, zsub_1, zsub_2, zsub_10, zsub_48, zsub_97, zle_0, zle_1, zle_2, zle_6, zle_11, zle_200, zle_600, zle_100000000, ylt_0, ylt_1, ylt_2, ylt_3, ylt_6, ylt_9, ylt_20, ylt_24, ylt_57, ylt_60, ylt_99, ylt_120, ylt_122, ylt_999, ylt_9999, yle_0, yle_2, yle_4, yle_5, yle_6, yle_7, yle_8, yle_10, yle_12, yle_13, yle_15, yle_16, yle_20, yle_24, yle_40, yle_60, yle_64, yle_80, yadd_1, yadd_22, ymul_2, ymul_4, ymul_6, ymul_8, ymul_10, ymul_24, ymul_27, ymul_100, ysub_1, ysub_24, zdiv_2, zdiv_4, zdiv_24]
    refine isV_i ⟨fr', fun i hi => ?_⟩
    rw [hn i]
    exact h' i hi
  · have hz : rayF V A n x up lv pt rt s0 0 = some (V 5 x + up, s0, lv) := if_pos (lt_nle h0)
    rw [if_neg h0, e_X7_shines_31]
    refine sh_clear L xs O d _ _ _ _ _ _ _ _ _ _ _ _ M (fun r => isV r O _) 40 FUEL 1980 0 M (by omega) (Nat.le_of_lt (FU (by omega))) Fr_refl (fun i hi => absurd hi (by omega)) ?_
    intro f' k' M' hf' fr' h'
    have hf2 : 999999 ≤ f' + 40 := hf'
    simp (disch := first | omega | rfl | decide) only [e_X7_shines_36, xr_v, xr_n, hl_of, hl_cl, hl_toInt, hl_le, hl_lt, hl_eq, nI_add, hl_sub, pk_mul, hl_div, if_pos, if_neg, ↓reduceIte, Nat.reduceAdd, Nat.reduceSub, Nat.reduceMul, Nat.add_zero, Nat.zero_add, mp_s, mp_k, mp_i, mp_g, mr_s, mr_i, mr_g, zlt_0, zlt_1, zlt_2, zlt_3, zlt_4, zlt_5, zlt_6, zlt_8, zlt_12, zlt_15, zlt_20, zlt_24, zlt_36, zlt_40, zlt_48, zlt_80, zlt_97, zlt_120, zlt_256, zlt_600, zlt_99999999, zadd_1, zadd_2, zadd_5, zadd_6, zadd_8, zadd_20, zadd_24, zeq_0, zeq_1, zeq_2, zeq_3, zeq_4, zeq_5, zeq_6, zeq_7, zeq_8, zeq_13, zeq_14, zeq_20, zeq_32, zeq_59, zeq_60, zeq_80, zmul_2, zmul_4, zmul_6, zmul_8, zmul_10, zmul_24, zsub_1, zsub_2, zsub_10, zsub_48, zsub_97, zle_0, zle_1, zle_2, zle_6, zle_11, zle_200, zle_600, zle_100000000, ylt_0, ylt_1, ylt_2, ylt_3, ylt_6, ylt_9, ylt_20, ylt_24, ylt_57, ylt_60, ylt_99, ylt_120, ylt_122, ylt_999, ylt_9999, yle_0, yle_2, yle_4, yle_5, yle_6, yle_7, yle_8, yle_10, yle_12, yle_13, yle_15, yle_16, yle_20, yle_24, yle_40, yle_60, yle_64, yle_80, yadd_1, yadd_22, ymul_2, ymul_4, ymul_6, ymul_8, ymul_10, ymul_24, ymul_27, ymul_100, ysub_1, ysub_24, zdiv_2, zdiv_4, zdiv_24]
    refine sh_loop L xs O d (by omega) hV a ha M hG hA hxn rt s0 _ (fun M' a b => ⟨a, b⟩) 40 f' (k' + 581) 0 x (V 5 x + up) s0 lv _ (by omega) (by omega) (Fr_put (Fr_put fr' rfl) rfl) ?_ (Or.inl rfl) ?_ ?_
    · unfold yAt
      cases rt with
      | true => exact (if_pos rfl).trans (if_pos hxn)
      | false => exact (if_neg (by decide)).trans (if_pos (by omega))
    · rw [if_pos rfl]
      exact hz
    · intro i hi
      by_cases e : i = 0
      · rw [e, if_pos (by omega), hz, mp_g (by omega), mp_s, mp_s]
        exact ⟨rfl, rfl⟩
      · rw [mp_g (by omega), mp_k e, mp_k e, mp_g (by omega), if_neg (by omega)]
        exact h' i hi
def sSo (g _i _k : Nat) : Bool := Nat.beq g 77 || Nat.beq g 78 || Nat.beq g 79
theorem sSo_sh {g i k : Nat} (h : sSo g i k = false) : sSh g i k = false := by
  unfold sSo at h
  exact (Bool.or_eq_false_iff.mp h).1
theorem so_init (d : Nat) {V : Vw} {A : Nat → Int32} {n x : Nat} {up lv pt : Int32} (v5 : n ≤ 40) (hxn : x < n) (a1 : Int32) (u7 u8 u9 : Option AV) (M0 : Mem) (h0 : M0 44 0 0 = nI n) (P : Res → Prop) : ∀ r fuel k j M, j + r = n → r ≤ fuel → Fr sSo M0 M → (∀ y, y < j → M 79 0 y = rowF V A n x up lv pt (fun _ _ => 0) y) →
    (∀ f' k' M', fuel ≤ f' + r → Fr sSo M0 M' → (∀ y, y < n → M' 79 0 y = rowF V A n x up lv pt (fun _ _ => 0) y) → P (BK L xs (EX L xs (d + 1)) mi_X7_sounds (RN L xs (d) mi_X7_sounds (f')) (k' + 900) 42 [some (.inr (.inr (40, 0))), some (.inl (a1)), some (.inl (nI x)), some (.inl (up)), some (.inl (lv)), some (.inl (pt)), some (.inl ((-1))), u7, u8, u9] [] M' O none 0 0)) →
    P (BK L xs (EX L xs (d + 1)) mi_X7_sounds (RN L xs (d) mi_X7_sounds fuel) (k + 1000) 3 [some (.inr (.inr (40, 0))), some (.inl (a1)), some (.inl (nI x)), some (.inl (up)), some (.inl (lv)), some (.inl (pt)), some (.inl (nI j)), u7, u8, u9] [] M O none 0 0) := by
  intro r
  induction r with
  | zero =>
    intro fuel k j M hj hf fr h hex
    have h44 : M 44 0 0 = nI n := (fr 44 0 0 rfl).trans h0
    have hex' := fun k' => hex fuel k' M (by omega) fr (fun y hy => h y (by omega))
    rw [e_X7_sounds_3, h44, if_pos (by rw [hl_le (by omega) (by omega)]; omega)]
    exact hex' (k + 92)
  | succ r ih =>
    intro fuel k j M hj hf fr h hex
    obtain ⟨f, rfl⟩ : ∃ f, fuel = f + 1 := ⟨fuel - 1, by omega⟩
    have h44 : M 44 0 0 = nI n := (fr 44 0 0 rfl).trans h0
    have go : ∀ v, v = rowF V A n x up lv pt (fun _ _ => 0) j → P (RN L xs (d) mi_X7_sounds (f + 1) 3 [some (.inr (.inr (40, 0))), some (.inl (a1)), some (.inl (nI x)), some (.inl (up)), some (.inl (lv)), some (.inl (pt)), some (.inl (nI (j + 1))), u7, u8, u9] (mput M 79 0 j v) O none 0 0) := by
      intro v hv
      refine P_e (RN_s _ _ _ _ _ _ _ _ _ _ _ _) ?_
      refine ih f 2000 (j + 1) _ (by omega) (by omega) (Fr_put fr rfl) ?_ (fun f' k' M' e => hex f' k' M' (by omega))
      intro y hy
      by_cases e : y = j
      · rw [e, mp_s, hv]
      · rw [mp_k e]
        exact h y (by omega)
    by_cases e : j = x
    · simp (disch := first | omega | rfl | decide) only [e_X7_sounds_3, e_X7_sounds_32, xr_v, xr_n, hl_of, hl_cl, hl_toInt, hl_le, hl_lt, hl_eq, nI_add, hl_sub, pk_mul, hl_div, if_pos, if_neg, ↓reduceIte, Nat.reduceAdd, Nat.reduceSub, Nat.reduceMul, Nat.add_zero, Nat.zero_add, mp_s, mp_k, mp_i, mp_g, mr_s, mr_i, mr_g, zlt_0, zlt_1, zlt_2, zlt_3, zlt_4, zlt_5, zlt_6, zlt_8, zlt_12, zlt_15, zlt_20, zlt_24, zlt_36, zlt_40, zlt_48, zlt_80, zlt_97, zlt_120, zlt_256, zlt_600, zlt_99999999, zadd_1, zadd_2, zadd_5, zadd_6, zadd_8, zadd_20, zadd_24, zeq_0, zeq_1, zeq_2, zeq_3, zeq_4, zeq_5, zeq_6, zeq_7, zeq_8, zeq_13, zeq_14, zeq_20, zeq_32, zeq_59, zeq_60, zeq_80, zmul_2, zmul_4, zmul_6, zmul_8, zmul_10, zmul_24, zsub_1, zsub_2, zsub_10, zsub_48, zsub_97, zle_0, zle_1, zle_2, zle_6, zle_11, zle_200, zle_600, zle_100000000, ylt_0, ylt_1, ylt_2, ylt_3, ylt_6, ylt_9, ylt_20, ylt_24, ylt_57, ylt_60, ylt_99, ylt_120, ylt_122, ylt_999, ylt_9999, yle_0, yle_2, yle_4, yle_5, yle_6, yle_7, yle_8, yle_10, yle_12, yle_13, yle_15, yle_16, yle_20, yle_24, yle_40, yle_60, yle_64, yle_80, yadd_1, yadd_22, ymul_2, ymul_4, ymul_6, ymul_8, ymul_10, ymul_24, ymul_27, ymul_100, ysub_1, ysub_24, zdiv_2, zdiv_4, zdiv_24, h44]
      exact go lv (if_pos e).symm
    · simp (disch := first | omega | rfl | decide) only [e_X7_sounds_3, e_X7_sounds_32, xr_v, xr_n, hl_of, hl_cl, hl_toInt, hl_le, hl_lt, hl_eq, nI_add, hl_sub, pk_mul, hl_div, if_pos, if_neg, ↓reduceIte, Nat.reduceAdd, Nat.reduceSub, Nat.reduceMul, Nat.add_zero, Nat.zero_add, mp_s, mp_k, mp_i, mp_g, mr_s, mr_i, mr_g, zlt_0, zlt_1, zlt_2, zlt_3, zlt_4, zlt_5, zlt_6, zlt_8, zlt_12, zlt_15, zlt_20, zlt_24, zlt_36, zlt_40, zlt_48, zlt_80, zlt_97, zlt_120, zlt_256, zlt_600, zlt_99999999, zadd_1, zadd_2, zadd_5, zadd_6, zadd_8, zadd_20, zadd_24, zeq_0, zeq_1, zeq_2, zeq_3, zeq_4, zeq_5, zeq_6, zeq_7, zeq_8, zeq_13, zeq_14, zeq_20, zeq_32, zeq_59, zeq_60, zeq_80, zmul_2, zmul_4, zmul_6, zmul_8, zmul_10, zmul_24, zsub_1, zsub_2, zsub_10, zsub_48, zsub_97, zle_0, zle_1, zle_2, zle_6, zle_11, zle_200, zle_600, zle_100000000, ylt_0, ylt_1, ylt_2, ylt_3, ylt_6, ylt_9, ylt_20, ylt_24, ylt_57, ylt_60, ylt_99, ylt_120, ylt_122, ylt_999, ylt_9999, yle_0, yle_2, yle_4, yle_5, yle_6, yle_7, yle_8, yle_10, yle_12, yle_13, yle_15, yle_16, yle_20, yle_24, yle_40, yle_60, yle_64, yle_80, yadd_1, yadd_22, ymul_2, ymul_4, ymul_6, ymul_8, ymul_10, ymul_24, ymul_27, ymul_100, ysub_1, ysub_24, zdiv_2, zdiv_4, zdiv_24, h44]
      exact go 0 (if_neg e).symm
theorem so_in (d : Nat) (hd : 6 ≤ d + 1) {V : Vw} {A : Nat → Int32} {n x nh ns nw : Nat} {up lv pt : Int32} (hV : VOK V n nh ns nw) (a1 : Int32) (M0 : Mem) (hG : MG M0 V n) (hxn : x < n)
    (rt : Bool) (j : Nat) (hj : j < 10) (c0 : Bool → Nat) (P : Res → Prop) : ∀ r fuel k i u9 M, i + r = 40 → 1 ≤ i → r ≤ fuel → Fr sSo M0 M → (∀ t, t < 40 → M 77 0 t = plF (rayF V A n x up lv pt rt (slI j) t) ∧ M 78 0 t = lfF (rayF V A n x up lv pt rt (slI j) t)) →
    (∀ y, y < n → M 79 0 y = rowF V A n x up lv pt (cntA rt j i c0) y) →
    (∀ f' a8 u9 M', fuel ≤ f' + r → Fr sSo M0 M' → (∀ y, y < n → M' 79 0 y = rowF V A n x up lv pt (cntE rt (j + 1) c0) y) → P (RN L xs (d) mi_X7_sounds (f') 52 [some (.inr (.inr (40, 0))), some (.inl (a1)), some (.inl (nI x)), some (.inl (up)), some (.inl (lv)), some (.inl (pt)), some (.inl (twI rt)), some (.inl (slI (j + 1))), some (.inl (a8)), u9] M' O none 0 0)) →
    P (BK L xs (EX L xs (d + 1)) mi_X7_sounds (RN L xs (d) mi_X7_sounds fuel) (k + 200) 77 [some (.inr (.inr (40, 0))), some (.inl (a1)), some (.inl (nI x)), some (.inl (up)), some (.inl (lv)), some (.inl (pt)), some (.inl (twI rt)), some (.inl (slI j)), some (.inl (nI i)), u9] [] M O none 0 0) := by
  have v5 : n ≤ 40 := hV.2.2.2.2.2.1
  have v4 : 8 ≤ n := hV.2.2.2.2.1
  have vh := hV.2.2.2.2.2.2.2.2.2.2.1
  intro r
  induction r with
  | zero =>
    intro fuel k i u9 M hi h1 hf fr hsh hrow hex
    rw [e_X7_sounds_77, if_pos (by rw [yle_40 (by omega)]; omega), slI_s j hj]
    refine hex fuel _ _ M (by omega) fr (fun y hy => ?_)
    rw [hrow y hy, show i = 40 by omega, row_end40 (by omega) _ _ _ _ (by omega)]
  | succ r ih =>
    intro fuel k i u9 M hi h1 hf fr hsh hrow hex
    obtain ⟨f, rfl⟩ : ∃ f, fuel = f + 1 := ⟨fuel - 1, by omega⟩
    have hGM := MG_fr hG fr (fun _ => rfl) (fun _ => rfl) (fun _ => rfl) (fun _ => rfl)
    have h44 := hGM.1
    rw [e_X7_sounds_77, if_neg (by rw [yle_40 (by omega)]; omega)]
    have stay : ∀ a9, (∀ y, y < n → rowF V A n x up lv pt (cntA rt j (i + 1) c0) y = rowF V A n x up lv pt (cntA rt j i c0) y) → P (RN L xs (d) mi_X7_sounds (f + 1) 77 [some (.inr (.inr (40, 0))), some (.inl (a1)), some (.inl (nI x)), some (.inl (up)), some (.inl (lv)), some (.inl (pt)), some (.inl (twI rt)), some (.inl (slI j)), some (.inl (nI (i + 1))), some (.inl (a9))] M O none 0 0) := by
      intro a9 hr
      refine P_e (RN_s _ _ _ _ _ _ _ _ _ _ _ _) ?_
      exact ih f 2800 (i + 1) _ M (by omega) (by omega) (by omega) fr hsh (fun y hy => (hrow y hy).trans (hr y hy).symm) (fun f' a8 u9 M' e => hex f' a8 u9 M' (by omega))
    cases hyn : yAt n rt x i with
    | none =>
      rw [x7_isCell_out L xs O (D := d + 1) (by omega) v5 (by omega) _ M h44 (pos_out v5 (by omega) (by omega) hyn)]
      simp (disch := first | omega | rfl | decide) only [e_X7_sounds_99, e_X7_sounds_176, xr_v, xr_n, hl_of, hl_cl, hl_toInt, hl_le, hl_lt, hl_eq, nI_add, hl_sub, pk_mul, hl_div, if_pos, if_neg, ↓reduceIte, Nat.reduceAdd, Nat.reduceSub, Nat.reduceMul, Nat.add_zero, Nat.zero_add, mp_s, mp_k, mp_i, mp_g, mr_s, mr_i, mr_g, zlt_0, zlt_1, zlt_2, zlt_3, zlt_4, zlt_5, zlt_6, zlt_8, zlt_12, zlt_15, zlt_20, zlt_24, zlt_36, zlt_40, zlt_48, zlt_80, zlt_97, zlt_120, zlt_256, zlt_600, zlt_99999999, zadd_1, zadd_2, zadd_5, zadd_6, zadd_8, zadd_20, zadd_24, zeq_0, zeq_1, zeq_2, zeq_3, zeq_4, zeq_5, zeq_6, zeq_7, zeq_8, zeq_13, zeq_14, zeq_20, zeq_32, zeq_59, zeq_60, zeq_80, zmul_2, zmul_4, zmul_6, zmul_8, zmul_10, zmul_24, zsub_1, zsub_2, zsub_10, zsub_48, zsub_97, zle_0, zle_1, zle_2, zle_6, zle_11, zle_200, zle_600, zle_100000000, ylt_0, ylt_1, ylt_2, ylt_3, ylt_6, ylt_9, ylt_20, ylt_24, ylt_57, ylt_60, ylt_99, ylt_120, ylt_122, ylt_999, ylt_9999, yle_0, yle_2, yle_4, yle_5, yle_6, yle_7, yle_8, yle_10, yle_12, yle_13, yle_15, yle_16, yle_20, yle_24, yle_40, yle_60, yle_64, yle_80, yadd_1, yadd_22, ymul_2, ymul_4, ymul_6, ymul_8, ymul_10, ymul_24, ymul_27, ymul_100, ysub_1, ysub_24, zdiv_2, zdiv_4, zdiv_24]
      exact stay _ (fun y hy => row_skip c0 h1 hxn hyn y hy)
    | some y1 =>
      have hy1 := yAt_lt hxn hyn
      obtain ⟨-, -, hyx, hyI⟩ := yAt_sd h1 hyn
      have hc : cF V A n x up lv pt rt i j = cOf (rayF V A n x up lv pt rt (slI j) i) (V 5 y1) := by
        unfold cF
        rw [hyI]
      have same : cF V A n x up lv pt rt i j = 0 → ∀ y, y < n → rowF V A n x up lv pt (cntA rt j (i + 1) c0) y = rowF V A n x up lv pt (cntA rt j i c0) y := by
        intro h0 y _
        rw [row_step c0 h1 hyn, h0]
        by_cases e : y = y1
        · rw [if_pos e, e, imax_0 (row_nn hyx)]
        · rw [if_neg e]
      rw [pos_in (by omega) (by omega) hyn, x7_isCell_in L xs O (D := d + 1) (by omega) v5 y1 M h44 hy1]
      have g77 := (hsh i (by omega)).1
      have g78 := (hsh i (by omega)).2
      have g50 := (hGM.2 y1 hy1).2.1
      have g79 := hrow y1 hy1
      cases hz : rayF V A n x up lv pt rt (slI j) i with
      | none =>
        rw [hz] at hc g77
        have g77' : M 77 0 i = -1 := g77
        simp (disch := first | omega | rfl | decide) only [e_X7_sounds_99, e_X7_sounds_176, xr_v, xr_n, hl_of, hl_cl, hl_toInt, hl_le, hl_lt, hl_eq, nI_add, hl_sub, pk_mul, hl_div, if_pos, if_neg, ↓reduceIte, Nat.reduceAdd, Nat.reduceSub, Nat.reduceMul, Nat.add_zero, Nat.zero_add, mp_s, mp_k, mp_i, mp_g, mr_s, mr_i, mr_g, zlt_0, zlt_1, zlt_2, zlt_3, zlt_4, zlt_5, zlt_6, zlt_8, zlt_12, zlt_15, zlt_20, zlt_24, zlt_36, zlt_40, zlt_48, zlt_80, zlt_97, zlt_120, zlt_256, zlt_600, zlt_99999999, zadd_1, zadd_2, zadd_5, zadd_6, zadd_8, zadd_20, zadd_24, zeq_0, zeq_1, zeq_2, zeq_3, zeq_4, zeq_5, zeq_6, zeq_7, zeq_8, zeq_13, zeq_14, zeq_20, zeq_32, zeq_59, zeq_60, zeq_80, zmul_2, zmul_4, zmul_6, zmul_8, zmul_10, zmul_24, zsub_1, zsub_2, zsub_10, zsub_48, zsub_97, zle_0, zle_1, zle_2, zle_6, zle_11, zle_200, zle_600, zle_100000000, ylt_0, ylt_1, ylt_2, ylt_3, ylt_6, ylt_9, ylt_20, ylt_24, ylt_57, ylt_60, ylt_99, ylt_120, ylt_122, ylt_999, ylt_9999, yle_0, yle_2, yle_4, yle_5, yle_6, yle_7, yle_8, yle_10, yle_12, yle_13, yle_15, yle_16, yle_20, yle_24, yle_40, yle_60, yle_64, yle_80, yadd_1, yadd_22, ymul_2, ymul_4, ymul_6, ymul_8, ymul_10, ymul_24, ymul_27, ymul_100, ysub_1, ysub_24, zdiv_2, zdiv_4, zdiv_24, g77']
        exact stay _ (same hc)
      | some z =>
        rw [hz] at hc g77 g78
        have g77' : M 77 0 i = z.1 := g77
        have g78' : M 78 0 i = z.2.2 := g78
        have hnn : ¬ z.1 = -1 := by
          obtain ⟨i', rfl⟩ : ∃ i', i = i' + 1 := ⟨i - 1, by omega⟩
          have hz2 : (rayF V A n x up lv pt rt (slI j) i').bind (fun z => (yAt n rt x (i' + 1)).bind fun y => rStep V A (twI rt) pt y (nI (i' + 1)) z) = some z := hz
          cases hz3 : rayF V A n x up lv pt rt (slI j) i' with
          | none =>
            rw [hz3] at hz2
            cases hz2
          | some z0 =>
            rw [hz3, hyn] at hz2
            have := rStep_nn (vh y1 hy1).1 (vh y1 hy1).2 (show rStep V A (twI rt) pt y1 (nI (i' + 1)) z0 = some z from hz2)
            intro e
            rw [e] at this
            exact this (by decide)
        by_cases hn : 2 < z.1 - V 5 y1
        · have hn' := nle_lt hn
          have hc' : cF V A n x up lv pt rt i j = 0 := hc.trans (if_pos hn)
          simp (disch := first | omega | rfl | decide) only [e_X7_sounds_99, e_X7_sounds_176, xr_v, xr_n, hl_of, hl_cl, hl_toInt, hl_le, hl_lt, hl_eq, nI_add, hl_sub, pk_mul, hl_div, if_pos, if_neg, ↓reduceIte, Nat.reduceAdd, Nat.reduceSub, Nat.reduceMul, Nat.add_zero, Nat.zero_add, mp_s, mp_k, mp_i, mp_g, mr_s, mr_i, mr_g, zlt_0, zlt_1, zlt_2, zlt_3, zlt_4, zlt_5, zlt_6, zlt_8, zlt_12, zlt_15, zlt_20, zlt_24, zlt_36, zlt_40, zlt_48, zlt_80, zlt_97, zlt_120, zlt_256, zlt_600, zlt_99999999, zadd_1, zadd_2, zadd_5, zadd_6, zadd_8, zadd_20, zadd_24, zeq_0, zeq_1, zeq_2, zeq_3, zeq_4, zeq_5, zeq_6, zeq_7, zeq_8, zeq_13, zeq_14, zeq_20, zeq_32, zeq_59, zeq_60, zeq_80, zmul_2, zmul_4, zmul_6, zmul_8, zmul_10, zmul_24, zsub_1, zsub_2, zsub_10, zsub_48, zsub_97, zle_0, zle_1, zle_2, zle_6, zle_11, zle_200, zle_600, zle_100000000, ylt_0, ylt_1, ylt_2, ylt_3, ylt_6, ylt_9, ylt_20, ylt_24, ylt_57, ylt_60, ylt_99, ylt_120, ylt_122, ylt_999, ylt_9999, yle_0, yle_2, yle_4, yle_5, yle_6, yle_7, yle_8, yle_10, yle_12, yle_13, yle_15, yle_16, yle_20, yle_24, yle_40, yle_60, yle_64, yle_80, yadd_1, yadd_22, ymul_2, ymul_4, ymul_6, ymul_8, ymul_10, ymul_24, ymul_27, ymul_100, ysub_1, ysub_24, zdiv_2, zdiv_4, zdiv_24, g77', g50, hnn, hn']
          exact stay _ (same hc')
        · have hn' := le_nlt hn
          have hc' : cF V A n x up lv pt rt i j = z.2.2 := hc.trans (if_neg hn)
          have go : ∀ v, v = imax (rowF V A n x up lv pt (cntA rt j i c0) y1) z.2.2 → P (RN L xs (d) mi_X7_sounds (f + 1) 77 [some (.inr (.inr (40, 0))), some (.inl (a1)), some (.inl (nI x)), some (.inl (up)), some (.inl (lv)), some (.inl (pt)), some (.inl (twI rt)), some (.inl (slI j)), some (.inl (nI (i + 1))), some (.inl (nI y1))] (mput M 79 0 y1 v) O none 0 0) := by
            intro v hv
            refine P_e (RN_s _ _ _ _ _ _ _ _ _ _ _ _) ?_
            refine ih f 2800 (i + 1) _ _ (by omega) (by omega) (by omega) (Fr_put fr rfl) ?_ ?_ (fun f' a8 u9 M' e => hex f' a8 u9 M' (by omega))
            · intro t ht
              rw [mp_g (by omega), mp_g (by omega)]
              exact hsh t ht
            · intro y hy
              rw [row_step c0 h1 hyn, hc']
              by_cases e : y = y1
              · rw [if_pos e, e, mp_s, hv]
              · rw [if_neg e, mp_k e, hrow y hy]
          by_cases hm : z.2.2 ≤ rowF V A n x up lv pt (cntA rt j i c0) y1
          · simp (disch := first | omega | rfl | decide) only [e_X7_sounds_99, e_X7_sounds_175, e_X7_sounds_176, xr_v, xr_n, hl_of, hl_cl, hl_toInt, hl_le, hl_lt, hl_eq, nI_add, hl_sub, pk_mul, hl_div, if_pos, if_neg, ↓reduceIte, Nat.reduceAdd, Nat.reduceSub, Nat.reduceMul, Nat.add_zero, Nat.zero_add, mp_s, mp_k, mp_i, mp_g, mr_s, mr_i, mr_g, zlt_0, zlt_1, zlt_2, zlt_3, zlt_4, zlt_5, zlt_6, zlt_8, zlt_12, zlt_15, zlt_20, zlt_24, zlt_36, zlt_40, zlt_48, zlt_80, zlt_97, zlt_120, zlt_256, zlt_600, zlt_99999999, zadd_1, zadd_2, zadd_5, zadd_6, zadd_8, zadd_20, zadd_24, zeq_0, zeq_1, zeq_2, zeq_3, zeq_4, zeq_5, zeq_6, zeq_7, zeq_8, zeq_13, zeq_14, zeq_20, zeq_32, zeq_59, zeq_60, zeq_80, zmul_2, zmul_4, zmul_6, zmul_8, zmul_10, zmul_24, zsub_1, zsub_2, zsub_10, zsub_48, zsub_97, zle_0, zle_1, zle_2, zle_6, zle_11, zle_200, zle_600, zle_100000000, ylt_0, ylt_1, ylt_2, ylt_3, ylt_6, ylt_9, ylt_20, ylt_24, ylt_57, ylt_60, ylt_99, ylt_120, ylt_122, ylt_999, ylt_9999, yle_0, yle_2, yle_4, yle_5, yle_6, yle_7, yle_8, yle_10, yle_12, yle_13, yle_15, yle_16, yle_20, yle_24, yle_40, yle_60, yle_64, yle_80, yadd_1, yadd_22, ymul_2, ymul_4, ymul_6, ymul_8, ymul_10, ymul_24, ymul_27, ymul_100, ysub_1, ysub_24, zdiv_2, zdiv_4, zdiv_24, g77', g50, g78', g79, hnn, hn', hm]
            exact go _ (if_neg (nlt_le hm)).symm
          · simp (disch := first | omega | rfl | decide) only [e_X7_sounds_99, e_X7_sounds_175, e_X7_sounds_176, xr_v, xr_n, hl_of, hl_cl, hl_toInt, hl_le, hl_lt, hl_eq, nI_add, hl_sub, pk_mul, hl_div, if_pos, if_neg, ↓reduceIte, Nat.reduceAdd, Nat.reduceSub, Nat.reduceMul, Nat.add_zero, Nat.zero_add, mp_s, mp_k, mp_i, mp_g, mr_s, mr_i, mr_g, zlt_0, zlt_1, zlt_2, zlt_3, zlt_4, zlt_5, zlt_6, zlt_8, zlt_12, zlt_15, zlt_20, zlt_24, zlt_36, zlt_40, zlt_48, zlt_80, zlt_97, zlt_120, zlt_256, zlt_600, zlt_99999999, zadd_1, zadd_2, zadd_5, zadd_6, zadd_8, zadd_20, zadd_24, zeq_0, zeq_1, zeq_2, zeq_3, zeq_4, zeq_5, zeq_6, zeq_7, zeq_8, zeq_13, zeq_14, zeq_20, zeq_32, zeq_59, zeq_60, zeq_80, zmul_2, zmul_4, zmul_6, zmul_8, zmul_10, zmul_24, zsub_1, zsub_2, zsub_10, zsub_48, zsub_97, zle_0, zle_1, zle_2, zle_6, zle_11, zle_200, zle_600, zle_100000000, ylt_0, ylt_1, ylt_2, ylt_3, ylt_6, ylt_9, ylt_20, ylt_24, ylt_57, ylt_60, ylt_99, ylt_120, ylt_122, ylt_999, ylt_9999, yle_0, yle_2, yle_4, yle_5, yle_6, yle_7, yle_8, yle_10, yle_12, yle_13, yle_15, yle_16, yle_20, yle_24, yle_40, yle_60, yle_64, yle_80, yadd_1, yadd_22, ymul_2, ymul_4, ymul_6, ymul_8, ymul_10, ymul_24, ymul_27, ymul_100, ysub_1, ysub_24, zdiv_2, zdiv_4, zdiv_24, g77', g50, g78', g79, hnn, hn', hm]
            exact go _ (if_pos (lt_nle hm)).symm
theorem so_mid (d : Nat) (hd : 6 ≤ d + 1) {V : Vw} {A : Nat → Int32} {n x nh ns nw : Nat} {up lv pt : Int32} (hV : VOK V n nh ns nw) (a : Nat) (ha : a < 6) (M0 : Mem) (hG : MG M0 V n) (hA : MA M0 a A) (hxn : x < n)
    (rt : Bool) (c0 : Bool → Nat) (P : Res → Prop) : ∀ r fuel k j u8 u9 M, j + r = 10 → r * 41 ≤ fuel → Fr sSo M0 M →
    (∀ y, y < n → M 79 0 y = rowF V A n x up lv pt (cntE rt j c0) y) →
    (∀ f' u8 u9 M', fuel ≤ f' + r * 41 → Fr sSo M0 M' → (∀ y, y < n → M' 79 0 y = rowF V A n x up lv pt (cntE rt 10 c0) y) → P (RN L xs (d) mi_X7_sounds (f') 42 [some (.inr (.inr (40, 0))), some (.inl (nI a)), some (.inl (nI x)), some (.inl (up)), some (.inl (lv)), some (.inl (pt)), some (.inl (twI rt + 2)), some (.inl (slI 10)), u8, u9] M' O none 0 0)) →
    P (BK L xs (EX L xs (d + 1)) mi_X7_sounds (RN L xs (d) mi_X7_sounds fuel) (k + 400) 52 [some (.inr (.inr (40, 0))), some (.inl (nI a)), some (.inl (nI x)), some (.inl (up)), some (.inl (lv)), some (.inl (pt)), some (.inl (twI rt)), some (.inl (slI j)), u8, u9] [] M O none 0 0) := by
  intro r
  induction r with
  | zero =>
    intro fuel k j u8 u9 M hj hf fr hrow hex
    obtain rfl : j = 10 := by omega
    rw [e_X7_sounds_52, if_pos (by decide)]
    exact hex fuel u8 u9 M (by omega) fr hrow
  | succ r ih =>
    intro fuel k j u8 u9 M hj hf fr hrow hex
    have hGM := MG_fr hG fr (fun _ => rfl) (fun _ => rfl) (fun _ => rfl) (fun _ => rfl)
    have hAM := MA_fr hA fr (fun _ => rfl)
    obtain ⟨M1, q1, fr1, hsh⟩ := x7_shines L xs O (D := d + 1) (by omega) (up := up) (lv := lv) (pt := pt) hV a ha M hGM hAM hxn rt (slI j)
    rw [e_X7_sounds_52, if_neg (slI_m j (by omega)), q1]
    simp only [xr_n, Nat.reduceAdd, Nat.add_zero]
    rw [e_X7_sounds_74]
    refine so_in L xs O d hd hV (nI a) M0 hG hxn rt j (by omega) c0 P 39 fuel (k + 186) 1 u9 M1 (by omega) (by omega) (by omega) (Fr_trans fr (Fr_mono (fun _ _ _ => sSo_sh) fr1)) hsh ?_ ?_
    · intro y hy
      rw [fr1 79 0 y rfl, hrow y hy, row_begin]
    · intro f' a8 u9 M' hf' fr' hrow'
      obtain ⟨f, rfl⟩ : ∃ f, f' = f + 1 := ⟨f' - 1, by omega⟩
      refine P_e (RN_s _ _ _ _ _ _ _ _ _ _ _ _) ?_
      exact ih f 2600 (j + 1) _ _ M' (by omega) (by omega) fr' hrow' (fun f3 u8 u9 M3 e => hex f3 u8 u9 M3 (by omega))
theorem x7_sounds {D : Nat} (hD : 7 ≤ D) {V : Vw} {A : Nat → Int32} {n x nh ns nw : Nat} {up lv pt : Int32} (hV : VOK V n nh ns nw) (a : Nat) (ha : a < 6) (M : Mem) (hG : MG M V n) (hA : MA M a A) (hxn : x < n) :
    isV (EX L xs (D) q_X7_sounds [.inr (.inr (40, 0)), .inl (nI a), .inl (nI x), .inl (up), .inl (lv), .inl (pt)] M O) O (fun M' => Fr sSo M M' ∧ ∀ y, y < n → M' 79 0 y = loudF V A n x up lv pt y) := by
  have v5 : n ≤ 40 := hV.2.2.2.2.2.1
  obtain ⟨d, rfl⟩ : ∃ d, D = d + 2 := ⟨D - 2, by omega⟩
  refine isV_e (EX_in mi_X7_sounds rfl rfl rfl (ls := [some (.inr (.inr (40, 0))), some (.inl (nI a)), some (.inl (nI x)), some (.inl (up)), some (.inl (lv)), some (.inl (pt)), none, none, none, none]) rfl) ?_
  rw [e_X7_sounds_0]
  refine so_init L xs O d (V := V) (A := A) v5 hxn (nI a) none none none M hG.1 (fun r => isV r O _) n FUEL 1998 0 M (by omega) (Nat.le_of_lt (FU (by omega))) Fr_refl (fun y hy => absurd hy (by omega)) ?_
  intro f' k' M' hf' fr' hrow'
  have hf2 : 999999 ≤ f' + n := hf'
  rw [e_X7_sounds_42, if_neg (by decide), show (-3 : Int32) = slI 0 from by decide, show (-1 : Int32) = twI false from by decide]
  refine so_mid L xs O d (by omega) hV a ha M hG hA hxn false (fun _ => 0) (fun r => isV r O _) 10 f' (k' + 495) 0 none none M' (by omega) (by omega) fr' ?_ ?_
  · intro y hy
    rw [hrow' y hy]
    refine row_congr (fun b t _ => ?_) y
    unfold cntE
    cases b <;> rfl
  · intro f3 u8 u9 M3 hf3 fr3 hrow3
    obtain ⟨f4, rfl⟩ : ∃ f, f3 = f + 1 := ⟨f3 - 1, by omega⟩
    refine isV_e (RN_s _ _ _ _ _ _ _ _ _ _ _ _) ?_
    rw [show twI false + 2 = twI true from by decide, e_X7_sounds_42, if_neg (by decide), show (-3 : Int32) = slI 0 from by decide]
    refine so_mid L xs O d (by omega) hV a ha M hG hA hxn true (fun _ => 10) (fun r => isV r O _) 10 f4 2595 0 u8 u9 M3 (by omega) (by omega) fr3 ?_ ?_
    · intro y hy
      rw [hrow3 y hy]
      refine row_congr (fun b t _ => ?_) y
      unfold cntE
      cases b <;> rfl
    · intro f5 u8 u9 M5 hf5 fr5 hrow5
      obtain ⟨f6, rfl⟩ : ∃ f, f5 = f + 1 := ⟨f5 - 1, by omega⟩
      refine isV_e (RN_s _ _ _ _ _ _ _ _ _ _ _ _) ?_
      rw [e_X7_sounds_42, if_pos (by decide)]
      refine isV_i ⟨fr5, fun y hy => ?_⟩
      rw [hrow5 y hy]
      refine row_congr (fun b t _ => ?_) y
      unfold cntE
      cases b <;> rfl
end
