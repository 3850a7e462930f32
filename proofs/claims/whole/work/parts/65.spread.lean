/-! The class spreads one sound. -/
def sSp (gr ir : Nat) (g i k : Nat) : Bool := (Nat.beq g 25 && Nat.ble 4 k) || (Nat.beq g gr && Nat.beq i ir)
theorem sSp_row (gr ir k : Nat) : sSp gr ir gr ir k = true := by
  unfold sSp
  rw [beq_s, beq_s, Bool.and_self, Bool.or_true]
theorem sSp_ray {gr ir g i k : Nat} (h : sSp gr ir g i k = false) : sRay g i k = false := by
  unfold sSp at h
  unfold sRay
  rw [Bool.or_eq_false_iff, Bool.and_eq_false_iff] at h
  rcases h.1 with h1 | h1
  · rw [h1]
    rfl
  · rw [Bool.and_eq_false_iff]
    right
    cases e : Nat.ble 5 k with
    | false => rfl
    | true =>
      have := Nat.le_of_ble_eq_true e
      rw [Nat.ble_eq_true_of_le (by omega)] at h1
      cases h1
theorem sSp_land {gr ir : Nat} (hg : 18 ≤ gr) (i g k : Nat) (h : isLand g = true) : sSp gr ir g i k = false := by
  have := isLand_le h
  unfold sSp
  rw [beq_n (by omega), beq_n (by omega)]
  rfl
section
variable (L : Nat) (xs : Nat → Int32) (O : Int64)
theorem spread_in (d : Nat) (hd : 2 ≤ d + 1) {V : Vw} {A : Nat → Int32} {n x nh ns nw : Nat} {up lv pt : Int32} (hV : VOK V n nh ns nw) (i1 i2 i3 : Nat) (M0 : Mem) (hL : CL M0 i1 V) (hA : CA M0 i2 A) (hxn : x < n) (h3 : M0 25 0 3 = pt)
    (rt : Bool) (a4 : Int32) (j : Nat) (hj : j < 10) (c0 : Bool → Nat) (P : Res → Prop) : ∀ r fuel k m y z M, m + 1 + r = 40 → r ≤ fuel → Fr (sSp 27 i3) M0 M → M 25 0 4 = twI rt → yAt n rt x m = some y → RayIs M y (nI m) z → rayF V A n x up lv pt rt (slI j) m = some z →
    (∀ y', y' < 40 → M 27 i3 y' = rowF V A n x up lv pt (cntA rt j (m + 1) c0) y') →
    (∀ f' a6 M', fuel ≤ f' + r → Fr (sSp 27 i3) M0 M' → (∀ y', y' < 40 → M' 27 i3 y' = rowF V A n x up lv pt (cntE rt (j + 1) c0) y') → P (RN L xs (d) mi_X4_spread (f') 45 [some (.inr (.inr (24, 0))), some (.inr (.inr (3, i1))), some (.inr (.inr (18, i2))), some (.inr (.inr (27, i3))), some (.inl (a4)), some (.inl (slI (j + 1))), some (.inl (a6))] M' O none 0 0)) →
    P (BK L xs (EX L xs (d + 1)) mi_X4_spread (RN L xs (d) mi_X4_spread fuel) (k + 60) 67 [some (.inr (.inr (24, 0))), some (.inr (.inr (3, i1))), some (.inr (.inr (18, i2))), some (.inr (.inr (27, i3))), some (.inl (a4)), some (.inl (slI j)), some (.inl (nI (m + 1)))] [] M O none 0 0) := by
  have v5 : n ≤ 40 := hV.2.2.2.2.2.1
  intro r
  induction r with
  | zero =>
    intro fuel k m y z M hm hf fr h4 hy hr hz hrow hex
    simp (disch := first | omega | rfl | decide) only [e_X4_spread_0, e_X4_spread_5, e_X4_spread_35, e_X4_spread_45, e_X4_spread_64, e_X4_spread_67, e_X4_spread_131, e_X4_spread_83, e_X4_spread_94, e_X4_spread_125, e_X4_spread_124, xr_v, xr_n, hl_of, hl_cl, hl_toInt, hl_le, hl_lt, hl_eq, nI_add, hl_sub, pk_mul, hl_div, if_pos, if_neg, ↓reduceIte, Nat.reduceAdd, Nat.reduceSub, Nat.reduceMul, Nat.add_zero, Nat.zero_add, mp_s, mp_k, mp_i, mp_g, mr_s, mr_i, mr_g, zlt_0, zlt_1, zlt_2, zlt_3, zlt_4, zlt_5, zlt_6, zlt_8, zlt_12, zlt_15, zlt_20, zlt_24, zlt_36, zlt_40, zlt_48, zlt_80, zlt_97, zlt_120, zlt_256, zlt_600, zlt_99999999, zadd_1, zadd_2, zadd_5, zadd_6, zadd_8, zadd_20, zadd_24, zeq_0, zeq_1, zeq_2, zeq_3, zeq_4, zeq_5, zeq_6, zeq_7, zeq_8, zeq_13, zeq_14, zeq_20, zeq_32, zeq_59, zeq_60, zeq_80, zmul_2, zmul_4, zmul_6, zmul_8, zmul_10, zmul_24, zsub_1, zsub_2, zsub_10, zsub_48, zsub_97, zle_0, zle_1, zle_2, zle_6, zle_11, zle_200, zle_600, zle_100000000, ylt_0, ylt_1, ylt_2, ylt_3, ylt_6, ylt_9, ylt_20, ylt_24, ylt_57, ylt_60, ylt_99, ylt_120, ylt_122, ylt_999, ylt_9999, yle_0, yle_2, yle_4, yle_5, yle_6, yle_7, yle_8, yle_10, yle_12, yle_13, yle_15, yle_16, yle_20, yle_24, yle_40, yle_60, yle_64, yle_80, yadd_1, yadd_22, ymul_2, ymul_4, ymul_6, ymul_8, ymul_10, ymul_24, ymul_27, ymul_100, ysub_1, ysub_24, zdiv_2, zdiv_4, zdiv_24, slI_s]
    refine hex fuel _ M (by omega) fr ?_
    intro y' hy'
    rw [hrow y' hy', show m + 1 = 40 by omega, row_end40 (by omega) _ _ _ _ hy']
  | succ r ih =>
    intro fuel k m y z M hm hf fr h4 hy hr hz hrow hex
    obtain ⟨f, rfl⟩ : ∃ f, fuel = f + 1 := ⟨fuel - 1, by omega⟩
    have fr3 : M 25 0 3 = pt := (fr 25 0 3 (by unfold sSp; rw [Bool.or_eq_false_iff]; exact ⟨rfl, rfl⟩)).trans h3
    have hLM := CL_fr hL fr (sSp_land (by omega) i1)
    have hAM := CA_fr hA fr (fun _ => rfl) (fun _ => rfl)
    cases hyn : yAt n rt x (m + 1) with
    | none =>
      obtain ⟨M1, q1, fr1⟩ := x3_goes_out L xs O (D := d + 1) (by omega) hV i1 i2 M hLM (by rw [hr.1, h4]; exact next_out v5 hxn hy hyn)
      simp (disch := first | omega | rfl | decide) only [e_X4_spread_0, e_X4_spread_5, e_X4_spread_35, e_X4_spread_45, e_X4_spread_64, e_X4_spread_67, e_X4_spread_131, e_X4_spread_83, e_X4_spread_94, e_X4_spread_125, e_X4_spread_124, xr_v, xr_n, hl_of, hl_cl, hl_toInt, hl_le, hl_lt, hl_eq, nI_add, hl_sub, pk_mul, hl_div, if_pos, if_neg, ↓reduceIte, Nat.reduceAdd, Nat.reduceSub, Nat.reduceMul, Nat.add_zero, Nat.zero_add, mp_s, mp_k, mp_i, mp_g, mr_s, mr_i, mr_g, zlt_0, zlt_1, zlt_2, zlt_3, zlt_4, zlt_5, zlt_6, zlt_8, zlt_12, zlt_15, zlt_20, zlt_24, zlt_36, zlt_40, zlt_48, zlt_80, zlt_97, zlt_120, zlt_256, zlt_600, zlt_99999999, zadd_1, zadd_2, zadd_5, zadd_6, zadd_8, zadd_20, zadd_24, zeq_0, zeq_1, zeq_2, zeq_3, zeq_4, zeq_5, zeq_6, zeq_7, zeq_8, zeq_13, zeq_14, zeq_20, zeq_32, zeq_59, zeq_60, zeq_80, zmul_2, zmul_4, zmul_6, zmul_8, zmul_10, zmul_24, zsub_1, zsub_2, zsub_10, zsub_48, zsub_97, zle_0, zle_1, zle_2, zle_6, zle_11, zle_200, zle_600, zle_100000000, ylt_0, ylt_1, ylt_2, ylt_3, ylt_6, ylt_9, ylt_20, ylt_24, ylt_57, ylt_60, ylt_99, ylt_120, ylt_122, ylt_999, ylt_9999, yle_0, yle_2, yle_4, yle_5, yle_6, yle_7, yle_8, yle_10, yle_12, yle_13, yle_15, yle_16, yle_20, yle_24, yle_40, yle_60, yle_64, yle_80, yadd_1, yadd_22, ymul_2, ymul_4, ymul_6, ymul_8, ymul_10, ymul_24, ymul_27, ymul_100, ysub_1, ysub_24, zdiv_2, zdiv_4, zdiv_24, q1, slI_s]
      refine hex (f + 1) _ M1 (by omega) (Fr_trans fr (Fr_mono (fun _ _ _ => sSp_ray) fr1)) ?_
      intro y' hy'
      rw [fr1 27 i3 y' rfl, hrow y' hy', row_end c0 (ray_n hyn)]
    | some y1 =>
      have hy1 : y1 < n := yAt_lt hxn hyn
      obtain ⟨M1, q1, fr1, hr1⟩ := x3_goes_in L xs O (D := d + 1) (by omega) hV i1 i2 y1 M hLM hAM hy1 (by rw [hr.1, h4]; exact next_in hy hyn)
      rw [h4, fr3, hr.2.1, zadd_1, hr.2.2.1, hr.2.2.2.1, hr.2.2.2.2] at q1 hr1
      have hs := ray_s hz hyn
      have frM := Fr_trans fr (Fr_mono (fun _ _ _ => sSp_ray) fr1)
      cases hst : rStep V A (twI rt) pt y1 (nI (m + 1)) z with
      | none =>
        rw [show (z.1, z.2.1, z.2.2) = z from rfl, hst] at q1
        simp only [Option.isSome_none] at q1
        simp (disch := first | omega | rfl | decide) only [e_X4_spread_0, e_X4_spread_5, e_X4_spread_35, e_X4_spread_45, e_X4_spread_64, e_X4_spread_67, e_X4_spread_131, e_X4_spread_83, e_X4_spread_94, e_X4_spread_125, e_X4_spread_124, xr_v, xr_n, hl_of, hl_cl, hl_toInt, hl_le, hl_lt, hl_eq, nI_add, hl_sub, pk_mul, hl_div, if_pos, if_neg, ↓reduceIte, Nat.reduceAdd, Nat.reduceSub, Nat.reduceMul, Nat.add_zero, Nat.zero_add, mp_s, mp_k, mp_i, mp_g, mr_s, mr_i, mr_g, zlt_0, zlt_1, zlt_2, zlt_3, zlt_4, zlt_5, zlt_6, zlt_8, zlt_12, zlt_15, zlt_20, zlt_24, zlt_36, zlt_40, zlt_48, zlt_80, zlt_97, zlt_120, zlt_256, zlt_600, zlt_99999999, zadd_1, zadd_2, zadd_5, zadd_6, zadd_8, zadd_20, zadd_24, zeq_0, zeq_1, zeq_2, zeq_3, zeq_4, zeq_5, zeq_6, zeq_7, zeq_8, zeq_13, zeq_14, zeq_20, zeq_32, zeq_59, zeq_60, zeq_80, zmul_2, zmul_4, zmul_6, zmul_8, zmul_10, zmul_24, zsub_1, zsub_2, zsub_10, zsub_48, zsub_97, zle_0, zle_1, zle_2, zle_6, zle_11, zle_200, zle_600, zle_100000000, ylt_0, ylt_1, ylt_2, ylt_3, ylt_6, ylt_9, ylt_20, ylt_24, ylt_57, ylt_60, ylt_99, ylt_120, ylt_122, ylt_999, ylt_9999, yle_0, yle_2, yle_4, yle_5, yle_6, yle_7, yle_8, yle_10, yle_12, yle_13, yle_15, yle_16, yle_20, yle_24, yle_40, yle_60, yle_64, yle_80, yadd_1, yadd_22, ymul_2, ymul_4, ymul_6, ymul_8, ymul_10, ymul_24, ymul_27, ymul_100, ysub_1, ysub_24, zdiv_2, zdiv_4, zdiv_24, q1, b2i, Bool.false_eq_true, slI_s]
        refine hex (f + 1) _ M1 (by omega) frM ?_
        intro y' hy'
        rw [fr1 27 i3 y' rfl, hrow y' hy', row_end c0 (hs.trans hst)]
      | some z1 =>
        rw [show (z.1, z.2.1, z.2.2) = z from rfl, hst] at q1 hr1
        have ha := hr1 z1 rfl
        have h41 : M1 25 0 4 = twI rt := (fr1 25 0 4 rfl).trans h4
        have hc : cF V A n x up lv pt rt (m + 1) j = if 2 < z1.1 - V 5 y1 then 0 else z1.2.2 := by
          unfold cF
          rw [hs.trans hst, (yAt_sd (by omega) hyn).2.2.2]
          rfl
        have hyx := (yAt_sd (by omega) hyn).2.2.1
        have near := x3_near L xs O (D := d + 1) (by omega) i1 y1 M1 ha.1 (by omega)
        rw [ha.2.2.1, (CL_fr hLM fr1 (sRay_land i1)) 5 y1 (decide_eq_true (show y1 < 40 by omega))] at near
        have ha1 := ha.1
        have ha5 := ha.2.2.2.2
        simp only [Option.isSome_some] at q1
        by_cases hn : 2 < z1.1 - V 5 y1
        · rw [if_pos hn] at near hc
          simp (disch := first | omega | rfl | decide) only [e_X4_spread_0, e_X4_spread_5, e_X4_spread_35, e_X4_spread_45, e_X4_spread_64, e_X4_spread_67, e_X4_spread_131, e_X4_spread_83, e_X4_spread_94, e_X4_spread_125, e_X4_spread_124, xr_v, xr_n, hl_of, hl_cl, hl_toInt, hl_le, hl_lt, hl_eq, nI_add, hl_sub, pk_mul, hl_div, if_pos, if_neg, ↓reduceIte, Nat.reduceAdd, Nat.reduceSub, Nat.reduceMul, Nat.add_zero, Nat.zero_add, mp_s, mp_k, mp_i, mp_g, mr_s, mr_i, mr_g, zlt_0, zlt_1, zlt_2, zlt_3, zlt_4, zlt_5, zlt_6, zlt_8, zlt_12, zlt_15, zlt_20, zlt_24, zlt_36, zlt_40, zlt_48, zlt_80, zlt_97, zlt_120, zlt_256, zlt_600, zlt_99999999, zadd_1, zadd_2, zadd_5, zadd_6, zadd_8, zadd_20, zadd_24, zeq_0, zeq_1, zeq_2, zeq_3, zeq_4, zeq_5, zeq_6, zeq_7, zeq_8, zeq_13, zeq_14, zeq_20, zeq_32, zeq_59, zeq_60, zeq_80, zmul_2, zmul_4, zmul_6, zmul_8, zmul_10, zmul_24, zsub_1, zsub_2, zsub_10, zsub_48, zsub_97, zle_0, zle_1, zle_2, zle_6, zle_11, zle_200, zle_600, zle_100000000, ylt_0, ylt_1, ylt_2, ylt_3, ylt_6, ylt_9, ylt_20, ylt_24, ylt_57, ylt_60, ylt_99, ylt_120, ylt_122, ylt_999, ylt_9999, yle_0, yle_2, yle_4, yle_5, yle_6, yle_7, yle_8, yle_10, yle_12, yle_13, yle_15, yle_16, yle_20, yle_24, yle_40, yle_60, yle_64, yle_80, yadd_1, yadd_22, ymul_2, ymul_4, ymul_6, ymul_8, ymul_10, ymul_24, ymul_27, ymul_100, ysub_1, ysub_24, zdiv_2, zdiv_4, zdiv_24, q1, b2i, near]
          refine P_e (RN_s _ _ _ _ _ _ _ _ _ _ _ _) ?_
          refine ih f 2940 (m + 1) y1 z1 M1 (by omega) (by omega) frM h41 hyn ha (hs.trans hst) ?_ (fun f' a6 M' e => hex f' a6 M' (by omega))
          intro y' hy'
          rw [fr1 27 i3 y' rfl, hrow y' hy', row_step c0 (by omega) hyn, hc]
          by_cases e : y' = y1
          · rw [if_pos e, e, imax_0 (row_nn hyx)]
          · rw [if_neg e]
        · rw [if_neg hn] at near hc
          simp (disch := first | omega | rfl | decide) only [e_X4_spread_0, e_X4_spread_5, e_X4_spread_35, e_X4_spread_45, e_X4_spread_64, e_X4_spread_67, e_X4_spread_131, e_X4_spread_83, e_X4_spread_94, e_X4_spread_125, e_X4_spread_124, xr_v, xr_n, hl_of, hl_cl, hl_toInt, hl_le, hl_lt, hl_eq, nI_add, hl_sub, pk_mul, hl_div, if_pos, if_neg, ↓reduceIte, Nat.reduceAdd, Nat.reduceSub, Nat.reduceMul, Nat.add_zero, Nat.zero_add, mp_s, mp_k, mp_i, mp_g, mr_s, mr_i, mr_g, zlt_0, zlt_1, zlt_2, zlt_3, zlt_4, zlt_5, zlt_6, zlt_8, zlt_12, zlt_15, zlt_20, zlt_24, zlt_36, zlt_40, zlt_48, zlt_80, zlt_97, zlt_120, zlt_256, zlt_600, zlt_99999999, zadd_1, zadd_2, zadd_5, zadd_6, zadd_8, zadd_20, zadd_24, zeq_0, zeq_1, zeq_2, zeq_3, zeq_4, zeq_5, zeq_6, zeq_7, zeq_8, zeq_13, zeq_14, zeq_20, zeq_32, zeq_59, zeq_60, zeq_80, zmul_2, zmul_4, zmul_6, zmul_8, zmul_10, zmul_24, zsub_1, zsub_2, zsub_10, zsub_48, zsub_97, zle_0, zle_1, zle_2, zle_6, zle_11, zle_200, zle_600, zle_100000000, ylt_0, ylt_1, ylt_2, ylt_3, ylt_6, ylt_9, ylt_20, ylt_24, ylt_57, ylt_60, ylt_99, ylt_120, ylt_122, ylt_999, ylt_9999, yle_0, yle_2, yle_4, yle_5, yle_6, yle_7, yle_8, yle_10, yle_12, yle_13, yle_15, yle_16, yle_20, yle_24, yle_40, yle_60, yle_64, yle_80, yadd_1, yadd_22, ymul_2, ymul_4, ymul_6, ymul_8, ymul_10, ymul_24, ymul_27, ymul_100, ysub_1, ysub_24, zdiv_2, zdiv_4, zdiv_24, q1, b2i, near, ha1, ha5]
          refine P_e (RN_s _ _ _ _ _ _ _ _ _ _ _ _) ?_
          refine ih f 2940 (m + 1) y1 z1 _ (by omega) (by omega) (Fr_put frM (sSp_row _ _ _)) ?_ hyn ?_ (hs.trans hst) ?_ (fun f' a6 M' e => hex f' a6 M' (by omega))
          · rw [mp_g (by omega)]
            exact h41
          · unfold RayIs
            rw [mp_g (by omega), mp_g (by omega), mp_g (by omega), mp_g (by omega), mp_g (by omega)]
            exact ha
          · intro y' hy'
            rw [row_step c0 (by omega) hyn, hc]
            by_cases e : y' = y1
            · rw [if_pos e, e, mp_s, fr1 27 i3 y1 rfl, hrow y1 (by omega)]
              rfl
            · rw [if_neg e, mp_k e, fr1 27 i3 y' rfl, hrow y' hy']
theorem spread_mid (d : Nat) (hd : 2 ≤ d + 1) {V : Vw} {A : Nat → Int32} {n x nh ns nw : Nat} {up lv pt : Int32} (hV : VOK V n nh ns nw) (i1 i2 i3 : Nat) (M0 : Mem) (hL : CL M0 i1 V) (hA : CA M0 i2 A) (hxn : x < n) (hx0 : M0 25 0 0 = nI x) (hx1 : M0 25 0 1 = up) (hx2 : M0 25 0 2 = lv) (h3 : M0 25 0 3 = pt) (hlv : 0 < lv)
    (rt : Bool) (a4 : Int32) (ha4 : (if a4 = 0 then 1 else -1) = twI rt) (c0 : Bool → Nat) (P : Res → Prop) : ∀ r fuel k j u6 M, j + r = 10 → r * 41 ≤ fuel → Fr (sSp 27 i3) M0 M →
    (∀ y', y' < 40 → M 27 i3 y' = rowF V A n x up lv pt (cntE rt j c0) y') →
    (∀ f' u6 M', fuel ≤ f' + r * 41 → Fr (sSp 27 i3) M0 M' → (∀ y', y' < 40 → M' 27 i3 y' = rowF V A n x up lv pt (cntE rt 10 c0) y') → P (RN L xs (d) mi_X4_spread (f') 35 [some (.inr (.inr (24, 0))), some (.inr (.inr (3, i1))), some (.inr (.inr (18, i2))), some (.inr (.inr (27, i3))), some (.inl (a4 + 1)), some (.inl (slI 10)), u6] M' O none 0 0)) →
    P (BK L xs (EX L xs (d + 1)) mi_X4_spread (RN L xs (d) mi_X4_spread fuel) (k + 200) 45 [some (.inr (.inr (24, 0))), some (.inr (.inr (3, i1))), some (.inr (.inr (18, i2))), some (.inr (.inr (27, i3))), some (.inl (a4)), some (.inl (slI j)), u6] [] M O none 0 0) := by
  have v5 : n ≤ 40 := hV.2.2.2.2.2.1
  intro r
  induction r with
  | zero =>
    intro fuel k j u6 M hj hf fr hrow hex
    obtain rfl : j = 10 := by omega
    rw [e_X4_spread_45, if_pos slI_e]
    exact hex fuel u6 M (by omega) fr hrow
  | succ r ih =>
    intro fuel k j u6 M hj hf fr hrow hex
    have hs := x3_start L xs O (D := d + 1) (by omega) i1 x a4 (slI j) M ((fr 25 0 0 rfl).trans hx0) (by omega)
    rw [ha4, CL_fr hL fr (sSp_land (by omega) i1) 5 x (decide_eq_true (show x < 40 by omega)), (fr 25 0 1 rfl).trans hx1, (fr 25 0 2 rfl).trans hx2] at hs
    rw [e_X4_spread_45, if_neg (slI_c j (by omega)), hs]
    simp only [xr_n, Nat.reduceAdd, Nat.add_zero]
    rw [e_X4_spread_64]
    generalize hM : mput (mput (mput (mput (mput (mput M 25 0 4 (twI rt)) 25 0 5 (nI x)) 25 0 6 0) 25 0 7 (V 5 x + up)) 25 0 8 (slI j)) 25 0 9 lv = M1
    have fr1 : Fr (sSp 27 i3) M0 M1 := hM ▸ Fr_put (Fr_put (Fr_put (Fr_put (Fr_put (Fr_put fr rfl) rfl) rfl) rfl) rfl) rfl
    refine spread_in L xs O d hd hV i1 i2 i3 M0 hL hA hxn h3 rt a4 j (by omega) c0 P 39 fuel (k + 129) 0 x (V 5 x + up, slI j, lv) M1 (by omega) (by omega) fr1 ?_ ?_ ?_ (if_pos hlv) ?_ ?_
    · rw [← hM, mp_k (by omega), mp_k (by omega), mp_k (by omega), mp_k (by omega), mp_k (by omega), mp_s]
    · unfold yAt
      cases rt with
      | true => exact (if_pos rfl).trans (if_pos hxn)
      | false => exact (if_neg (by decide)).trans (if_pos (by omega))
    · refine ⟨?_, ?_, ?_, ?_, ?_⟩
      · rw [← hM, mp_k (by omega), mp_k (by omega), mp_k (by omega), mp_k (by omega), mp_s]
      · rw [← hM, mp_k (by omega), mp_k (by omega), mp_k (by omega), mp_s]
        rfl
      · rw [← hM, mp_k (by omega), mp_k (by omega), mp_s]
      · rw [← hM, mp_k (by omega), mp_s]
      · rw [← hM, mp_s]
    · intro y' hy'
      rw [← hM, mp_g (by omega), mp_g (by omega), mp_g (by omega), mp_g (by omega), mp_g (by omega), mp_g (by omega), hrow y' hy', row_begin]
    · intro f' a6 M' hf' fr' hrow'
      obtain ⟨f, rfl⟩ : ∃ f, f' = f + 1 := ⟨f' - 1, by omega⟩
      refine P_e (RN_s _ _ _ _ _ _ _ _ _ _ _ _) ?_
      exact ih f 2800 (j + 1) _ M' (by omega) (by omega) fr' hrow' (fun f3 u6 M3 e => hex f3 u6 M3 (by omega))
theorem x4_spread {D : Nat} (hD : 4 ≤ D) {V : Vw} {A : Nat → Int32} {n x nh ns nw : Nat} {up lv pt : Int32} (hV : VOK V n nh ns nw) (i1 i2 i3 : Nat) (M : Mem) (hL : CL M i1 V) (hA : CA M i2 A) (hxn : x < n) (hx0 : M 25 0 0 = nI x) (hx1 : M 25 0 1 = up) (hx2 : M 25 0 2 = lv) (h3 : M 25 0 3 = pt) (hlv : ¬ lv < 0) :
    isV (EX L xs (D) q_X4_spread [.inr (.inr (24, 0)), .inr (.inr (3, i1)), .inr (.inr (18, i2)), .inr (.inr (27, i3))] M O) O (fun M' => Fr (sSp 27 i3) M M' ∧ ∀ y, y < 40 → M' 27 i3 y = loudF V A n x up lv pt y) := by
  have v5 : n ≤ 40 := hV.2.2.2.2.2.1
  obtain ⟨d, rfl⟩ : ∃ d, D = d + 2 := ⟨D - 2, by omega⟩
  refine isV_e (EX_in mi_X4_spread rfl rfl rfl (ls := [some (.inr (.inr (24, 0))), some (.inr (.inr (3, i1))), some (.inr (.inr (18, i2))), some (.inr (.inr (27, i3))), none, none, none]) rfl) ?_
  obtain ⟨M1, q1, f1, hr1⟩ := x_fill7 L xs O (D := d + 1) (by omega) i3 0 M
  have fr1 : Fr (sSp 27 i3) M M1 := Fr_mono (fun g i k h => by
    unfold sSp at h
    rw [Bool.or_eq_false_iff] at h
    exact h.2) f1
  rw [e_X4_spread_0, q1]
  simp only [xr_n, Nat.reduceAdd, Nat.add_zero]
  rw [e_X4_spread_5, (fr1 25 0 2 rfl).trans hx2]
  by_cases hl : 0 < lv
  · rw [if_pos hl, (fr1 25 0 0 rfl).trans hx0, if_pos (in_40 (show x < 40 by omega)), hl_cl (by omega), e_X4_spread_35, if_neg (by decide), show (-3 : Int32) = slI 0 from by decide]
    have hrow0 : ∀ y', y' < 40 → mput M1 27 i3 x lv 27 i3 y' = rowF V A n x up lv pt (cntE true 0 (fun _ => 0)) y' := by
      intro y' hy'
      unfold rowF
      by_cases e : y' = x
      · rw [if_pos e, e, mp_s]
      · rw [if_neg e, mp_k e, hr1 y' hy']
        unfold cntE
        cases sd x y' <;> rfl
    refine spread_mid L xs O d (by omega) hV i1 i2 i3 M hL hA hxn hx0 hx1 hx2 h3 hl true 0 rfl (fun _ => 0) (fun r => isV r O _) 10 FUEL 2778 0 none _ (by omega) (Nat.le_of_lt (FU (by omega))) (Fr_put fr1 (sSp_row _ _ _)) hrow0 ?_
    intro f' u6 M' hf' fr' hrow'
    have hf2 : 999999 ≤ f' + 10 * 41 := hf'
    obtain ⟨f, rfl⟩ : ∃ f, f' = f + 1 := ⟨f' - 1, by omega⟩
    refine isV_e (RN_s _ _ _ _ _ _ _ _ _ _ _ _) ?_
    rw [e_X4_spread_35, if_neg (by decide), show (-3 : Int32) = slI 0 from by decide]
    refine spread_mid L xs O d (by omega) hV i1 i2 i3 M hL hA hxn hx0 hx1 hx2 h3 hl false (0 + 1) (by decide) (fun _ => 10) (fun r => isV r O _) 10 f 2795 0 u6 M' (by omega) (by omega) fr' ?_ ?_
    · intro y' hy'
      rw [hrow' y' hy']
      refine row_congr (fun b t _ => ?_) y'
      unfold cntE
      cases b <;> rfl
    · intro f3 u6 M3 hf3 fr3 hrow3
      obtain ⟨f4, rfl⟩ : ∃ f, f3 = f + 1 := ⟨f3 - 1, by omega⟩
      refine isV_e (RN_s _ _ _ _ _ _ _ _ _ _ _ _) ?_
      rw [e_X4_spread_35, if_pos (by decide)]
      refine isV_i ⟨fr3, fun y' hy' => ?_⟩
      rw [hrow3 y' hy']
      refine row_congr (fun b t _ => ?_) y'
      unfold cntE
      cases b <;> rfl
  · rw [if_neg hl]
    refine isV_i ⟨fr1, fun y' hy' => ?_⟩
    have h0 : lv = 0 := by
      rw [i_lt] at hl hlv
      have e0 : (0 : Int32).toInt = 0 := by decide
      exact Int32.toInt_inj.mp (by omega)
    rw [hr1 y' hy']
    unfold loudF rowF
    by_cases e : y' = x
    · rw [if_pos e, h0]
    · rw [if_neg e, loud_0 hl]
theorem spread_in2 (d : Nat) (hd : 2 ≤ d + 1) {V : Vw} {A : Nat → Int32} {n x nh ns nw : Nat} {up lv pt : Int32} (hV : VOK V n nh ns nw) (i1 i2 i3 : Nat) (M0 : Mem) (hL : CL M0 i1 V) (hA : CA M0 i2 A) (hxn : x < n) (h3 : M0 25 0 3 = pt)
    (rt : Bool) (a4 : Int32) (j : Nat) (hj : j < 10) (c0 : Bool → Nat) (P : Res → Prop) : ∀ r fuel k m y z M, m + 1 + r = 40 → r ≤ fuel → Fr (sSp 29 0) M0 M → M 25 0 4 = twI rt → yAt n rt x m = some y → RayIs M y (nI m) z → rayF V A n x up lv pt rt (slI j) m = some z →
    (∀ y', y' < 40 → M 29 0 y' = rowF V A n x up lv pt (cntA rt j (m + 1) c0) y') →
    (∀ f' a6 M', fuel ≤ f' + r → Fr (sSp 29 0) M0 M' → (∀ y', y' < 40 → M' 29 0 y' = rowF V A n x up lv pt (cntE rt (j + 1) c0) y') → P (RN L xs (d) mi_X4_spread (f') 45 [some (.inr (.inr (24, 0))), some (.inr (.inr (3, i1))), some (.inr (.inr (18, i2))), some (.inr (.inr (29, 0))), some (.inl (a4)), some (.inl (slI (j + 1))), some (.inl (a6))] M' O none 0 0)) →
    P (BK L xs (EX L xs (d + 1)) mi_X4_spread (RN L xs (d) mi_X4_spread fuel) (k + 60) 67 [some (.inr (.inr (24, 0))), some (.inr (.inr (3, i1))), some (.inr (.inr (18, i2))), some (.inr (.inr (29, 0))), some (.inl (a4)), some (.inl (slI j)), some (.inl (nI (m + 1)))] [] M O none 0 0) := by
  have v5 : n ≤ 40 := hV.2.2.2.2.2.1
  intro r
  induction r with
  | zero =>
    intro fuel k m y z M hm hf fr h4 hy hr hz hrow hex
    simp (disch := first | omega | rfl | decide) only [e2_X4_spread_0, e2_X4_spread_5, e2_X4_spread_35, e2_X4_spread_45, e2_X4_spread_64, e2_X4_spread_67, e2_X4_spread_131, e2_X4_spread_83, e2_X4_spread_94, e2_X4_spread_125, e2_X4_spread_124, xr_v, xr_n, hl_of, hl_cl, hl_toInt, hl_le, hl_lt, hl_eq, nI_add, hl_sub, pk_mul, hl_div, if_pos, if_neg, ↓reduceIte, Nat.reduceAdd, Nat.reduceSub, Nat.reduceMul, Nat.add_zero, Nat.zero_add, mp_s, mp_k, mp_i, mp_g, mr_s, mr_i, mr_g, zlt_0, zlt_1, zlt_2, zlt_3, zlt_4, zlt_5, zlt_6, zlt_8, zlt_12, zlt_15, zlt_20, zlt_24, zlt_36, zlt_40, zlt_48, zlt_80, zlt_97, zlt_120, zlt_256, zlt_600, zlt_99999999, zadd_1, zadd_2, zadd_5, zadd_6, zadd_8, zadd_20, zadd_24, zeq_0, zeq_1, zeq_2, zeq_3, zeq_4, zeq_5, zeq_6, zeq_7, zeq_8, zeq_13, zeq_14, zeq_20, zeq_32, zeq_59, zeq_60, zeq_80, zmul_2, zmul_4, zmul_6, zmul_8, zmul_10, zmul_24, zsub_1, zsub_2, zsub_10, zsub_48, zsub_97, zle_0, zle_1, zle_2, zle_6, zle_11, zle_200, zle_600, zle_100000000, ylt_0, ylt_1, ylt_2, ylt_3, ylt_6, ylt_9, ylt_20, ylt_24, ylt_57, ylt_60, ylt_99, ylt_120, ylt_122, ylt_999, ylt_9999, yle_0, yle_2, yle_4, yle_5, yle_6, yle_7, yle_8, yle_10, yle_12, yle_13, yle_15, yle_16, yle_20, yle_24, yle_40, yle_60, yle_64, yle_80, yadd_1, yadd_22, ymul_2, ymul_4, ymul_6, ymul_8, ymul_10, ymul_24, ymul_27, ymul_100, ysub_1, ysub_24, zdiv_2, zdiv_4, zdiv_24, slI_s]
    refine hex fuel _ M (by omega) fr ?_
    intro y' hy'
    rw [hrow y' hy', show m + 1 = 40 by omega, row_end40 (by omega) _ _ _ _ hy']
  | succ r ih =>
    intro fuel k m y z M hm hf fr h4 hy hr hz hrow hex
    obtain ⟨f, rfl⟩ : ∃ f, fuel = f + 1 := ⟨fuel - 1, by omega⟩
    have fr3 : M 25 0 3 = pt := (fr 25 0 3 (by unfold sSp; rw [Bool.or_eq_false_iff]; exact ⟨rfl, rfl⟩)).trans h3
    have hLM := CL_fr hL fr (sSp_land (by omega) i1)
    have hAM := CA_fr hA fr (fun _ => rfl) (fun _ => rfl)
    cases hyn : yAt n rt x (m + 1) with
    | none =>
      obtain ⟨M1, q1, fr1⟩ := x3_goes_out L xs O (D := d + 1) (by omega) hV i1 i2 M hLM (by rw [hr.1, h4]; exact next_out v5 hxn hy hyn)
      simp (disch := first | omega | rfl | decide) only [e2_X4_spread_0, e2_X4_spread_5, e2_X4_spread_35, e2_X4_spread_45, e2_X4_spread_64, e2_X4_spread_67, e2_X4_spread_131, e2_X4_spread_83, e2_X4_spread_94, e2_X4_spread_125, e2_X4_spread_124, xr_v, xr_n, hl_of, hl_cl, hl_toInt, hl_le, hl_lt, hl_eq, nI_add, hl_sub, pk_mul, hl_div, if_pos, if_neg, ↓reduceIte, Nat.reduceAdd, Nat.reduceSub, Nat.reduceMul, Nat.add_zero, Nat.zero_add, mp_s, mp_k, mp_i, mp_g, mr_s, mr_i, mr_g, zlt_0, zlt_1, zlt_2, zlt_3, zlt_4, zlt_5, zlt_6, zlt_8, zlt_12, zlt_15, zlt_20, zlt_24, zlt_36, zlt_40, zlt_48, zlt_80, zlt_97, zlt_120, zlt_256, zlt_600, zlt_99999999, zadd_1, zadd_2, zadd_5, zadd_6, zadd_8, zadd_20, zadd_24, zeq_0, zeq_1, zeq_2, zeq_3, zeq_4, zeq_5, zeq_6, zeq_7, zeq_8, zeq_13, zeq_14, zeq_20, zeq_32, zeq_59, zeq_60, zeq_80, zmul_2, zmul_4, zmul_6, zmul_8, zmul_10, zmul_24, zsub_1, zsub_2, zsub_10, zsub_48, zsub_97, zle_0, zle_1, zle_2, zle_6, zle_11, zle_200, zle_600, zle_100000000, ylt_0, ylt_1, ylt_2, ylt_3, ylt_6, ylt_9, ylt_20, ylt_24, ylt_57, ylt_60, ylt_99, ylt_120, ylt_122, ylt_999, ylt_9999, yle_0, yle_2, yle_4, yle_5, yle_6, yle_7, yle_8, yle_10, yle_12, yle_13, yle_15, yle_16, yle_20, yle_24, yle_40, yle_60, yle_64, yle_80, yadd_1, yadd_22, ymul_2, ymul_4, ymul_6, ymul_8, ymul_10, ymul_24, ymul_27, ymul_100, ysub_1, ysub_24, zdiv_2, zdiv_4, zdiv_24, q1, slI_s]
      refine hex (f + 1) _ M1 (by omega) (Fr_trans fr (Fr_mono (fun _ _ _ => sSp_ray) fr1)) ?_
      intro y' hy'
      rw [fr1 29 0 y' rfl, hrow y' hy', row_end c0 (ray_n hyn)]
    | some y1 =>
      have hy1 : y1 < n := yAt_lt hxn hyn
      obtain ⟨M1, q1, fr1, hr1⟩ := x3_goes_in L xs O (D := d + 1) (by omega) hV i1 i2 y1 M hLM hAM hy1 (by rw [hr.1, h4]; exact next_in hy hyn)
      rw [h4, fr3, hr.2.1, zadd_1, hr.2.2.1, hr.2.2.2.1, hr.2.2.2.2] at q1 hr1
      have hs := ray_s hz hyn
      have frM := Fr_trans fr (Fr_mono (fun _ _ _ => sSp_ray) fr1)
      cases hst : rStep V A (twI rt) pt y1 (nI (m + 1)) z with
      | none =>
        rw [show (z.1, z.2.1, z.2.2) = z from rfl, hst] at q1
        simp only [Option.isSome_none] at q1
        simp (disch := first | omega | rfl | decide) only [e2_X4_spread_0, e2_X4_spread_5, e2_X4_spread_35, e2_X4_spread_45, e2_X4_spread_64, e2_X4_spread_67, e2_X4_spread_131, e2_X4_spread_83, e2_X4_spread_94, e2_X4_spread_125, e2_X4_spread_124, xr_v, xr_n, hl_of, hl_cl, hl_toInt, hl_le, hl_lt, hl_eq, nI_add, hl_sub, pk_mul, hl_div, if_pos, if_neg, ↓reduceIte, Nat.reduceAdd, Nat.reduceSub, Nat.reduceMul, Nat.add_zero, Nat.zero_add, mp_s, mp_k, mp_i, mp_g, mr_s, mr_i, mr_g, zlt_0, zlt_1, zlt_2, zlt_3, zlt_4, zlt_5, zlt_6, zlt_8, zlt_12, zlt_15, zlt_20, zlt_24, zlt_36, zlt_40, zlt_48, zlt_80, zlt_97, zlt_120, zlt_256, zlt_600, zlt_99999999, zadd_1, zadd_2, zadd_5, zadd_6, zadd_8, zadd_20, zadd_24, zeq_0, zeq_1, zeq_2, zeq_3, zeq_4, zeq_5, zeq_6, zeq_7, zeq_8, zeq_13, zeq_14, zeq_20, zeq_32, zeq_59, zeq_60, zeq_80, zmul_2, zmul_4, zmul_6, zmul_8, zmul_10, zmul_24, zsub_1, zsub_2, zsub_10, zsub_48, zsub_97, zle_0, zle_1, zle_2, zle_6, zle_11, zle_200, zle_600, zle_100000000, ylt_0, ylt_1, ylt_2, ylt_3, ylt_6, ylt_9, ylt_20, ylt_24, ylt_57, ylt_60, ylt_99, ylt_120, ylt_122, ylt_999, ylt_9999, yle_0, yle_2, yle_4, yle_5, yle_6, yle_7, yle_8, yle_10, yle_12, yle_13, yle_15, yle_16, yle_20, yle_24, yle_40, yle_60, yle_64, yle_80, yadd_1, yadd_22, ymul_2, ymul_4, ymul_6, ymul_8, ymul_10, ymul_24, ymul_27, ymul_100, ysub_1, ysub_24, zdiv_2, zdiv_4, zdiv_24, q1, b2i, Bool.false_eq_true, slI_s]
        refine hex (f + 1) _ M1 (by omega) frM ?_
        intro y' hy'
        rw [fr1 29 0 y' rfl, hrow y' hy', row_end c0 (hs.trans hst)]
      | some z1 =>
        rw [show (z.1, z.2.1, z.2.2) = z from rfl, hst] at q1 hr1
        have ha := hr1 z1 rfl
        have h41 : M1 25 0 4 = twI rt := (fr1 25 0 4 rfl).trans h4
        have hc : cF V A n x up lv pt rt (m + 1) j = if 2 < z1.1 - V 5 y1 then 0 else z1.2.2 := by
          unfold cF
          rw [hs.trans hst, (yAt_sd (by omega) hyn).2.2.2]
          rfl
        have hyx := (yAt_sd (by omega) hyn).2.2.1
        have near := x3_near L xs O (D := d + 1) (by omega) i1 y1 M1 ha.1 (by omega)
        rw [ha.2.2.1, (CL_fr hLM fr1 (sRay_land i1)) 5 y1 (decide_eq_true (show y1 < 40 by omega))] at near
        have ha1 := ha.1
        have ha5 := ha.2.2.2.2
        simp only [Option.isSome_some] at q1
        by_cases hn : 2 < z1.1 - V 5 y1
        · rw [if_pos hn] at near hc
          simp (disch := first | omega | rfl | decide) only [e2_X4_spread_0, e2_X4_spread_5, e2_X4_spread_35, e2_X4_spread_45, e2_X4_spread_64, e2_X4_spread_67, e2_X4_spread_131, e2_X4_spread_83, e2_X4_spread_94, e2_X4_spread_125, e2_X4_spread_124, xr_v, xr_n, hl_of, hl_cl, hl_toInt, hl_le, hl_lt, hl_eq, nI_add, hl_sub, pk_mul, hl_div, if_pos, if_neg, ↓reduceIte, Nat.reduceAdd, Nat.reduceSub, Nat.reduceMul, Nat.add_zero, Nat.zero_add, mp_s, mp_k, mp_i, mp_g, mr_s, mr_i, mr_g, zlt_0, zlt_1, zlt_2, zlt_3, zlt_4, zlt_5, zlt_6, zlt_8, zlt_12, zlt_15, zlt_20, zlt_24, zlt_36, zlt_40, zlt_48, zlt_80, zlt_97, zlt_120, zlt_256, zlt_600, zlt_99999999, zadd_1, zadd_2, zadd_5, zadd_6, zadd_8, zadd_20, zadd_24, zeq_0, zeq_1, zeq_2, zeq_3, zeq_4, zeq_5, zeq_6, zeq_7, zeq_8, zeq_13, zeq_14, zeq_20, zeq_32, zeq_59, zeq_60, zeq_80, zmul_2, zmul_4, zmul_6, zmul_8, zmul_10, zmul_24, zsub_1, zsub_2, zsub_10, zsub_48, zsub_97, zle_0, zle_1, zle_2, zle_6, zle_11, zle_200, zle_600, zle_100000000, ylt_0, ylt_1, ylt_2, ylt_3, ylt_6, ylt_9, ylt_20, ylt_24, ylt_57, ylt_60, ylt_99, ylt_120, ylt_122, ylt_999, ylt_9999, yle_0, yle_2, yle_4, yle_5, yle_6, yle_7, yle_8, yle_10, yle_12, yle_13, yle_15, yle_16, yle_20, yle_24, yle_40, yle_60, yle_64, yle_80, yadd_1, yadd_22, ymul_2, ymul_4, ymul_6, ymul_8, ymul_10, ymul_24, ymul_27, ymul_100, ysub_1, ysub_24, zdiv_2, zdiv_4, zdiv_24, q1, b2i, near]
          refine P_e (RN_s _ _ _ _ _ _ _ _ _ _ _ _) ?_
          refine ih f 2940 (m + 1) y1 z1 M1 (by omega) (by omega) frM h41 hyn ha (hs.trans hst) ?_ (fun f' a6 M' e => hex f' a6 M' (by omega))
          intro y' hy'
          rw [fr1 29 0 y' rfl, hrow y' hy', row_step c0 (by omega) hyn, hc]
          by_cases e : y' = y1
          · rw [if_pos e, e, imax_0 (row_nn hyx)]
          · rw [if_neg e]
        · rw [if_neg hn] at near hc
          simp (disch := first | omega | rfl | decide) only [e2_X4_spread_0, e2_X4_spread_5, e2_X4_spread_35, e2_X4_spread_45, e2_X4_spread_64, e2_X4_spread_67, e2_X4_spread_131, e2_X4_spread_83, e2_X4_spread_94, e2_X4_spread_125, e2_X4_spread_124, xr_v, xr_n, hl_of, hl_cl, hl_toInt, hl_le, hl_lt, hl_eq, nI_add, hl_sub, pk_mul, hl_div, if_pos, if_neg, ↓reduceIte, Nat.reduceAdd, Nat.reduceSub, Nat.reduceMul, Nat.add_zero, Nat.zero_add, mp_s, mp_k, mp_i, mp_g, mr_s, mr_i, mr_g, zlt_0, zlt_1, zlt_2, zlt_3, zlt_4, zlt_5, zlt_6, zlt_8, zlt_12, zlt_15, zlt_20, zlt_24, zlt_36, zlt_40, zlt_48, zlt_80, zlt_97, zlt_120, zlt_256, zlt_600, zlt_99999999, zadd_1, zadd_2, zadd_5, zadd_6, zadd_8, zadd_20, zadd_24, zeq_0, zeq_1, zeq_2, zeq_3, zeq_4, zeq_5, zeq_6, zeq_7, zeq_8, zeq_13, zeq_14, zeq_20, zeq_32, zeq_59, zeq_60, zeq_80, zmul_2, zmul_4, zmul_6, zmul_8, zmul_10, zmul_24, zsub_1, zsub_2, zsub_10, zsub_48, zsub_97, zle_0, zle_1, zle_2, zle_6, zle_11, zle_200, zle_600, zle_100000000, ylt_0, ylt_1, ylt_2, ylt_3, ylt_6, ylt_9, ylt_20, ylt_24, ylt_57, ylt_60, ylt_99, ylt_120, ylt_122, ylt_999, ylt_9999, yle_0, yle_2, yle_4, yle_5, yle_6, yle_7, yle_8, yle_10, yle_12, yle_13, yle_15, yle_16, yle_20, yle_24, yle_40, yle_60, yle_64, yle_80, yadd_1, yadd_22, ymul_2, ymul_4, ymul_6, ymul_8, ymul_10, ymul_24, ymul_27, ymul_100, ysub_1, ysub_24, zdiv_2, zdiv_4, zdiv_24, q1, b2i, near, ha1, ha5]
          refine P_e (RN_s _ _ _ _ _ _ _ _ _ _ _ _) ?_
          refine ih f 2940 (m + 1) y1 z1 _ (by omega) (by omega) (Fr_put frM (sSp_row _ _ _)) ?_ hyn ?_ (hs.trans hst) ?_ (fun f' a6 M' e => hex f' a6 M' (by omega))
          · rw [mp_g (by omega)]
            exact h41
          · unfold RayIs
            rw [mp_g (by omega), mp_g (by omega), mp_g (by omega), mp_g (by omega), mp_g (by omega)]
            exact ha
          · intro y' hy'
            rw [row_step c0 (by omega) hyn, hc]
            by_cases e : y' = y1
            · rw [if_pos e, e, mp_s, fr1 29 0 y1 rfl, hrow y1 (by omega)]
              rfl
            · rw [if_neg e, mp_k e, fr1 29 0 y' rfl, hrow y' hy']
theorem spread_mid2 (d : Nat) (hd : 2 ≤ d + 1) {V : Vw} {A : Nat → Int32} {n x nh ns nw : Nat} {up lv pt : Int32} (hV : VOK V n nh ns nw) (i1 i2 i3 : Nat) (M0 : Mem) (hL : CL M0 i1 V) (hA : CA M0 i2 A) (hxn : x < n) (hx0 : M0 25 0 0 = nI x) (hx1 : M0 25 0 1 = up) (hx2 : M0 25 0 2 = lv) (h3 : M0 25 0 3 = pt) (hlv : 0 < lv)
    (rt : Bool) (a4 : Int32) (ha4 : (if a4 = 0 then 1 else -1) = twI rt) (c0 : Bool → Nat) (P : Res → Prop) : ∀ r fuel k j u6 M, j + r = 10 → r * 41 ≤ fuel → Fr (sSp 29 0) M0 M →
    (∀ y', y' < 40 → M 29 0 y' = rowF V A n x up lv pt (cntE rt j c0) y') →
    (∀ f' u6 M', fuel ≤ f' + r * 41 → Fr (sSp 29 0) M0 M' → (∀ y', y' < 40 → M' 29 0 y' = rowF V A n x up lv pt (cntE rt 10 c0) y') → P (RN L xs (d) mi_X4_spread (f') 35 [some (.inr (.inr (24, 0))), some (.inr (.inr (3, i1))), some (.inr (.inr (18, i2))), some (.inr (.inr (29, 0))), some (.inl (a4 + 1)), some (.inl (slI 10)), u6] M' O none 0 0)) →
    P (BK L xs (EX L xs (d + 1)) mi_X4_spread (RN L xs (d) mi_X4_spread fuel) (k + 200) 45 [some (.inr (.inr (24, 0))), some (.inr (.inr (3, i1))), some (.inr (.inr (18, i2))), some (.inr (.inr (29, 0))), some (.inl (a4)), some (.inl (slI j)), u6] [] M O none 0 0) := by
  have v5 : n ≤ 40 := hV.2.2.2.2.2.1
  intro r
  induction r with
  | zero =>
    intro fuel k j u6 M hj hf fr hrow hex
    obtain rfl : j = 10 := by omega
    rw [e2_X4_spread_45, if_pos slI_e]
    exact hex fuel u6 M (by omega) fr hrow
  | succ r ih =>
    intro fuel k j u6 M hj hf fr hrow hex
    have hs := x3_start L xs O (D := d + 1) (by omega) i1 x a4 (slI j) M ((fr 25 0 0 rfl).trans hx0) (by omega)
    rw [ha4, CL_fr hL fr (sSp_land (by omega) i1) 5 x (decide_eq_true (show x < 40 by omega)), (fr 25 0 1 rfl).trans hx1, (fr 25 0 2 rfl).trans hx2] at hs
    rw [e2_X4_spread_45, if_neg (slI_c j (by omega)), hs]
    simp only [xr_n, Nat.reduceAdd, Nat.add_zero]
    rw [e2_X4_spread_64]
    generalize hM : mput (mput (mput (mput (mput (mput M 25 0 4 (twI rt)) 25 0 5 (nI x)) 25 0 6 0) 25 0 7 (V 5 x + up)) 25 0 8 (slI j)) 25 0 9 lv = M1
    have fr1 : Fr (sSp 29 0) M0 M1 := hM ▸ Fr_put (Fr_put (Fr_put (Fr_put (Fr_put (Fr_put fr rfl) rfl) rfl) rfl) rfl) rfl
    refine spread_in2 L xs O d hd hV i1 i2 i3 M0 hL hA hxn h3 rt a4 j (by omega) c0 P 39 fuel (k + 129) 0 x (V 5 x + up, slI j, lv) M1 (by omega) (by omega) fr1 ?_ ?_ ?_ (if_pos hlv) ?_ ?_
    · rw [← hM, mp_k (by omega), mp_k (by omega), mp_k (by omega), mp_k (by omega), mp_k (by omega), mp_s]
    · unfold yAt
      cases rt with
      | true => exact (if_pos rfl).trans (if_pos hxn)
      | false => exact (if_neg (by decide)).trans (if_pos (by omega))
    · refine ⟨?_, ?_, ?_, ?_, ?_⟩
      · rw [← hM, mp_k (by omega), mp_k (by omega), mp_k (by omega), mp_k (by omega), mp_s]
      · rw [← hM, mp_k (by omega), mp_k (by omega), mp_k (by omega), mp_s]
        rfl
      · rw [← hM, mp_k (by omega), mp_k (by omega), mp_s]
      · rw [← hM, mp_k (by omega), mp_s]
      · rw [← hM, mp_s]
    · intro y' hy'
      rw [← hM, mp_g (by omega), mp_g (by omega), mp_g (by omega), mp_g (by omega), mp_g (by omega), mp_g (by omega), hrow y' hy', row_begin]
    · intro f' a6 M' hf' fr' hrow'
      obtain ⟨f, rfl⟩ : ∃ f, f' = f + 1 := ⟨f' - 1, by omega⟩
      refine P_e (RN_s _ _ _ _ _ _ _ _ _ _ _ _) ?_
      exact ih f 2800 (j + 1) _ M' (by omega) (by omega) fr' hrow' (fun f3 u6 M3 e => hex f3 u6 M3 (by omega))
theorem x4_spread2 {D : Nat} (hD : 4 ≤ D) {V : Vw} {A : Nat → Int32} {n x nh ns nw : Nat} {up lv pt : Int32} (hV : VOK V n nh ns nw) (i1 i2 i3 : Nat) (M : Mem) (hL : CL M i1 V) (hA : CA M i2 A) (hxn : x < n) (hx0 : M 25 0 0 = nI x) (hx1 : M 25 0 1 = up) (hx2 : M 25 0 2 = lv) (h3 : M 25 0 3 = pt) (hlv : ¬ lv < 0) :
    isV (EX L xs (D) q_X4_spread [.inr (.inr (24, 0)), .inr (.inr (3, i1)), .inr (.inr (18, i2)), .inr (.inr (29, 0))] M O) O (fun M' => Fr (sSp 29 0) M M' ∧ ∀ y, y < 40 → M' 29 0 y = loudF V A n x up lv pt y) := by
  have v5 : n ≤ 40 := hV.2.2.2.2.2.1
  obtain ⟨d, rfl⟩ : ∃ d, D = d + 2 := ⟨D - 2, by omega⟩
  refine isV_e (EX_in mi_X4_spread rfl rfl rfl (ls := [some (.inr (.inr (24, 0))), some (.inr (.inr (3, i1))), some (.inr (.inr (18, i2))), some (.inr (.inr (29, 0))), none, none, none]) rfl) ?_
  obtain ⟨M1, q1, f1, hr1⟩ := x_fill9 L xs O (D := d + 1) (by omega) i3 0 M
  have fr1 : Fr (sSp 29 0) M M1 := Fr_mono (fun g i k h => by
    unfold sSp at h
    rw [Bool.or_eq_false_iff] at h
    exact h.2) f1
  rw [e2_X4_spread_0, q1]
  simp only [xr_n, Nat.reduceAdd, Nat.add_zero]
  rw [e2_X4_spread_5, (fr1 25 0 2 rfl).trans hx2]
  by_cases hl : 0 < lv
  · rw [if_pos hl, (fr1 25 0 0 rfl).trans hx0, if_pos (in_40 (show x < 40 by omega)), hl_cl (by omega), e2_X4_spread_35, if_neg (by decide), show (-3 : Int32) = slI 0 from by decide]
    have hrow0 : ∀ y', y' < 40 → mput M1 29 0 x lv 29 0 y' = rowF V A n x up lv pt (cntE true 0 (fun _ => 0)) y' := by
      intro y' hy'
      unfold rowF
      by_cases e : y' = x
      · rw [if_pos e, e, mp_s]
      · rw [if_neg e, mp_k e, hr1 y' hy']
        unfold cntE
        cases sd x y' <;> rfl
    refine spread_mid2 L xs O d (by omega) hV i1 i2 i3 M hL hA hxn hx0 hx1 hx2 h3 hl true 0 rfl (fun _ => 0) (fun r => isV r O _) 10 FUEL 2778 0 none _ (by omega) (Nat.le_of_lt (FU (by omega))) (Fr_put fr1 (sSp_row _ _ _)) hrow0 ?_
    intro f' u6 M' hf' fr' hrow'
    have hf2 : 999999 ≤ f' + 10 * 41 := hf'
    obtain ⟨f, rfl⟩ : ∃ f, f' = f + 1 := ⟨f' - 1, by omega⟩
    refine isV_e (RN_s _ _ _ _ _ _ _ _ _ _ _ _) ?_
    rw [e2_X4_spread_35, if_neg (by decide), show (-3 : Int32) = slI 0 from by decide]
    refine spread_mid2 L xs O d (by omega) hV i1 i2 i3 M hL hA hxn hx0 hx1 hx2 h3 hl false (0 + 1) (by decide) (fun _ => 10) (fun r => isV r O _) 10 f 2795 0 u6 M' (by omega) (by omega) fr' ?_ ?_
    · intro y' hy'
      rw [hrow' y' hy']
      refine row_congr (fun b t _ => ?_) y'
      unfold cntE
      cases b <;> rfl
    · intro f3 u6 M3 hf3 fr3 hrow3
      obtain ⟨f4, rfl⟩ : ∃ f, f3 = f + 1 := ⟨f3 - 1, by omega⟩
      refine isV_e (RN_s _ _ _ _ _ _ _ _ _ _ _ _) ?_
      rw [e2_X4_spread_35, if_pos (by decide)]
      refine isV_i ⟨fr3, fun y' hy' => ?_⟩
      rw [hrow3 y' hy']
      refine row_congr (fun b t _ => ?_) y'
      unfold cntE
      cases b <;> rfl
  · rw [if_neg hl]
    refine isV_i ⟨fr1, fun y' hy' => ?_⟩
    have h0 : lv = 0 := by
      rw [i_lt] at hl hlv
      have e0 : (0 : Int32).toInt = 0 := by decide
      exact Int32.toInt_inj.mp (by omega)
    rw [hr1 y' hy']
    unfold loudF rowF
    by_cases e : y' = x
    · rw [if_pos e, h0]
    · rw [if_neg e, loud_0 hl]
end
