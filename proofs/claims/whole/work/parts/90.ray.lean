/-! One RAY, asked for. -/
section
variable (L : Nat) (xs : Nat → Int32) (O : Int64)
theorem x6_needRay_in {M0 : Mem} {V : Vw} {As : Nat → Nat → Int32} {n nh ns nw na : Nat} {D : Nat} (hD : 4 ≤ D) (a s dr i : Nat) (sl : Int32) (ha : a < na) (hs : s < ns) (hdr : dr < 2) (c1 : ¬ sl < -3) (c2 : ¬ 6 < sl) (hi : i < 40) (M : Mem) (hM : CQ M0 V As n nh ns nw na M) : EX L xs (D) q_X6_needRay [.inr (.inr (0, 0)), .inl (nI a), .inl (nI s), .inl (nI dr), .inl (sl), .inl (nI i)] M O = (some (.inl none, M, O, 0, 0) : Res) := by
  have hV := hM.2.1
  have v5 : n ≤ 40 := hV.2.2.2.2.2.1
  have v6 : nh ≤ 8 := hV.2.2.2.2.2.2.1
  have v7 : ns ≤ 6 := hV.2.2.2.2.2.2.2.1
  have v8 : nw ≤ 8 := hV.2.2.2.2.2.2.2.2.1
  have h6 : na ≤ 6 := hM.2.2.2.2.1
  have g0 := (hM.2.2.1 3 0 rfl).trans hV.1
  have g4 := (hM.2.2.1 3 4 rfl).trans hV.2.1
  have g8 := (hM.2.2.1 3 8 rfl).trans hV.2.2.1
  have g13 := (hM.2.2.1 3 13 rfl).trans hV.2.2.2.1
  have g6 := hM.2.2.2.1
  obtain ⟨d, rfl⟩ : ∃ d, D = d + 2 := ⟨D - 2, by omega⟩
  refine (EX_in mi_X6_needRay rfl rfl rfl (ls := [some (.inr (.inr (0, 0))), some (.inl (nI a)), some (.inl (nI s)), some (.inl (nI dr)), some (.inl (sl)), some (.inl (nI i))]) rfl).trans ?_
  have q1 := x6_needAir_in L xs O (D := d + 1) (by omega) (by omega) a M g6 ha
  have q2 := x6_needSource_in L xs O (D := d + 1) (by omega) (by omega) s M g8 hs
  have q3 := x6_needArg_1 L xs O (D := d + 1) (by omega) M
  simp (disch := first | omega | rfl | decide) only [e_X6_needRay_0, e_X6_needRay_5, e_X6_needRay_10, e_X6_needRay_24, e_X6_needRay_25, e_X6_needRay_28, e_X6_needRay_47, e_X6_needRay_48, e_X6_needRay_51, e_X6_needRay_68, e_X6_needRay_69, e_X6_needRay_72, xr_v, xr_n, hl_of, hl_cl, hl_toInt, hl_le, hl_lt, hl_eq, nI_add, hl_sub, pk_mul, hl_div, if_pos, if_neg, ↓reduceIte, Nat.reduceAdd, Nat.reduceSub, Nat.reduceMul, Nat.add_zero, Nat.zero_add, mp_s, mp_k, mp_i, mp_g, mr_s, mr_i, mr_g, zlt_0, zlt_1, zlt_2, zlt_3, zlt_4, zlt_5, zlt_6, zlt_8, zlt_12, zlt_15, zlt_20, zlt_24, zlt_36, zlt_40, zlt_48, zlt_80, zlt_97, zlt_120, zlt_256, zlt_600, zlt_99999999, zadd_1, zadd_2, zadd_5, zadd_6, zadd_8, zadd_20, zadd_24, zeq_0, zeq_1, zeq_2, zeq_3, zeq_4, zeq_5, zeq_6, zeq_7, zeq_8, zeq_13, zeq_14, zeq_20, zeq_32, zeq_59, zeq_60, zeq_80, zmul_2, zmul_4, zmul_6, zmul_8, zmul_10, zmul_24, zsub_1, zsub_2, zsub_10, zsub_48, zsub_97, zle_0, zle_1, zle_2, zle_6, zle_11, zle_200, zle_600, zle_100000000, ylt_0, ylt_1, ylt_2, ylt_3, ylt_6, ylt_9, ylt_20, ylt_24, ylt_57, ylt_60, ylt_99, ylt_120, ylt_122, ylt_999, ylt_9999, yle_0, yle_2, yle_4, yle_5, yle_6, yle_7, yle_8, yle_10, yle_12, yle_13, yle_15, yle_16, yle_20, yle_24, yle_40, yle_60, yle_64, yle_80, yadd_1, yadd_22, ymul_2, ymul_4, ymul_6, ymul_8, ymul_10, ymul_24, ymul_27, ymul_100, ysub_1, ysub_24, zdiv_2, zdiv_4, zdiv_24, q1, q2, q3, c1, c2]
theorem sK_ray {g i k : Nat} (h : sK g i k = false) : sRay g i k = false := by
  have := of_decide_eq_false h
  unfold sRay
  rw [beq_n (by omega)]
  rfl
theorem x4_follow {M0 : Mem} {V : Vw} {As : Nat → Nat → Int32} {n nh ns nw na : Nat} {D : Nat} (hD : 4 ≤ D) (a s dr i : Nat) (sl : Int32) (ha : a < na) (hs : s < ns) (hi : i < 40) (M : Mem) (hM : CQ M0 V As n nh ns nw na M) :
    isI (EX L xs (D) q_X4_follow [.inr (.inr (24, 0)), .inr (.inr (3, 2)), .inr (.inr (18, a)), .inl (nI s), .inl (nI dr), .inl (sl), .inl (nI i)] M O) O (b2i (rayF V (As a) n (vN V 10 s) 1 (V 11 s) (V 12 s) (decide (nI dr = 0)) sl i).isSome) (fun M' => CQ M0 V As n nh ns nw na M' ∧ ∀ z, rayF V (As a) n (vN V 10 s) 1 (V 11 s) (V 12 s) (decide (nI dr = 0)) sl i = some z → M' 25 0 7 = z.1 ∧ M' 25 0 9 = z.2.2) := by
  have hV := hM.2.1
  have v5 : n ≤ 40 := hV.2.2.2.2.2.1
  have v6 : nh ≤ 8 := hV.2.2.2.2.2.2.1
  have v7 : ns ≤ 6 := hV.2.2.2.2.2.2.2.1
  have v8 : nw ≤ 8 := hV.2.2.2.2.2.2.2.2.1
  have h6 : na ≤ 6 := hM.2.2.2.2.1
  have g0 := (hM.2.2.1 3 0 rfl).trans hV.1
  have g4 := (hM.2.2.1 3 4 rfl).trans hV.2.1
  have g8 := (hM.2.2.1 3 8 rfl).trans hV.2.2.1
  have g13 := (hM.2.2.1 3 13 rfl).trans hV.2.2.2.1
  have g6 := hM.2.2.2.1
  have vs := hV.2.2.2.2.2.2.2.2.2.2.2.2.2.1 s hs
  have g10 := (hM.2.2.1 10 s (decide_eq_true (show s < 6 by omega))).trans vs.1
  have g11 := hM.2.2.1 11 s (decide_eq_true (show s < 6 by omega))
  have g12 := hM.2.2.1 12 s (decide_eq_true (show s < 6 by omega))
  obtain ⟨d, rfl⟩ : ∃ d, D = d + 2 := ⟨D - 2, by omega⟩
  refine isI_e (EX_in mi_X4_follow rfl rfl rfl (ls := [some (.inr (.inr (24, 0))), some (.inr (.inr (3, 2))), some (.inr (.inr (18, a))), some (.inl (nI s)), some (.inl (nI dr)), some (.inl (sl)), some (.inl (nI i)), none, none]) rfl) ?_
  rw [e_X4_follow_0, x3_setSource L xs O (D := d + 1) (by omega) 2 s (by omega), g10, g11, g12]
  simp only [xr_n, Nat.reduceAdd, Nat.add_zero]
  generalize hM1 : mput (mput (mput (mput M 25 0 0 (nI (vN V 10 s))) 25 0 1 1) 25 0 2 (V 11 s)) 25 0 3 (V 12 s) = M1
  have f1 : Fr sK M M1 := hM1 ▸ Fr_put (Fr_put (Fr_put (Fr_put Fr_refl rfl) rfl) rfl) rfl
  have h1 := CQ_fr hM f1
  have vs2 := vs.2
  generalize hx0 : vN V 10 s = x at *
  have x0 : M1 25 0 0 = nI x := by rw [← hM1, mp_k (by omega), mp_k (by omega), mp_k (by omega), mp_s]
  have x1 : M1 25 0 1 = 1 := by rw [← hM1, mp_k (by omega), mp_k (by omega), mp_s]
  have x2 : M1 25 0 2 = V 11 s := by rw [← hM1, mp_k (by omega), mp_s]
  have x3 : M1 25 0 3 = V 12 s := by rw [← hM1, mp_s]
  have e5 := h1.2.2.1 5 x (decide_eq_true (show x < 40 by omega))
  have htw : (if nI dr = 0 then (1 : Int32) else -1) = twI (decide (nI dr = 0)) := by
    unfold twI
    by_cases c : nI dr = 0
    · rw [if_pos c, if_pos (decide_eq_true c)]
    · rw [if_neg c, if_neg (fun e => c (of_decide_eq_true e))]
  rw [e_X4_follow_9, x3_start L xs O (D := d + 1) (by omega) 2 x (nI dr) sl M1 x0 (by omega), e5, x1, x2, htw]
  simp only [xr_n, Nat.reduceAdd, Nat.add_zero]
  generalize hM2 : mput (mput (mput (mput (mput (mput M1 25 0 4 (twI (decide (nI dr = 0)))) 25 0 5 (nI x)) 25 0 6 0) 25 0 7 (V 5 x + 1)) 25 0 8 sl) 25 0 9 (V 11 s) = M2
  have f2 : Fr sK M1 M2 := hM2 ▸ Fr_put (Fr_put (Fr_put (Fr_put (Fr_put (Fr_put Fr_refl rfl) rfl) rfl) rfl) rfl) rfl
  have h2 := CQ_fr h1 f2
  have y2 : M2 25 0 2 = V 11 s := by rw [← hM2, mp_k (by omega), mp_k (by omega), mp_k (by omega), mp_k (by omega), mp_k (by omega), mp_k (by omega)]; exact x2
  have y3 : M2 25 0 3 = V 12 s := by rw [← hM2, mp_k (by omega), mp_k (by omega), mp_k (by omega), mp_k (by omega), mp_k (by omega), mp_k (by omega)]; exact x3
  have y4 : M2 25 0 4 = twI (decide (nI dr = 0)) := by rw [← hM2, mp_k (by omega), mp_k (by omega), mp_k (by omega), mp_k (by omega), mp_k (by omega), mp_s]
  have hR2 : RayIs M2 x (nI 0) (V 5 x + 1, sl, V 11 s) := by
    refine ⟨?_, ?_, ?_, ?_, ?_⟩
    · rw [← hM2, mp_k (by omega), mp_k (by omega), mp_k (by omega), mp_k (by omega), mp_s]
    · rw [← hM2, mp_k (by omega), mp_k (by omega), mp_k (by omega), mp_s]
      rfl
    · rw [← hM2, mp_k (by omega), mp_k (by omega), mp_s]
    · rw [← hM2, mp_k (by omega), mp_s]
    · rw [← hM2, mp_s]
  generalize hrt : decide (nI dr = 0) = rt at *
  have hz0 : rayF V (As a) n x 1 (V 11 s) (V 12 s) rt sl 0 = if 0 < V 11 s then some (V 5 x + 1, sl, V 11 s) else none := rfl
  have hy0 : yAt n rt x 0 = some x := by
    unfold yAt
    cases rt with
    | true => exact (if_pos rfl).trans (if_pos vs2)
    | false => exact (if_neg (by decide)).trans (if_pos (by omega))
  have fin : ∀ f k j M, (rayF V (As a) n x 1 (V 11 s) (V 12 s) rt sl i = none → True) → CQ M0 V As n nh ns nw na M → (∀ z, rayF V (As a) n x 1 (V 11 s) (V 12 s) rt sl i = some z → M 25 0 7 = z.1 ∧ M 25 0 9 = z.2.2) →
      isI (BK L xs (EX L xs (d + 1)) mi_X4_follow (RN L xs (d) mi_X4_follow f) (k + 60) 70 [some (.inr (.inr (24, 0))), some (.inr (.inr (3, 2))), some (.inr (.inr (18, a))), some (.inl (nI s)), some (.inl (nI dr)), some (.inl (sl)), some (.inl (nI i)), some (.inl (b2i (rayF V (As a) n x 1 (V 11 s) (V 12 s) rt sl i).isSome)), some (.inl (j))] [] M O none 0 0) O (b2i (rayF V (As a) n x 1 (V 11 s) (V 12 s) rt sl i).isSome) (fun M' => CQ M0 V As n nh ns nw na M' ∧ ∀ z, rayF V (As a) n x 1 (V 11 s) (V 12 s) rt sl i = some z → M' 25 0 7 = z.1 ∧ M' 25 0 9 = z.2.2) := by
    intro f k j M _ hM hz
    rw [e_X4_follow_70, if_pos]
    · exact isI_i ⟨hM, hz⟩
    · cases (rayF V (As a) n x 1 (V 11 s) (V 12 s) rt sl i).isSome
      · exact Or.inl rfl
      · exact Or.inr rfl
  have loop : ∀ k, isI (BK L xs (EX L xs (d + 1)) mi_X4_follow (RN L xs (d) mi_X4_follow FUEL) (k + 200) 41 [some (.inr (.inr (24, 0))), some (.inr (.inr (3, 2))), some (.inr (.inr (18, a))), some (.inl (nI s)), some (.inl (nI dr)), some (.inl (sl)), some (.inl (nI i)), some (.inl (b2i (rayF V (As a) n x 1 (V 11 s) (V 12 s) rt sl 0).isSome)), some (.inl (0))] [] M2 O none 0 0) O (b2i (rayF V (As a) n x 1 (V 11 s) (V 12 s) rt sl i).isSome) (fun M' => CQ M0 V As n nh ns nw na M' ∧ ∀ z, rayF V (As a) n x 1 (V 11 s) (V 12 s) rt sl i = some z → M' 25 0 7 = z.1 ∧ M' 25 0 9 = z.2.2) := by
    intro k
    refine loopA L xs O (P := fun r => isI r O _ _) (fun j ls M => ls = [some (.inr (.inr (24, 0))), some (.inr (.inr (3, 2))), some (.inr (.inr (18, a))), some (.inl (nI s)), some (.inl (nI dr)), some (.inl (sl)), some (.inl (nI i)), some (.inl (b2i (rayF V (As a) n x 1 (V 11 s) (V 12 s) rt sl j).isSome)), some (.inl (nI j))] ∧ CQ M0 V As n nh ns nw na M ∧ M 25 0 3 = V 12 s ∧ M 25 0 4 = twI rt ∧ ∀ z, rayF V (As a) n x 1 (V 11 s) (V 12 s) rt sl j = some z → ∃ y, yAt n rt x j = some y ∧ RayIs M y (nI j) z) i 100 (by omega) ?_ ?_ (Nat.le_of_lt (FU (by omega))) ⟨rfl, h2, y3, y4, fun z hz => ?_⟩
    · rintro f k j _ M hj ⟨rfl, hM, w3, w4, hz⟩ ih
      have hV := hM.2.1
      have v5 : n ≤ 40 := hV.2.2.2.2.2.1
      have v6 : nh ≤ 8 := hV.2.2.2.2.2.2.1
      have v7 : ns ≤ 6 := hV.2.2.2.2.2.2.2.1
      have v8 : nw ≤ 8 := hV.2.2.2.2.2.2.2.2.1
      have h6 : na ≤ 6 := hM.2.2.2.2.1
      have g0 := (hM.2.2.1 3 0 rfl).trans hV.1
      have g4 := (hM.2.2.1 3 4 rfl).trans hV.2.1
      have g8 := (hM.2.2.1 3 8 rfl).trans hV.2.2.1
      have g13 := (hM.2.2.1 3 13 rfl).trans hV.2.2.2.1
      have g6 := hM.2.2.2.1
      rw [e_X4_follow_41, if_neg (by rw [hl_le (by omega) (by omega)]; omega)]
      cases hc : rayF V (As a) n x 1 (V 11 s) (V 12 s) rt sl j with
      | none =>
        have hn := ray_none hc (i - j)
        rw [show j + (i - j) = i by omega] at hn
        have q := fun k' => fin f k' (nI j) M (fun _ => trivial) hM (fun z h => by rw [hn] at h; cases h)
        rw [hn] at q ⊢
        rw [show b2i (none : Option R3).isSome = 0 from rfl] at q ⊢
        rw [if_pos rfl]
        exact q _
      | some z =>
        obtain ⟨y, hy, hr⟩ := hz z hc
        rw [show b2i (some z : Option R3).isSome = 1 from rfl, if_neg (by decide)]
        cases hyn : yAt n rt x (j + 1) with
        | none =>
          obtain ⟨M3, q3, fr3⟩ := x3_goes_out L xs O (D := d + 1) (by omega) hV 2 a M hM.2.2.1 (by rw [hr.1, w4]; exact next_out v5 vs2 hy hyn)
          rw [q3]
          simp only [xr_v, Nat.reduceAdd, Nat.add_zero]
          rw [e_X4_follow_62, zadd_1]
          refine ih _ _ ⟨?_, CQ_fr hM (Fr_mono (fun _ _ _ => sK_ray) fr3), (fr3 25 0 3 rfl).trans w3, (fr3 25 0 4 rfl).trans w4, fun z h => ?_⟩
          · rw [ray_n hyn]
            rfl
          · rw [ray_n hyn] at h
            cases h
        | some y1 =>
          have hy1 := yAt_lt vs2 hyn
          obtain ⟨M3, q3, fr3, hr3⟩ := x3_goes_in L xs O (D := d + 1) (by omega) hV 2 a y1 M hM.2.2.1 (hM.2.2.2.2.2.1 a ha) hy1 (by rw [hr.1, w4]; exact next_in hy hyn)
          rw [w4, w3, hr.2.1, zadd_1, hr.2.2.1, hr.2.2.2.1, hr.2.2.2.2] at q3 hr3
          have hst := ray_s hc hyn
          rw [q3]
          simp only [xr_v, Nat.reduceAdd, Nat.add_zero]
          rw [e_X4_follow_62, zadd_1]
          refine ih _ _ ⟨?_, CQ_fr hM (Fr_mono (fun _ _ _ => sK_ray) fr3), (fr3 25 0 3 rfl).trans w3, (fr3 25 0 4 rfl).trans w4, fun z' h => ⟨y1, hyn, hr3 z' ?_⟩⟩
          · rw [hst]
          · rw [hst] at h
            exact h
    · rintro f k _ M ⟨rfl, hM, w3, w4, hz⟩
      rw [e_X4_follow_41, if_pos (by rw [hl_le (by omega) (by omega)]; omega)]
      exact fin f _ _ M (fun _ => trivial) hM (fun z h => by obtain ⟨y, _, hr⟩ := hz z h; exact ⟨hr.2.2.1, hr.2.2.2.2⟩)
    · rw [hz0] at hz
      by_cases c : 0 < V 11 s
      · rw [if_pos c] at hz
        cases hz
        exact ⟨x, hy0, hR2⟩
      · rw [if_neg c] at hz
        cases hz
  rw [e_X4_follow_21, y2]
  by_cases c : V 11 s ≤ 0
  · rw [if_pos c, e_X4_follow_36]
    have := fun k => loop k
    rw [hz0, if_neg (nlt_le c)] at this
    exact this _
  · rw [if_neg c, e_X4_follow_36]
    have := fun k => loop k
    rw [hz0, if_pos (lt_nle c)] at this
    exact this _
theorem c_ray {M0 : Mem} {V : Vw} {As : Nat → Nat → Int32} {n nh ns nw na : Nat} {D : Nat} (hD : 9 ≤ D) (a s dr i : Nat) (sl : Int32) (ha : a < na) (hs : s < ns) (hdr : dr < 2) (c1 : ¬ sl < -3) (c2 : ¬ 6 < sl) (hi : i < 40) (M : Mem) (hM : CQ M0 V As n nh ns nw na M) : isI (EX L xs (D) q_X6_ray [.inr (.inr (0, 0)), .inl (nI a), .inl (nI s), .inl (nI dr), .inl (sl), .inl (nI i)] M O) O (plF (rayF V (As a) n (vN V 10 s) 1 (V 11 s) (V 12 s) (decide (nI dr = 0)) sl i)) (CQ M0 V As n nh ns nw na) := by
  have hV := hM.2.1
  have v5 : n ≤ 40 := hV.2.2.2.2.2.1
  have v6 : nh ≤ 8 := hV.2.2.2.2.2.2.1
  have v7 : ns ≤ 6 := hV.2.2.2.2.2.2.2.1
  have v8 : nw ≤ 8 := hV.2.2.2.2.2.2.2.2.1
  have h6 : na ≤ 6 := hM.2.2.2.2.1
  have g0 := (hM.2.2.1 3 0 rfl).trans hV.1
  have g4 := (hM.2.2.1 3 4 rfl).trans hV.2.1
  have g8 := (hM.2.2.1 3 8 rfl).trans hV.2.2.1
  have g13 := (hM.2.2.1 3 13 rfl).trans hV.2.2.2.1
  have g6 := hM.2.2.2.1
  obtain ⟨d, rfl⟩ : ∃ d, D = d + 2 := ⟨D - 2, by omega⟩
  refine isI_e (EX_in mi_X6_ray rfl rfl rfl (ls := [some (.inr (.inr (0, 0))), some (.inl (nI a)), some (.inl (nI s)), some (.inl (nI dr)), some (.inl (sl)), some (.inl (nI i))]) rfl) ?_
  have q1 := x6_needRay_in L xs O (D := d + 1) (by omega) a s dr i sl ha hs hdr c1 c2 hi M hM
  obtain ⟨M1, q2, h1, hz⟩ := x4_follow L xs O (D := d + 1) (by omega) a s dr i sl ha hs hi M hM
  rw [e_X6_ray_0, q1]
  simp only [xr_n, Nat.reduceAdd, Nat.add_zero]
  rw [e_X6_ray_11, if_pos (in_6 (by omega)), hl_cl (by omega), Nat.zero_add, q2]
  simp only [xr_v, Nat.reduceAdd, Nat.add_zero]
  rw [e_X6_ray_34]
  cases hc : rayF V (As a) n (vN V 10 s) 1 (V 11 s) (V 12 s) (decide (nI dr = 0)) sl i with
  | none =>
    rw [show b2i (none : Option R3).isSome = 0 from rfl, if_pos rfl, e_X6_ray_51]
    exact isI_i h1
  | some z =>
    obtain ⟨z7, z9⟩ := hz z hc
    rw [show b2i (some z : Option R3).isSome = 1 from rfl, if_neg (by decide), e_X6_ray_51]
    first | rw [z7] | rw [z9]
    exact isI_i h1
theorem c_left {M0 : Mem} {V : Vw} {As : Nat → Nat → Int32} {n nh ns nw na : Nat} {D : Nat} (hD : 9 ≤ D) (a s dr i : Nat) (sl : Int32) (ha : a < na) (hs : s < ns) (hdr : dr < 2) (c1 : ¬ sl < -3) (c2 : ¬ 6 < sl) (hi : i < 40) (M : Mem) (hM : CQ M0 V As n nh ns nw na M) : isI (EX L xs (D) q_X6_left [.inr (.inr (0, 0)), .inl (nI a), .inl (nI s), .inl (nI dr), .inl (sl), .inl (nI i)] M O) O (lfF (rayF V (As a) n (vN V 10 s) 1 (V 11 s) (V 12 s) (decide (nI dr = 0)) sl i)) (CQ M0 V As n nh ns nw na) := by
  have hV := hM.2.1
  have v5 : n ≤ 40 := hV.2.2.2.2.2.1
  have v6 : nh ≤ 8 := hV.2.2.2.2.2.2.1
  have v7 : ns ≤ 6 := hV.2.2.2.2.2.2.2.1
  have v8 : nw ≤ 8 := hV.2.2.2.2.2.2.2.2.1
  have h6 : na ≤ 6 := hM.2.2.2.2.1
  have g0 := (hM.2.2.1 3 0 rfl).trans hV.1
  have g4 := (hM.2.2.1 3 4 rfl).trans hV.2.1
  have g8 := (hM.2.2.1 3 8 rfl).trans hV.2.2.1
  have g13 := (hM.2.2.1 3 13 rfl).trans hV.2.2.2.1
  have g6 := hM.2.2.2.1
  obtain ⟨d, rfl⟩ : ∃ d, D = d + 2 := ⟨D - 2, by omega⟩
  refine isI_e (EX_in mi_X6_left rfl rfl rfl (ls := [some (.inr (.inr (0, 0))), some (.inl (nI a)), some (.inl (nI s)), some (.inl (nI dr)), some (.inl (sl)), some (.inl (nI i))]) rfl) ?_
  have q1 := x6_needRay_in L xs O (D := d + 1) (by omega) a s dr i sl ha hs hdr c1 c2 hi M hM
  obtain ⟨M1, q2, h1, hz⟩ := x4_follow L xs O (D := d + 1) (by omega) a s dr i sl ha hs hi M hM
  rw [e_X6_left_0, q1]
  simp only [xr_n, Nat.reduceAdd, Nat.add_zero]
  rw [e_X6_left_11, if_pos (in_6 (by omega)), hl_cl (by omega), Nat.zero_add, q2]
  simp only [xr_v, Nat.reduceAdd, Nat.add_zero]
  rw [e_X6_left_34]
  cases hc : rayF V (As a) n (vN V 10 s) 1 (V 11 s) (V 12 s) (decide (nI dr = 0)) sl i with
  | none =>
    rw [show b2i (none : Option R3).isSome = 0 from rfl, if_pos rfl, e_X6_left_51]
    exact isI_i h1
  | some z =>
    obtain ⟨z7, z9⟩ := hz z hc
    rw [show b2i (some z : Option R3).isSome = 1 from rfl, if_neg (by decide), e_X6_left_51]
    first | rw [z7] | rw [z9]
    exact isI_i h1
end
section
variable (L : Nat) (xs : Nat → Int32) (O : Int64) {T : Vw} {f : Nat → Nat} {As : Nat → Nat → Int32} {n nh ns nw na nd : Nat}
theorem x7_badRay_in {D : Nat} (hD : 4 ≤ D) (a s dr i : Nat) (sl : Int32) (ha : a < na) (hs : s < ns) (hdr : dr < 2) (c1 : ¬ sl < -3) (c2 : ¬ 6 < sl) (hi : i < 40) (M : Mem) (h6 : na ≤ 6) (v7 : ns ≤ 6) (k26 : M 40 0 26 = nI na) (k2 : M 44 0 2 = nI ns) (t0 : M 40 0 0 = 0) : EX L xs (D) q_X7_badRay [.inr (.inr (40, 0)), .inl (nI a), .inl (nI s), .inl (nI dr), .inl (sl), .inl (nI i)] M O = (some (.inl (some (.inl (0))), M, O, 0, 0) : Res) := by
  obtain ⟨d, rfl⟩ : ∃ d, D = d + 2 := ⟨D - 2, by omega⟩
  refine (EX_in mi_X7_badRay rfl rfl rfl (ls := [some (.inr (.inr (40, 0))), some (.inl (nI a)), some (.inl (nI s)), some (.inl (nI dr)), some (.inl (sl)), some (.inl (nI i))]) rfl).trans ?_
  have p1 := x7_isAir_i L xs O (D := d + 1) (by omega) (by omega) a M k26 ha
  have p2 := x7_isSource_i L xs O (D := d + 1) (by omega) (by omega) s M k2 hs
  have p3 := x7_i2_in L xs O (D := d + 1) (by omega) dr M hdr
  have p4 := x7_r_in L xs O (D := d + 1) (by omega) sl (-3) 6 M c1 c2
  have p5 := x7_i40_in L xs O (D := d + 1) (by omega) i M hi
  have b0 := fun w q => x7_bad_0 L xs O (D := d + 1) (by omega) w q M t0
  simp (disch := first | omega | rfl | decide) only [e_X7_badRay_0, e_X7_badRay_6, e_X7_badRay_17, e_X7_badRay_14, e_X7_badRay_22, e_X7_badRay_27, e_X7_badRay_37, e_X7_badRay_76, e_X7_badRay_63, e_X7_badRay_49, e_X7_badRay_81, e_X7_badRay_68, e_X7_badRay_60, e_X7_badRay_73, xr_v, xr_n, hl_of, hl_cl, hl_toInt, hl_le, hl_lt, hl_eq, nI_add, hl_sub, pk_mul, hl_div, if_pos, if_neg, ↓reduceIte, Nat.reduceAdd, Nat.reduceSub, Nat.reduceMul, Nat.add_zero, Nat.zero_add, mp_s, mp_k, mp_i, mp_g, mr_s, mr_i, mr_g, zlt_0, zlt_1, zlt_2, zlt_3, zlt_4, zlt_5, zlt_6, zlt_8, zlt_12, zlt_15, zlt_20, zlt_24, zlt_36, zlt_40, zlt_48, zlt_80, zlt_97, zlt_120, zlt_256, zlt_600, zlt_99999999, zadd_1, zadd_2, zadd_5, zadd_6, zadd_8, zadd_20, zadd_24, zeq_0, zeq_1, zeq_2, zeq_3, zeq_4, zeq_5, zeq_6, zeq_7, zeq_8, zeq_13, zeq_14, zeq_20, zeq_32, zeq_59, zeq_60, zeq_80, zmul_2, zmul_4, zmul_6, zmul_8, zmul_10, zmul_24, zsub_1, zsub_2, zsub_10, zsub_48, zsub_97, zle_0, zle_1, zle_2, zle_6, zle_11, zle_200, zle_600, zle_100000000, ylt_0, ylt_1, ylt_2, ylt_3, ylt_6, ylt_9, ylt_20, ylt_24, ylt_57, ylt_60, ylt_99, ylt_120, ylt_122, ylt_999, ylt_9999, yle_0, yle_2, yle_4, yle_5, yle_6, yle_7, yle_8, yle_10, yle_12, yle_13, yle_15, yle_16, yle_20, yle_24, yle_40, yle_60, yle_64, yle_80, yadd_1, yadd_22, ymul_2, ymul_4, ymul_6, ymul_8, ymul_10, ymul_24, ymul_27, ymul_100, ysub_1, ysub_24, zdiv_2, zdiv_4, zdiv_24, p1, p2, p3, p4, p5, b0, true_or]
theorem m_ray {D : Nat} (hD : 11 ≤ D) (a s dr i : Nat) (sl : Int32) (ha : a < na) (hs : s < ns) (hdr : dr < 2) (c1 : ¬ sl < -3) (c2 : ¬ 6 < sl) (hi : i < 40) (M : Mem) (hB : MB M T f As n nh ns nw na nd) : isI (EX L xs (D) q_X7_ray [.inr (.inr (40, 0)), .inl (nI a), .inl (nI s), .inl (nI dr), .inl (sl), .inl (nI i)] M O) O (plF (rayF (perfL T f nd) (As a) n (vN (perfL T f nd) 10 s) 1 ((perfL T f nd) 11 s) ((perfL T f nd) 12 s) (decide (nI dr = 0)) sl i)) (MP M) := by
  obtain ⟨d, rfl⟩ : ∃ d, D = d + 2 := ⟨D - 2, by omega⟩
  refine isI_e (EX_in mi_X7_ray rfl rfl rfl (ls := [some (.inr (.inr (40, 0))), some (.inl (nI a)), some (.inl (nI s)), some (.inl (nI dr)), some (.inl (sl)), some (.inl (nI i))]) rfl) ?_
  obtain ⟨M1, e1, fr1, hB1, t1⟩ := m_start hB
  have v4 : 8 ≤ n := hB1.1.2.2.2.2.1
  have v5 : n ≤ 40 := hB1.1.2.2.2.2.2.1
  have v6 : nh ≤ 8 := hB1.1.2.2.2.2.2.2.1
  have v7 : ns ≤ 6 := hB1.1.2.2.2.2.2.2.2.1
  have v8 : nw ≤ 8 := hB1.1.2.2.2.2.2.2.2.2.1
  have h6 : na ≤ 6 := hB1.2.2.2.2.2.1
  have z0 := hB1.2.1.1
  have z1 := hB1.2.1.2.1
  have z2 := hB1.2.1.2.2.1
  have z3 := hB1.2.1.2.2.2.1
  have z26 := hB1.2.2.2.2.1
  have b0 := fun w q => x7_bad_0 L xs O (D := d + 1) (by omega) w q M1 t1
  obtain ⟨M2, ql, h2⟩ := x7_laidR L xs O (D := d + 1) (by omega) hB fr1 hB1 t1
  have p1 := x7_badRay_in L xs O (D := d + 1) (by omega) a s dr i sl ha hs hdr c1 c2 hi M1 h6 v7 z26 z2 t1
  have hV := h2.2.1.1
  have vs := hV.2.2.2.2.2.2.2.2.2.2.2.2.2.1 s hs
  have g60 := (h2.2.1.2.1.2.2.2.2.2.2.2.1 s hs).1.trans vs.1
  have g62 := (h2.2.1.2.1.2.2.2.2.2.2.2.1 s hs).2.1
  have g76 := h2.2.1.2.2.1.2.2 s hs
  have htw : (1 : Int32) - 2 * nI dr = twI (decide (nI dr = 0)) := by
    obtain rfl | rfl : dr = 0 ∨ dr = 1 := by omega
    · decide
    · decide
  obtain ⟨M3, q3, f3, l3⟩ := x7_shines L xs O (D := d + 1) (by omega) (up := 1) (lv := (perfL T f nd) 11 s) (pt := (perfL T f nd) 12 s) hV a (by omega) M2 (MG_of h2.2.1.2.1 h2.2.1.2.2.1) (h2.2.1.2.2.2.2.2 a ha) vs.2 (decide (nI dr = 0)) sl
  have hP : MP M M3 := MR_P (MR_q h2 (Fr_mono (fun _ _ _ e => sSo_sh (sQ_so e)) f3))
  rw [e_X7_ray_0, e1, p1]
  simp only [xr_v, Nat.reduceAdd, Nat.add_zero]
  rw [e_X7_ray_16, if_pos rfl, ql]
  simp only [xr_n, Nat.reduceAdd, Nat.add_zero]
  rw [e_X7_ray_25, if_pos (in_6 (by omega)), if_pos (in_6 (by omega)), if_pos (in_6 (by omega)), hl_cl (by omega), Nat.zero_add, g60, g62, g76, htw, q3]
  simp only [xr_n, Nat.reduceAdd, Nat.add_zero]
  rw [e_X7_ray_60, if_pos (in_40 hi), hl_cl (by omega)]
  first | rw [(l3 i hi).1] | rw [(l3 i hi).2]
  exact isI_i hP
theorem m_left {D : Nat} (hD : 11 ≤ D) (a s dr i : Nat) (sl : Int32) (ha : a < na) (hs : s < ns) (hdr : dr < 2) (c1 : ¬ sl < -3) (c2 : ¬ 6 < sl) (hi : i < 40) (M : Mem) (hB : MB M T f As n nh ns nw na nd) : isI (EX L xs (D) q_X7_left [.inr (.inr (40, 0)), .inl (nI a), .inl (nI s), .inl (nI dr), .inl (sl), .inl (nI i)] M O) O (lfF (rayF (perfL T f nd) (As a) n (vN (perfL T f nd) 10 s) 1 ((perfL T f nd) 11 s) ((perfL T f nd) 12 s) (decide (nI dr = 0)) sl i)) (MP M) := by
  obtain ⟨d, rfl⟩ : ∃ d, D = d + 2 := ⟨D - 2, by omega⟩
  refine isI_e (EX_in mi_X7_left rfl rfl rfl (ls := [some (.inr (.inr (40, 0))), some (.inl (nI a)), some (.inl (nI s)), some (.inl (nI dr)), some (.inl (sl)), some (.inl (nI i))]) rfl) ?_
  obtain ⟨M1, e1, fr1, hB1, t1⟩ := m_start hB
  have v4 : 8 ≤ n := hB1.1.2.2.2.2.1
  have v5 : n ≤ 40 := hB1.1.2.2.2.2.2.1
  have v6 : nh ≤ 8 := hB1.1.2.2.2.2.2.2.1
  have v7 : ns ≤ 6 := hB1.1.2.2.2.2.2.2.2.1
  have v8 : nw ≤ 8 := hB1.1.2.2.2.2.2.2.2.2.1
  have h6 : na ≤ 6 := hB1.2.2.2.2.2.1
  have z0 := hB1.2.1.1
  have z1 := hB1.2.1.2.1
  have z2 := hB1.2.1.2.2.1
  have z3 := hB1.2.1.2.2.2.1
  have z26 := hB1.2.2.2.2.1
  have b0 := fun w q => x7_bad_0 L xs O (D := d + 1) (by omega) w q M1 t1
  obtain ⟨M2, ql, h2⟩ := x7_laidR L xs O (D := d + 1) (by omega) hB fr1 hB1 t1
  have p1 := x7_badRay_in L xs O (D := d + 1) (by omega) a s dr i sl ha hs hdr c1 c2 hi M1 h6 v7 z26 z2 t1
  have hV := h2.2.1.1
  have vs := hV.2.2.2.2.2.2.2.2.2.2.2.2.2.1 s hs
  have g60 := (h2.2.1.2.1.2.2.2.2.2.2.2.1 s hs).1.trans vs.1
  have g62 := (h2.2.1.2.1.2.2.2.2.2.2.2.1 s hs).2.1
  have g76 := h2.2.1.2.2.1.2.2 s hs
  have htw : (1 : Int32) - 2 * nI dr = twI (decide (nI dr = 0)) := by
    obtain rfl | rfl : dr = 0 ∨ dr = 1 := by omega
    · decide
    · decide
  obtain ⟨M3, q3, f3, l3⟩ := x7_shines L xs O (D := d + 1) (by omega) (up := 1) (lv := (perfL T f nd) 11 s) (pt := (perfL T f nd) 12 s) hV a (by omega) M2 (MG_of h2.2.1.2.1 h2.2.1.2.2.1) (h2.2.1.2.2.2.2.2 a ha) vs.2 (decide (nI dr = 0)) sl
  have hP : MP M M3 := MR_P (MR_q h2 (Fr_mono (fun _ _ _ e => sSo_sh (sQ_so e)) f3))
  rw [e_X7_left_0, e1, p1]
  simp only [xr_v, Nat.reduceAdd, Nat.add_zero]
  rw [e_X7_left_16, if_pos rfl, ql]
  simp only [xr_n, Nat.reduceAdd, Nat.add_zero]
  rw [e_X7_left_25, if_pos (in_6 (by omega)), if_pos (in_6 (by omega)), if_pos (in_6 (by omega)), hl_cl (by omega), Nat.zero_add, g60, g62, g76, htw, q3]
  simp only [xr_n, Nat.reduceAdd, Nat.add_zero]
  rw [e_X7_left_60, if_pos (in_40 hi), hl_cl (by omega)]
  first | rw [(l3 i hi).1] | rw [(l3 i hi).2]
  exact isI_i hP
end
