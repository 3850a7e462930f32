/-! The class: what it keeps of how LOUD it is. -/
def bitB (b : Int32) (i : Nat) : Bool := decide ((b >>> (nI i &&& 31)) &&& 1 = 1)
def perfS (V : Vw) (b : Int32) : Nat → Vw
  | 0 => V
  | w + 1 => if bitB b w = true then perfV (perfS V b w) w else perfS V b w
def bitsF (p : Nat → Bool) : Nat → Int32
  | 0 => 0
  | k + 1 => if p k = true then bitsF p k ||| (1 <<< (nI k &&& 31)) else bitsF p k
def tryF (V : Vw) (A : Nat → Int32) (n nh ns nw h : Nat) (b : Int32) : Int32 := bitsF (fun k => hearF (perfS V b nw) A n ns h k) nh
theorem perfS_ok {V : Vw} {n nh ns nw : Nat} (h : VOK V n nh ns nw) (b : Int32) : ∀ k, k ≤ nw → VOK (perfS V b k) n nh ns nw := by
  intro k
  induction k with
  | zero => intro _; exact h
  | succ k ih =>
    intro hk
    unfold perfS
    split
    · exact perf_ok (ih (by omega)) (by omega)
    · exact ih (by omega)
def CC (M : Mem) (V : Vw) (As : Nat → Nat → Int32) (n nh ns nw na : Nat) : Prop :=
  (∀ i, i < 36 → M 28 0 i = 0 ∨ (M 28 0 i = 1 ∧ ∃ a s, a < na ∧ s < ns ∧ i = a * 6 + s ∧ ∀ y, y < 40 → M 27 i y = srcF V (As a) n s y))
  ∧ (M 0 0 12 = -1 ∨ ∃ a h, a < na ∧ h < 24 ∧ M 0 0 12 = nI a ∧ M 0 0 13 = nI h ∧ ∀ b, b < 256 → M 33 0 b = -1 ∨ M 33 0 b = tryF V (As a) n nh ns nw h (nI b))
def CW (M : Mem) (V : Vw) (As : Nat → Nat → Int32) (n nh ns nw na : Nat) : Prop := VOK V n nh ns nw ∧ CL M 2 V ∧ M 0 0 6 = nI na ∧ na ≤ 6 ∧ (∀ a, a < na → CA M a (As a)) ∧ CC M V As n nh ns nw na
/-- what the class changes when it is asked -/
def sC (g i k : Nat) : Bool := decide (g = 25 ∨ g = 27 ∨ g = 28 ∨ g = 29 ∨ g = 30 ∨ g = 33 ∨ (g = 0 ∧ (k = 12 ∨ k = 13)) ∨ (3 ≤ g ∧ g ≤ 17 ∧ i = 3))
def CQ (M0 : Mem) (V : Vw) (As : Nat → Nat → Int32) (n nh ns nw na : Nat) (M : Mem) : Prop := Fr sC M0 M ∧ CW M V As n nh ns nw na
theorem sC_no {g i k : Nat} (h : sC g i k = false) : ¬ (g = 25 ∨ g = 27 ∨ g = 28 ∨ g = 29 ∨ g = 30 ∨ g = 33 ∨ (g = 0 ∧ (k = 12 ∨ k = 13)) ∨ (3 ≤ g ∧ g ≤ 17 ∧ i = 3)) := of_decide_eq_false h
theorem sC_ys {g i k : Nat} (h : g = 25 ∨ g = 27 ∨ g = 28 ∨ g = 29 ∨ g = 30 ∨ g = 33 ∨ (g = 0 ∧ (k = 12 ∨ k = 13)) ∨ (3 ≤ g ∧ g ≤ 17 ∧ i = 3)) : sC g i k = true := decide_eq_true h
theorem sC_sp {gr ir g i k : Nat} (hg : gr = 27 ∨ gr = 29) (h : sC g i k = false) : sSp gr ir g i k = false := by
  have := sC_no h
  unfold sSp
  rw [beq_n (by omega), beq_n (by omega)]
  rfl
theorem sC_row {gr ir g i k : Nat} (hg : gr = 27 ∨ gr = 28 ∨ gr = 29 ∨ gr = 30 ∨ gr = 33) (h : sC g i k = false) : sRow gr ir g i k = false := by
  have := sC_no h
  exact sRow_g (by omega)
theorem sC_ld {g i k : Nat} (h : sC g i k = false) : sLd 3 g i k = false := by
  have := sC_no h
  by_cases e : i = 3
  · by_cases e2 : 3 ≤ g ∧ g ≤ 17
    · omega
    · refine sLd_g ?_
      cases e3 : isLand g with
      | false => rfl
      | true => exact absurd (isLand_le e3) e2
  · exact sLd_i e
theorem sC_land2 (g k : Nat) (h : isLand g = true) : sC g 2 k = false := by
  have := isLand_le h
  exact decide_eq_false (by omega)
/-- all but what is kept stays right -/
theorem CW_fr {V : Vw} {As : Nat → Nat → Int32} {n nh ns nw na : Nat} {M M' : Mem} (h : CW M V As n nh ns nw na) (fr : Fr sC M M') (hc : CC M' V As n nh ns nw na) : CW M' V As n nh ns nw na :=
  ⟨h.1, CL_fr h.2.1 fr sC_land2, (fr 0 0 6 rfl).trans h.2.2.1, h.2.2.2.1, fun a ha => CA_fr (h.2.2.2.2.1 a ha) fr (fun _ => rfl) (fun _ => rfl), hc⟩
/-- a change that leaves what is kept -/
def sK (g i k : Nat) : Bool := decide (g = 25 ∨ g = 29 ∨ g = 30 ∨ (3 ≤ g ∧ g ≤ 17 ∧ i = 3))
theorem sK_C {g i k : Nat} (h : sC g i k = false) : sK g i k = false := by
  have := sC_no h
  exact decide_eq_false (by omega)
theorem CC_fr {V : Vw} {As : Nat → Nat → Int32} {n nh ns nw na : Nat} {M M' : Mem} (h : CC M V As n nh ns nw na) (fr : Fr sK M M') : CC M' V As n nh ns nw na := by
  have e : ∀ g i k, (g = 27 ∨ g = 28 ∨ g = 33 ∨ g = 0) → M' g i k = M g i k := fun g i k hg => fr g i k (decide_eq_false (by omega))
  refine ⟨fun i hi => ?_, ?_⟩
  · rw [e 28 0 i (by omega)]
    rcases h.1 i hi with h1 | ⟨h1, a, s, ha, hs, hi', hr⟩
    · exact Or.inl h1
    · refine Or.inr ⟨h1, a, s, ha, hs, hi', fun y hy => ?_⟩
      rw [e 27 i y (by omega)]
      exact hr y hy
  · rw [e 0 0 12 (by omega), e 0 0 13 (by omega)]
    rcases h.2 with h1 | ⟨a, t, ha, ht, h1, h2, h3⟩
    · exact Or.inl h1
    · refine Or.inr ⟨a, t, ha, ht, h1, h2, fun b hb => ?_⟩
      rw [e 33 0 b (by omega)]
      exact h3 b hb
theorem CQ_fr {M0 : Mem} {V : Vw} {As : Nat → Nat → Int32} {n nh ns nw na : Nat} {M M' : Mem} (h : CQ M0 V As n nh ns nw na M) (fr : Fr sK M M') : CQ M0 V As n nh ns nw na M' :=
  ⟨Fr_trans h.1 (Fr_mono (fun _ _ _ => sK_C) fr), CW_fr h.2 (Fr_mono (fun _ _ _ => sK_C) fr) (CC_fr h.2.2.2.2.2.2 fr)⟩
section
variable (L : Nat) (xs : Nat → Int32) (O : Int64)
theorem x4_rowOf {M0 : Mem} {V : Vw} {As : Nat → Nat → Int32} {n nh ns nw na : Nat} {D : Nat} (hD : 5 ≤ D) (a s : Nat) (ha : a < na) (hs : s < ns) (M : Mem) (hM : CQ M0 V As n nh ns nw na M) :
    isR (EX L xs (D) q_X4_rowOf [.inr (.inr (24, 0)), .inr (.inr (3, 2)), .inr (.inr (18, a)), .inl (nI a), .inl (nI s)] M O) O 27 (a * 6 + s) (fun M' => CQ M0 V As n nh ns nw na M' ∧ ∀ y, y < 40 → M' 27 (a * 6 + s) y = srcF V (As a) n s y) := by
  obtain ⟨fr, hV, hL, h6, h6', hA, hC⟩ := hM
  have v7 : ns ≤ 6 := hV.2.2.2.2.2.2.2.1
  have hi : a * 6 + s < 36 := by omega
  have hin := in_36 hi
  have hcl : (nI (a * 6 + s)).toNatClampNeg = a * 6 + s := hl_cl (by omega)
  obtain ⟨d, rfl⟩ : ∃ d, D = d + 2 := ⟨D - 2, by omega⟩
  refine isR_e (EX_in mi_X4_rowOf rfl rfl rfl (ls := [some (.inr (.inr (24, 0))), some (.inr (.inr (3, 2))), some (.inr (.inr (18, a))), some (.inl (nI a)), some (.inl (nI s)), none]) rfl) ?_
  rw [e_X4_rowOf_0, zmul_6, nI_add, if_pos hin, hcl]
  rcases hC.1 _ hi with h0 | ⟨h1, a', s', ha', hs', he, hr⟩
  · rw [if_pos h0, x3_setSource L xs O (D := d + 1) (by omega) 2 s (by omega)]
    simp only [xr_n, Nat.reduceAdd, Nat.add_zero]
    rw [e_X4_rowOf_29, if_pos hin, hcl, Nat.zero_add]
    have g10 := (hL 10 s (decide_eq_true (show s < 6 by omega))).trans ((hV.2.2.2.2.2.2.2.2.2.2.2.2.2.1) s hs).1
    have g11 := hL 11 s (decide_eq_true (show s < 6 by omega))
    have g12 := hL 12 s (decide_eq_true (show s < 6 by omega))
    have l11 := (hV.2.2.2.2.2.2.2.2.2.2.2.2.2.2.1) s hs
    rw [g10, g11, g12]
    generalize hM1 : mput (mput (mput (mput M 25 0 0 (nI (vN V 10 s))) 25 0 1 1) 25 0 2 (V 11 s)) 25 0 3 (V 12 s) = M1
    have f1 : Fr sK M M1 := hM1 ▸ Fr_put (Fr_put (Fr_put (Fr_put Fr_refl rfl) rfl) rfl) rfl
    obtain ⟨f1', c1⟩ := CQ_fr ⟨fr, hV, hL, h6, h6', hA, hC⟩ f1
    obtain ⟨M2, q2, f2, r2⟩ := x4_spread L xs O (D := d + 1) (by omega) hV 2 a (a * 6 + s) M1 c1.2.1 (c1.2.2.2.2.1 a ha) (x := vN V 10 s) (up := 1) (lv := V 11 s) (pt := V 12 s) ((hV.2.2.2.2.2.2.2.2.2.2.2.2.2.1) s hs).2
      (by rw [← hM1, mp_k (by omega), mp_k (by omega), mp_k (by omega), mp_s]) (by rw [← hM1, mp_k (by omega), mp_k (by omega), mp_s]) (by rw [← hM1, mp_k (by omega), mp_s]) (by rw [← hM1, mp_s]) (by rw [l11.1]; exact nn_n _ (by omega))
    rw [q2]
    simp only [xr_n, Nat.reduceAdd, Nat.add_zero]
    rw [e_X4_rowOf_42, if_pos hin, hcl, e_X4_rowOf_50, if_pos hin, hcl, Nat.zero_add]
    have f2' : Fr sC M1 M2 := Fr_mono (fun _ _ _ => sC_sp (Or.inl rfl)) f2
    have f3 : Fr sC M0 (mput M2 28 0 (a * 6 + s) 1) := Fr_put (Fr_trans f1' f2') rfl
    have r3 : ∀ y, y < 40 → mput M2 28 0 (a * 6 + s) 1 27 (a * 6 + s) y = srcF V (As a) n s y := fun y hy => by
      rw [mp_g (by omega)]
      exact r2 y hy
    refine isR_i ⟨⟨f3, CW_fr c1 (Fr_put f2' rfl) ⟨fun i hi' => ?_, ?_⟩⟩, r3⟩
    · by_cases e : i = a * 6 + s
      · rw [e, mp_s]
        exact Or.inr ⟨rfl, a, s, ha, hs, rfl, r3⟩
      · have k28 : M2 28 0 i = M1 28 0 i := f2 28 0 i rfl
        have k27 : ∀ y, M2 27 i y = M1 27 i y := fun y => f2 27 i y (by
          unfold sSp
          rw [beq_n e]
          rfl)
        rw [mp_k e, k28]
        rcases c1.2.2.2.2.2.1 i hi' with h1 | ⟨h1, a', s', ha', hs', he, hr⟩
        · exact Or.inl h1
        · refine Or.inr ⟨h1, a', s', ha', hs', he, fun y hy => ?_⟩
          rw [mp_g (by omega), k27]
          exact hr y hy
    · rw [mp_g (by omega), mp_g (by omega), f2 0 0 12 rfl, f2 0 0 13 rfl]
      rcases c1.2.2.2.2.2.2 with h1 | ⟨a', t, ha', ht, h1, h2, h3⟩
      · exact Or.inl h1
      · refine Or.inr ⟨a', t, ha', ht, h1, h2, fun b hb => ?_⟩
        rw [mp_g (by omega), f2 33 0 b rfl]
        exact h3 b hb
  · obtain rfl : s' = s := by omega
    obtain rfl : a' = a := by omega
    rw [h1, if_neg (by decide), e_X4_rowOf_50, if_pos hin, hcl, Nat.zero_add]
    exact isR_i ⟨⟨fr, hV, hL, h6, h6', hA, hC⟩, hr⟩
theorem x6_rowOf {M0 : Mem} {V : Vw} {As : Nat → Nat → Int32} {n nh ns nw na : Nat} {D : Nat} (hD : 6 ≤ D) (a s : Nat) (ha : a < na) (hs : s < ns) (M : Mem) (hM : CQ M0 V As n nh ns nw na M) :
    isR (EX L xs (D) q_X6_rowOf [.inr (.inr (0, 0)), .inl (nI a), .inl (nI s)] M O) O 27 (a * 6 + s) (fun M' => CQ M0 V As n nh ns nw na M' ∧ ∀ y, y < 40 → M' 27 (a * 6 + s) y = srcF V (As a) n s y) := by
  have h6 := hM.2.2.2.2.1
  obtain ⟨d, rfl⟩ : ∃ d, D = d + 2 := ⟨D - 2, by omega⟩
  refine isR_e (EX_in mi_X6_rowOf rfl rfl rfl (ls := [some (.inr (.inr (0, 0))), some (.inl (nI a)), some (.inl (nI s))]) rfl) ?_
  obtain ⟨M1, q1, h1⟩ := x4_rowOf L xs O (D := d + 1) (by omega) a s ha hs M hM
  rw [e_X6_rowOf_0, if_pos (in_6 (by omega)), hl_cl (by omega), Nat.zero_add, q1]
  simp only [xr_v, Nat.reduceAdd, Nat.add_zero]
  rw [e_X6_rowOf_19]
  exact isR_i h1
theorem x1_snd {D : Nat} (hD : 3 ≤ D) (i0 s h : Nat) (hs : s < 6) {V : Vw} (M : Mem) (hL : CL M i0 V) : EX L xs (D) q_X1_soundsIn [.inr (.inr (3, i0)), .inl (nI s), .inl (nI h)] M O = (some (.inl (some (.inl (b2i (sndF V s h)))), M, O, 0, 0) : Res) := by
  rw [x1_soundsIn L xs O hD i0 s h hs M, hL 13 s (decide_eq_true hs)]
  unfold sndF
  by_cases c : (V 13 s >>> (nI h &&& 31)) &&& 1 = 1
  · rw [if_pos c, decide_eq_true c, b2i_t]
  · rw [if_neg c, decide_eq_false c, b2i_f]
theorem x6_bit {D : Nat} (hD : 2 ≤ D) (b : Int32) (i : Nat) (M : Mem) : EX L xs (D) q_X6_hasBit [.inl (b), .inl (nI i)] M O = (some (.inl (some (.inl (b2i (bitB b i)))), M, O, 0, 0) : Res) := by
  rw [x6_hasBit L xs O hD b (nI i) M]
  unfold bitB
  by_cases c : (b >>> (nI i &&& 31)) &&& 1 = 1
  · rw [if_pos c, decide_eq_true c, b2i_t]
  · rw [if_neg c, decide_eq_false c, b2i_f]
theorem x1_need {D : Nat} (hD : 3 ≤ D) (i0 k h : Nat) (hk : k < 8) (hh : h < 24) {V : Vw} (M : Mem) (hL : CL M i0 V) : EX L xs (D) q_X1_needOf [.inr (.inr (3, i0)), .inl (nI k), .inl (nI h)] M O = (some (.inl (some (.inl (needF (V 8) (V 9) k h))), M, O, 0, 0) : Res) := by
  rw [x1_needOf L xs O hD i0 k h hk hh M]
  unfold needF
  rw [hL 8 k (decide_eq_true hk), humF_congr (fun j hj => hL 9 j (decide_eq_true hj))]
theorem li_l {M0 : Mem} {V : Vw} {As : Nat → Nat → Int32} {n nh ns nw na : Nat} (d : Nat) (hd : 6 ≤ d + 1) (y a h : Nat) (hy : y < n) (ha : a < na) : ∀ r fuel k s M, s + r = ns → r ≤ fuel → CQ M0 V As n nh ns nw na M →
    isI (BK L xs (EX L xs (d + 1)) mi_X6_loudIn (RN L xs (d) mi_X6_loudIn fuel) (k + 100) 6 [some (.inr (.inr (0, 0))), some (.inl (nI y)), some (.inl (nI a)), some (.inl (nI h)), some (.inl (mostF V (As a) n h y s)), some (.inl (nI s))] [] M O none 0 0) O (mostF V (As a) n h y ns) (CQ M0 V As n nh ns nw na) := by
  intro r
  induction r with
  | zero =>
    intro fuel k s M hj hf hM
    obtain rfl : s = ns := by omega
    have v7 : s ≤ 6 := hM.2.1.2.2.2.2.2.2.2.1
    have g8 := (hM.2.2.1 3 8 rfl).trans hM.2.1.2.2.1
    simp (disch := first | omega | rfl | decide) only [e_X6_loudIn_6, xr_v, xr_n, hl_of, hl_cl, hl_toInt, hl_le, hl_lt, hl_eq, nI_add, hl_sub, pk_mul, hl_div, if_pos, if_neg, ↓reduceIte, Nat.reduceAdd, Nat.reduceSub, Nat.reduceMul, Nat.add_zero, Nat.zero_add, mp_s, mp_k, mp_i, mp_g, mr_s, mr_i, mr_g, zlt_0, zlt_1, zlt_2, zlt_3, zlt_4, zlt_5, zlt_6, zlt_8, zlt_12, zlt_15, zlt_20, zlt_24, zlt_36, zlt_40, zlt_48, zlt_80, zlt_97, zlt_120, zlt_256, zlt_600, zlt_99999999, zadd_1, zadd_2, zadd_5, zadd_6, zadd_8, zadd_20, zadd_24, zeq_0, zeq_1, zeq_2, zeq_3, zeq_4, zeq_5, zeq_6, zeq_7, zeq_8, zeq_13, zeq_14, zeq_20, zeq_32, zeq_59, zeq_60, zeq_80, zmul_2, zmul_4, zmul_6, zmul_8, zmul_10, zmul_24, zsub_1, zsub_2, zsub_10, zsub_48, zsub_97, zle_0, zle_1, zle_2, zle_6, zle_11, zle_200, zle_600, zle_100000000, ylt_0, ylt_1, ylt_2, ylt_3, ylt_6, ylt_9, ylt_20, ylt_24, ylt_57, ylt_60, ylt_99, ylt_120, ylt_122, ylt_999, ylt_9999, yle_0, yle_2, yle_4, yle_5, yle_6, yle_7, yle_8, yle_10, yle_12, yle_13, yle_15, yle_16, yle_20, yle_24, yle_40, yle_60, yle_64, yle_80, yadd_1, yadd_22, ymul_2, ymul_4, ymul_6, ymul_8, ymul_10, ymul_24, ymul_27, ymul_100, ysub_1, ysub_24, zdiv_2, zdiv_4, zdiv_24, g8]
    exact isI_i hM
  | succ r ih =>
    intro fuel k s M hj hf hM
    have v7 : ns ≤ 6 := hM.2.1.2.2.2.2.2.2.2.1
    have v5 : n ≤ 40 := hM.2.1.2.2.2.2.2.1
    obtain ⟨f, rfl⟩ : ∃ f, fuel = f + 1 := ⟨fuel - 1, by omega⟩
    have g8 := (hM.2.2.1 3 8 rfl).trans hM.2.1.2.2.1
    have q1 := x1_snd L xs O (D := d + 1) (by omega) 2 s h (by omega) M hM.2.2.1
    have hm : mostF V (As a) n h y (s + 1) = if sndF V s h = true then imax (mostF V (As a) n h y s) (srcF V (As a) n s y) else mostF V (As a) n h y s := rfl
    cases c : sndF V s h with
    | false =>
      have ih' := ih f 2900 (s + 1) M (by omega) (by omega) hM
      rw [c, b2i_f] at q1
      rw [hm, c, if_neg Bool.false_ne_true] at ih'
      simp (disch := first | omega | rfl | decide) only [e_X6_loudIn_6, e_X6_loudIn_28, e_X6_loudIn_47, xr_v, xr_n, hl_of, hl_cl, hl_toInt, hl_le, hl_lt, hl_eq, nI_add, hl_sub, pk_mul, hl_div, if_pos, if_neg, ↓reduceIte, Nat.reduceAdd, Nat.reduceSub, Nat.reduceMul, Nat.add_zero, Nat.zero_add, mp_s, mp_k, mp_i, mp_g, mr_s, mr_i, mr_g, zlt_0, zlt_1, zlt_2, zlt_3, zlt_4, zlt_5, zlt_6, zlt_8, zlt_12, zlt_15, zlt_20, zlt_24, zlt_36, zlt_40, zlt_48, zlt_80, zlt_97, zlt_120, zlt_256, zlt_600, zlt_99999999, zadd_1, zadd_2, zadd_5, zadd_6, zadd_8, zadd_20, zadd_24, zeq_0, zeq_1, zeq_2, zeq_3, zeq_4, zeq_5, zeq_6, zeq_7, zeq_8, zeq_13, zeq_14, zeq_20, zeq_32, zeq_59, zeq_60, zeq_80, zmul_2, zmul_4, zmul_6, zmul_8, zmul_10, zmul_24, zsub_1, zsub_2, zsub_10, zsub_48, zsub_97, zle_0, zle_1, zle_2, zle_6, zle_11, zle_200, zle_600, zle_100000000, ylt_0, ylt_1, ylt_2, ylt_3, ylt_6, ylt_9, ylt_20, ylt_24, ylt_57, ylt_60, ylt_99, ylt_120, ylt_122, ylt_999, ylt_9999, yle_0, yle_2, yle_4, yle_5, yle_6, yle_7, yle_8, yle_10, yle_12, yle_13, yle_15, yle_16, yle_20, yle_24, yle_40, yle_60, yle_64, yle_80, yadd_1, yadd_22, ymul_2, ymul_4, ymul_6, ymul_8, ymul_10, ymul_24, ymul_27, ymul_100, ysub_1, ysub_24, zdiv_2, zdiv_4, zdiv_24, g8, q1]
      refine isI_e (RN_s _ _ _ _ _ _ _ _ _ _ _ _) ?_
      exact ih'
    | true =>
      rw [c, b2i_t] at q1
      obtain ⟨M1, q2, h1, r1⟩ := x6_rowOf L xs O (D := d + 1) (by omega) a s ha (by omega) M hM
      have ih' := ih f 2900 (s + 1) M1 (by omega) (by omega) h1
      rw [hm, c, if_pos rfl] at ih'
      have g27 := r1 y (by omega)
      simp (disch := first | omega | rfl | decide) only [e_X6_loudIn_6, e_X6_loudIn_28, e_X6_loudIn_40, e_X6_loudIn_45, e_X6_loudIn_47, xr_v, xr_n, hl_of, hl_cl, hl_toInt, hl_le, hl_lt, hl_eq, nI_add, hl_sub, pk_mul, hl_div, if_pos, if_neg, ↓reduceIte, Nat.reduceAdd, Nat.reduceSub, Nat.reduceMul, Nat.add_zero, Nat.zero_add, mp_s, mp_k, mp_i, mp_g, mr_s, mr_i, mr_g, zlt_0, zlt_1, zlt_2, zlt_3, zlt_4, zlt_5, zlt_6, zlt_8, zlt_12, zlt_15, zlt_20, zlt_24, zlt_36, zlt_40, zlt_48, zlt_80, zlt_97, zlt_120, zlt_256, zlt_600, zlt_99999999, zadd_1, zadd_2, zadd_5, zadd_6, zadd_8, zadd_20, zadd_24, zeq_0, zeq_1, zeq_2, zeq_3, zeq_4, zeq_5, zeq_6, zeq_7, zeq_8, zeq_13, zeq_14, zeq_20, zeq_32, zeq_59, zeq_60, zeq_80, zmul_2, zmul_4, zmul_6, zmul_8, zmul_10, zmul_24, zsub_1, zsub_2, zsub_10, zsub_48, zsub_97, zle_0, zle_1, zle_2, zle_6, zle_11, zle_200, zle_600, zle_100000000, ylt_0, ylt_1, ylt_2, ylt_3, ylt_6, ylt_9, ylt_20, ylt_24, ylt_57, ylt_60, ylt_99, ylt_120, ylt_122, ylt_999, ylt_9999, yle_0, yle_2, yle_4, yle_5, yle_6, yle_7, yle_8, yle_10, yle_12, yle_13, yle_15, yle_16, yle_20, yle_24, yle_40, yle_60, yle_64, yle_80, yadd_1, yadd_22, ymul_2, ymul_4, ymul_6, ymul_8, ymul_10, ymul_24, ymul_27, ymul_100, ysub_1, ysub_24, zdiv_2, zdiv_4, zdiv_24, g8, q1, q2, g27]
      refine isI_e (RN_s _ _ _ _ _ _ _ _ _ _ _ _) ?_
      exact ih'
theorem x6_loudIn {M0 : Mem} {V : Vw} {As : Nat → Nat → Int32} {n nh ns nw na : Nat} {D : Nat} (hD : 7 ≤ D) (y a h : Nat) (hy : y < n) (ha : a < na) (M : Mem) (hM : CQ M0 V As n nh ns nw na M) : isI (EX L xs (D) q_X6_loudIn [.inr (.inr (0, 0)), .inl (nI y), .inl (nI a), .inl (nI h)] M O) O (mostF V (As a) n h y ns) (CQ M0 V As n nh ns nw na) := by
  have v7 : ns ≤ 6 := hM.2.1.2.2.2.2.2.2.2.1
  obtain ⟨d, rfl⟩ : ∃ d, D = d + 2 := ⟨D - 2, by omega⟩
  refine isI_e (EX_in mi_X6_loudIn rfl rfl rfl (ls := [some (.inr (.inr (0, 0))), some (.inl (nI y)), some (.inl (nI a)), some (.inl (nI h)), none, none]) rfl) ?_
  rw [e_X6_loudIn_0]
  exact li_l L xs O d (by omega) y a h hy ha ns FUEL _ 0 M (by omega) (Nat.le_of_lt (FU (by omega))) hM
end
