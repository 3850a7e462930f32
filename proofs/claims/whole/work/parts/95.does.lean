/-! WORKS done. -/
theorem pig : ∀ w m (f : Nat → Nat), (∀ i, i < m → f i < w) → (∀ i j, i < m → j < m → f i = f j → i = j) → m ≤ w := by
  intro w
  induction w with
  | zero =>
    intro m f h _
    cases m with
    | zero => omega
    | succ m => exact absurd (h m (by omega)) (by omega)
  | succ w ih =>
    intro m f h hi
    by_cases c : ∃ i, i < m ∧ f i = w
    · obtain ⟨i0, hi0, e0⟩ := c
      obtain ⟨m', rfl⟩ : ∃ m', m = m' + 1 := ⟨m - 1, by omega⟩
      have := ih m' (fun j => if j = i0 then f m' else f j) (fun j hj => ?_) (fun i j h1 h2 e => ?_)
      · omega
      · show (if j = i0 then f m' else f j) < w
        by_cases c2 : j = i0
        · rw [if_pos c2]
          have h1 := h m' (by omega)
          have h2 : f m' ≠ w := fun e => by
            have := hi m' i0 (by omega) hi0 (e.trans e0.symm)
            omega
          omega
        · rw [if_neg c2]
          have h1 := h j (by omega)
          have h2 : f j ≠ w := fun e => c2 (hi j i0 (by omega) hi0 (e.trans e0.symm))
          omega
      · have e' : (if i = i0 then f m' else f i) = (if j = i0 then f m' else f j) := e
        by_cases c2 : i = i0
        · by_cases c3 : j = i0
          · omega
          · rw [if_pos c2, if_neg c3] at e'
            have := hi m' j (by omega) (by omega) e'
            omega
        · by_cases c3 : j = i0
          · rw [if_neg c2, if_pos c3] at e'
            have := hi i m' (by omega) (by omega) e'
            omega
          · rw [if_neg c2, if_neg c3] at e'
            exact hi i j (by omega) (by omega) e'
    · have := ih m f (fun i hi' => by
        have h1 := h i hi'
        have h2 : f i ≠ w := fun e => c ⟨i, hi', e⟩
        omega) hi
      omega
theorem bt_db (f : Nat → Nat) : ∀ m, (∀ i, i < m → f i < 32) → ∀ k, k < 32 → bt (dbF f m) k = isD f k m := by
  intro m
  induction m with
  | zero => intro _ k _; exact b_0 k
  | succ m ih =>
    intro hf k hk
    unfold dbF isD
    rw [b_or, ih (fun i hi => hf i (by omega)) k hk, b_one _ (hf m (by omega)) hk]
    congr 1
    by_cases e : f m = k
    · rw [decide_eq_true e, decide_eq_true e.symm]
    · rw [decide_eq_false e, decide_eq_false (fun h => e h.symm)]
theorem perfL_congr {T : Vw} {f g : Nat → Nat} : ∀ m, (∀ i, i < m → f i = g i) → perfL T f m = perfL T g m := by
  intro m
  induction m with
  | zero => intro _; rfl
  | succ m ih =>
    intro h
    show perfV (perfL T f m) (f m) = perfV (perfL T g m) (g m)
    rw [ih (fun i hi => h i (by omega)), h m (by omega)]
def sU (g _i k : Nat) : Bool := decide (g = 28 ∨ (g = 0 ∧ k = 12))
section
variable (L : Nat) (xs : Nat → Int32) (O : Int64)
theorem x4_unhear {D : Nat} (hD : 2 ≤ D) (M : Mem) : isV (EX L xs (D) q_X4_unhear [.inr (.inr (24, 0))] M O) O (fun M' => Fr (sRow 28 0) M M' ∧ ∀ i, i < 36 → M' 28 0 i = 0) := by
  obtain ⟨d, rfl⟩ : ∃ d, D = d + 2 := ⟨D - 2, by omega⟩
  refine isV_e (EX_in mi_X4_unhear rfl rfl rfl (ls := [some (.inr (.inr (24, 0))), none]) rfl) ?_
  rw [e_X4_unhear_0]
  refine loopA L xs O (P := fun r => isV r O _) (fun j ls M' => ls = [some (.inr (.inr (24, 0))), some (.inl (nI j))] ∧ Fr (sRow 28 0) M M' ∧ ∀ i, i < j → M' 28 0 i = 0) 36 100 (by omega) ?_ ?_ (Nat.le_of_lt (FU (by omega))) ⟨rfl, Fr_refl, fun i hi => absurd hi (by omega)⟩
  · rintro f k j _ M' hj ⟨rfl, fr, h⟩ ih
    simp (disch := first | omega | rfl | decide) only [e_X4_unhear_0, e_X4_unhear_2, xr_v, xr_n, hl_of, hl_cl, hl_toInt, hl_le, hl_lt, hl_eq, nI_add, hl_sub, pk_mul, hl_div, if_pos, if_neg, ↓reduceIte, Nat.reduceAdd, Nat.reduceSub, Nat.reduceMul, Nat.add_zero, Nat.zero_add, mp_s, mp_k, mp_i, mp_g, mr_s, mr_i, mr_g, zlt_0, zlt_1, zlt_2, zlt_3, zlt_4, zlt_5, zlt_6, zlt_8, zlt_12, zlt_15, zlt_20, zlt_24, zlt_36, zlt_40, zlt_48, zlt_80, zlt_97, zlt_120, zlt_256, zlt_600, zlt_99999999, zadd_1, zadd_2, zadd_5, zadd_6, zadd_8, zadd_20, zadd_24, zeq_0, zeq_1, zeq_2, zeq_3, zeq_4, zeq_5, zeq_6, zeq_7, zeq_8, zeq_13, zeq_14, zeq_20, zeq_32, zeq_59, zeq_60, zeq_80, zmul_2, zmul_4, zmul_6, zmul_8, zmul_10, zmul_24, zsub_1, zsub_2, zsub_10, zsub_48, zsub_97, zle_0, zle_1, zle_2, zle_6, zle_11, zle_200, zle_600, zle_100000000, ylt_0, ylt_1, ylt_2, ylt_3, ylt_6, ylt_9, ylt_20, ylt_24, ylt_57, ylt_60, ylt_99, ylt_120, ylt_122, ylt_999, ylt_9999, yle_0, yle_2, yle_4, yle_5, yle_6, yle_7, yle_8, yle_10, yle_12, yle_13, yle_15, yle_16, yle_20, yle_24, yle_40, yle_60, yle_64, yle_80, yadd_1, yadd_22, ymul_2, ymul_4, ymul_6, ymul_8, ymul_10, ymul_24, ymul_27, ymul_100, ysub_1, ysub_24, zdiv_2, zdiv_4, zdiv_24]
    refine ih _ _ ⟨rfl, Fr_put fr (sRow_s _ _ _), fun i hi => ?_⟩
    by_cases e : i = j
    · rw [e, mp_s]
    · rw [mp_k e]
      exact h i (by omega)
  · rintro f k _ M' ⟨rfl, fr, h⟩
    simp (disch := first | omega | rfl | decide) only [e_X4_unhear_0, e_X4_unhear_2, xr_v, xr_n, hl_of, hl_cl, hl_toInt, hl_le, hl_lt, hl_eq, nI_add, hl_sub, pk_mul, hl_div, if_pos, if_neg, ↓reduceIte, Nat.reduceAdd, Nat.reduceSub, Nat.reduceMul, Nat.add_zero, Nat.zero_add, mp_s, mp_k, mp_i, mp_g, mr_s, mr_i, mr_g, zlt_0, zlt_1, zlt_2, zlt_3, zlt_4, zlt_5, zlt_6, zlt_8, zlt_12, zlt_15, zlt_20, zlt_24, zlt_36, zlt_40, zlt_48, zlt_80, zlt_97, zlt_120, zlt_256, zlt_600, zlt_99999999, zadd_1, zadd_2, zadd_5, zadd_6, zadd_8, zadd_20, zadd_24, zeq_0, zeq_1, zeq_2, zeq_3, zeq_4, zeq_5, zeq_6, zeq_7, zeq_8, zeq_13, zeq_14, zeq_20, zeq_32, zeq_59, zeq_60, zeq_80, zmul_2, zmul_4, zmul_6, zmul_8, zmul_10, zmul_24, zsub_1, zsub_2, zsub_10, zsub_48, zsub_97, zle_0, zle_1, zle_2, zle_6, zle_11, zle_200, zle_600, zle_100000000, ylt_0, ylt_1, ylt_2, ylt_3, ylt_6, ylt_9, ylt_20, ylt_24, ylt_57, ylt_60, ylt_99, ylt_120, ylt_122, ylt_999, ylt_9999, yle_0, yle_2, yle_4, yle_5, yle_6, yle_7, yle_8, yle_10, yle_12, yle_13, yle_15, yle_16, yle_20, yle_24, yle_40, yle_60, yle_64, yle_80, yadd_1, yadd_22, ymul_2, ymul_4, ymul_6, ymul_8, ymul_10, ymul_24, ymul_27, ymul_100, ysub_1, ysub_24, zdiv_2, zdiv_4, zdiv_24]
    exact isV_i ⟨fr, h⟩
theorem x6_unhear {D : Nat} (hD : 3 ≤ D) (M : Mem) : isV (EX L xs (D) q_X6_unhear [.inr (.inr (0, 0))] M O) O (fun M' => Fr sU M M' ∧ CC0 M') := by
  obtain ⟨d, rfl⟩ : ∃ d, D = d + 2 := ⟨D - 2, by omega⟩
  refine isV_e (EX_in mi_X6_unhear rfl rfl rfl (ls := [some (.inr (.inr (0, 0)))]) rfl) ?_
  obtain ⟨M1, q1, f1, r1⟩ := x4_unhear L xs O (D := d + 1) (by omega) M
  simp (disch := first | omega | rfl | decide) only [e_X6_unhear_0, e_X6_unhear_7, xr_v, xr_n, hl_of, hl_cl, hl_toInt, hl_le, hl_lt, hl_eq, nI_add, hl_sub, pk_mul, hl_div, if_pos, if_neg, ↓reduceIte, Nat.reduceAdd, Nat.reduceSub, Nat.reduceMul, Nat.add_zero, Nat.zero_add, mp_s, mp_k, mp_i, mp_g, mr_s, mr_i, mr_g, zlt_0, zlt_1, zlt_2, zlt_3, zlt_4, zlt_5, zlt_6, zlt_8, zlt_12, zlt_15, zlt_20, zlt_24, zlt_36, zlt_40, zlt_48, zlt_80, zlt_97, zlt_120, zlt_256, zlt_600, zlt_99999999, zadd_1, zadd_2, zadd_5, zadd_6, zadd_8, zadd_20, zadd_24, zeq_0, zeq_1, zeq_2, zeq_3, zeq_4, zeq_5, zeq_6, zeq_7, zeq_8, zeq_13, zeq_14, zeq_20, zeq_32, zeq_59, zeq_60, zeq_80, zmul_2, zmul_4, zmul_6, zmul_8, zmul_10, zmul_24, zsub_1, zsub_2, zsub_10, zsub_48, zsub_97, zle_0, zle_1, zle_2, zle_6, zle_11, zle_200, zle_600, zle_100000000, ylt_0, ylt_1, ylt_2, ylt_3, ylt_6, ylt_9, ylt_20, ylt_24, ylt_57, ylt_60, ylt_99, ylt_120, ylt_122, ylt_999, ylt_9999, yle_0, yle_2, yle_4, yle_5, yle_6, yle_7, yle_8, yle_10, yle_12, yle_13, yle_15, yle_16, yle_20, yle_24, yle_40, yle_60, yle_64, yle_80, yadd_1, yadd_22, ymul_2, ymul_4, ymul_6, ymul_8, ymul_10, ymul_24, ymul_27, ymul_100, ysub_1, ysub_24, zdiv_2, zdiv_4, zdiv_24, q1]
  refine isV_i ⟨Fr_put (Fr_mono (fun g i k h => ?_) f1) rfl, fun i hi => ?_, mp_s⟩
  · have := of_decide_eq_false h
    exact sRow_g (by omega)
  · rw [mp_g (by omega)]
    exact r1 i hi
variable {T : Vw} {As : Nat → Nat → Int32} {n nh ns nw na : Nat} {md : Md} {ia ni nt : Nat} {mds : Nat → Md} {M : Mem}
theorem n_does {d : Nat} (hD : 11 ≤ d) (hC : CORE T As n nh ns nw na md ia ni nt mds M) (k0 : Nat) (hk : k0 < nw) : Stq L xs O (d + 1 + 1 + 1) q_L_does q_X7_does [.inl (nI k0)] M := by
  have hM : CQ M (perfL T md.1 md.2.1) As n nh ns nw na M := ⟨Fr_refl, hC.2.1⟩
  have hV := hM.2.1
  have v5 : n ≤ 40 := hV.2.2.2.2.2.1
  have v6 : nh ≤ 8 := hV.2.2.2.2.2.2.1
  have v7 : ns ≤ 6 := hV.2.2.2.2.2.2.2.1
  have v8 : nw ≤ 8 := hV.2.2.2.2.2.2.2.2.1
  have h6 : na ≤ 6 := hM.2.2.2.2.1
  have g0 := (hM.2.2.1 3 0 rfl).trans hV.1
  have g4 := (hM.2.2.1 3 4 rfl).trans hV.2.1
  have g8 := (hM.2.2.1 3 8 rfl).trans hV.2.2.1
  have g13 := (hM.2.2.1 3 13 rfl).trans hV.2.2.2.1
  have g6 := hM.2.2.2.1
  obtain ⟨hOK, hCm, hMm⟩ := hC.2.2.2.2.1
  have hO : CO M md.1 md.2.1 nw := ⟨hCm.1, hOK.1, fun i hi => ⟨hCm.2.1 i hi, hOK.2.1 i hi⟩⟩
  have hO1 : MO M md.1 md.2.1 nw := hC.1.2.2.2.1
  have q1 := x6_needElement_in L xs O (D := d + 1) (by omega) nw k0 (by omega) M hk
  have q2 := x2_doneBits L xs O (D := d + 1) (by omega) M hO
  have q3 := x6_bit L xs O (D := d + 1) (by omega) (dbF md.1 md.2.1) k0 M
  rw [bitB_bt _ (by omega), bt_db md.1 md.2.1 (fun i hi => by have := hOK.2.1 i hi; omega) k0 (by omega)] at q3
  cases c : isD md.1 k0 md.2.1 with
  | true =>
    rw [c, b2i_t] at q3
    refine stp_q L xs O (E := d + 1 + 1) (yc := q_X6_does) (v := 0) hC ?_ (fun M1 h => w_does_v L xs O (nI k0) _ M M1 h) (fun M1 O1 hB => ?_)
    · refine isI_e (EX_in mi_X6_does rfl rfl rfl (ls := [some (.inr (.inr (0, 0))), some (.inl (nI k0))]) rfl) ?_
      simp (disch := first | omega | rfl | decide) only [e_X6_does_0, e_X6_does_12, e_X6_does_19, e_X6_does_23, e_X6_does_36, e_X6_does_44, e_X6_does_48, xr_v, xr_n, hl_of, hl_cl, hl_toInt, hl_le, hl_lt, hl_eq, nI_add, hl_sub, pk_mul, hl_div, if_pos, if_neg, ↓reduceIte, Nat.reduceAdd, Nat.reduceSub, Nat.reduceMul, Nat.add_zero, Nat.zero_add, mp_s, mp_k, mp_i, mp_g, mr_s, mr_i, mr_g, zlt_0, zlt_1, zlt_2, zlt_3, zlt_4, zlt_5, zlt_6, zlt_8, zlt_12, zlt_15, zlt_20, zlt_24, zlt_36, zlt_40, zlt_48, zlt_80, zlt_97, zlt_120, zlt_256, zlt_600, zlt_99999999, zadd_1, zadd_2, zadd_5, zadd_6, zadd_8, zadd_20, zadd_24, zeq_0, zeq_1, zeq_2, zeq_3, zeq_4, zeq_5, zeq_6, zeq_7, zeq_8, zeq_13, zeq_14, zeq_20, zeq_32, zeq_59, zeq_60, zeq_80, zmul_2, zmul_4, zmul_6, zmul_8, zmul_10, zmul_24, zsub_1, zsub_2, zsub_10, zsub_48, zsub_97, zle_0, zle_1, zle_2, zle_6, zle_11, zle_200, zle_600, zle_100000000, ylt_0, ylt_1, ylt_2, ylt_3, ylt_6, ylt_9, ylt_20, ylt_24, ylt_57, ylt_60, ylt_99, ylt_120, ylt_122, ylt_999, ylt_9999, yle_0, yle_2, yle_4, yle_5, yle_6, yle_7, yle_8, yle_10, yle_12, yle_13, yle_15, yle_16, yle_20, yle_24, yle_40, yle_60, yle_64, yle_80, yadd_1, yadd_22, ymul_2, ymul_4, ymul_6, ymul_8, ymul_10, ymul_24, ymul_27, ymul_100, ysub_1, ysub_24, zdiv_2, zdiv_4, zdiv_24, g13, q1, q2, q3]
      exact isI_i hM
    · refine isI_e (EX_in mi_X7_does rfl rfl rfl (ls := [some (.inr (.inr (40, 0))), some (.inl (nI k0))]) rfl) ?_
      obtain ⟨M1', e1, fr1, hB1, t1⟩ := m_start hB
      have z3 := hB1.2.1.2.2.2.1
      have z3' := z3
      rw [← e1, mp_g (by omega)] at z3'
      have b0 := fun w q => x7_bad_0 L xs O1 (D := d + 1 + 1) (by omega) w q M1' t1
      have p1 := x7_in_in L xs O1 (D := d + 1 + 1) (by omega) nw k0 (by omega) M1' hk
      have p2 := x7_isDone L xs O1 (D := d + 1 + 1) (by omega) k0 (by omega) v8 M1' hB1.2.2.2.1
      rw [c, b2i_t] at p2
      simp (disch := first | omega | rfl | decide) only [e_X7_does_0, e_X7_does_19, e_X7_does_27, e_X7_does_32, e_X7_does_40, e_X7_does_43, xr_v, xr_n, hl_of, hl_cl, hl_toInt, hl_le, hl_lt, hl_eq, nI_add, hl_sub, pk_mul, hl_div, if_pos, if_neg, ↓reduceIte, Nat.reduceAdd, Nat.reduceSub, Nat.reduceMul, Nat.add_zero, Nat.zero_add, mp_s, mp_k, mp_i, mp_g, mr_s, mr_i, mr_g, zlt_0, zlt_1, zlt_2, zlt_3, zlt_4, zlt_5, zlt_6, zlt_8, zlt_12, zlt_15, zlt_20, zlt_24, zlt_36, zlt_40, zlt_48, zlt_80, zlt_97, zlt_120, zlt_256, zlt_600, zlt_99999999, zadd_1, zadd_2, zadd_5, zadd_6, zadd_8, zadd_20, zadd_24, zeq_0, zeq_1, zeq_2, zeq_3, zeq_4, zeq_5, zeq_6, zeq_7, zeq_8, zeq_13, zeq_14, zeq_20, zeq_32, zeq_59, zeq_60, zeq_80, zmul_2, zmul_4, zmul_6, zmul_8, zmul_10, zmul_24, zsub_1, zsub_2, zsub_10, zsub_48, zsub_97, zle_0, zle_1, zle_2, zle_6, zle_11, zle_200, zle_600, zle_100000000, ylt_0, ylt_1, ylt_2, ylt_3, ylt_6, ylt_9, ylt_20, ylt_24, ylt_57, ylt_60, ylt_99, ylt_120, ylt_122, ylt_999, ylt_9999, yle_0, yle_2, yle_4, yle_5, yle_6, yle_7, yle_8, yle_10, yle_12, yle_13, yle_15, yle_16, yle_20, yle_24, yle_40, yle_60, yle_64, yle_80, yadd_1, yadd_22, ymul_2, ymul_4, ymul_6, ymul_8, ymul_10, ymul_24, ymul_27, ymul_100, ysub_1, ysub_24, zdiv_2, zdiv_4, zdiv_24, e1, z3, z3', p1, b0, p2]
      exact isI_i ⟨fr1, t1⟩
  | false =>
    rw [c, b2i_f] at q3
    have hnew : ∀ i, i < md.2.1 → md.1 i ≠ k0 := fun i hi e => by
      have := (isD_iff md.1 k0 md.2.1).mpr ⟨i, hi, e⟩
      rw [c] at this
      cases this
    have hf1 : ∀ i, i < md.2.1 + 1 → (if i = md.2.1 then k0 else md.1 i) < nw := fun i hi => by
      by_cases e : i = md.2.1
      · rw [if_pos e]
        exact hk
      · rw [if_neg e]
        exact hOK.2.1 i (by omega)
    have hf2 : ∀ i j, i < md.2.1 + 1 → j < md.2.1 + 1 → (if i = md.2.1 then k0 else md.1 i) = (if j = md.2.1 then k0 else md.1 j) → i = j := by
      intro i j h1 h2 e
      by_cases c1 : i = md.2.1
      · by_cases c2 : j = md.2.1
        · omega
        · rw [if_pos c1, if_neg c2] at e
          exact absurd e.symm (hnew j (by omega))
      · by_cases c2 : j = md.2.1
        · rw [if_neg c1, if_pos c2] at e
          exact absurd e (hnew i (by omega))
        · rw [if_neg c1, if_neg c2] at e
          exact hOK.2.2.1 i j (by omega) (by omega) e
    have hpig := pig nw (md.2.1 + 1) _ hf1 hf2
    -- the class
    have e20 := hCm.1
    obtain ⟨M1, q4, m1⟩ : ∃ M1, EX L xs (d + 1) q_X2_noteDone [.inr (.inr (20, 0)), .inl (nI k0)] M O = (some (.inl none, M1, O, 0, 0) : Res) ∧ M1 = mput (mput M 21 0 md.2.1 (nI k0)) 20 0 1 (nI (md.2.1 + 1)) := by
      obtain ⟨e, rfl⟩ : ∃ e, d = e + 1 := ⟨d - 1, by omega⟩
      refine ⟨_, (EX_in mi_X2_noteDone rfl rfl rfl (ls := [some (.inr (.inr (20, 0))), some (.inl (nI k0))]) rfl).trans ?_, rfl⟩
      simp (disch := first | omega | rfl | decide) only [e_X2_noteDone_0, e_X2_noteDone_32, xr_v, xr_n, hl_of, hl_cl, hl_toInt, hl_le, hl_lt, hl_eq, nI_add, hl_sub, pk_mul, hl_div, if_pos, if_neg, ↓reduceIte, Nat.reduceAdd, Nat.reduceSub, Nat.reduceMul, Nat.add_zero, Nat.zero_add, mp_s, mp_k, mp_i, mp_g, mr_s, mr_i, mr_g, zlt_0, zlt_1, zlt_2, zlt_3, zlt_4, zlt_5, zlt_6, zlt_8, zlt_12, zlt_15, zlt_20, zlt_24, zlt_36, zlt_40, zlt_48, zlt_80, zlt_97, zlt_120, zlt_256, zlt_600, zlt_99999999, zadd_1, zadd_2, zadd_5, zadd_6, zadd_8, zadd_20, zadd_24, zeq_0, zeq_1, zeq_2, zeq_3, zeq_4, zeq_5, zeq_6, zeq_7, zeq_8, zeq_13, zeq_14, zeq_20, zeq_32, zeq_59, zeq_60, zeq_80, zmul_2, zmul_4, zmul_6, zmul_8, zmul_10, zmul_24, zsub_1, zsub_2, zsub_10, zsub_48, zsub_97, zle_0, zle_1, zle_2, zle_6, zle_11, zle_200, zle_600, zle_100000000, ylt_0, ylt_1, ylt_2, ylt_3, ylt_6, ylt_9, ylt_20, ylt_24, ylt_57, ylt_60, ylt_99, ylt_120, ylt_122, ylt_999, ylt_9999, yle_0, yle_2, yle_4, yle_5, yle_6, yle_7, yle_8, yle_10, yle_12, yle_13, yle_15, yle_16, yle_20, yle_24, yle_40, yle_60, yle_64, yle_80, yadd_1, yadd_22, ymul_2, ymul_4, ymul_6, ymul_8, ymul_10, ymul_24, ymul_27, ymul_100, ysub_1, ysub_24, zdiv_2, zdiv_4, zdiv_24, e20]
    have f1 : Fr (fun g i k => decide (i = 0 ∧ ((g = 21 ∧ k = md.2.1) ∨ (g = 20 ∧ k = 1)))) M M1 := m1 ▸ Fr_put (Fr_put Fr_refl (decide_eq_true (by omega))) (decide_eq_true (by omega))
    have hL1 : CL M1 2 (perfL T md.1 md.2.1) := CL_fr hM.2.2.1 f1 (fun g k hg => decide_eq_false (by omega))
    obtain ⟨M2, q5, f2, l2⟩ := x1_perform L xs O (D := d + 1) (by omega) 2 k0 hV hk M1 hL1
    obtain ⟨M3, q6, f3, c3⟩ := x6_unhear L xs O (D := d + 1) (by omega) M2
    have hclass : EX L xs (d + 1 + 1) q_X6_does [.inr (.inr (0, 0)), .inl (nI k0)] M O = (some (.inl (some (.inl (1))), M3, O, 0, 0) : Res) := by
      refine (EX_in mi_X6_does rfl rfl rfl (ls := [some (.inr (.inr (0, 0))), some (.inl (nI k0))]) rfl).trans ?_
      simp (disch := first | omega | rfl | decide) only [e_X6_does_0, e_X6_does_12, e_X6_does_19, e_X6_does_23, e_X6_does_36, e_X6_does_44, e_X6_does_48, xr_v, xr_n, hl_of, hl_cl, hl_toInt, hl_le, hl_lt, hl_eq, nI_add, hl_sub, pk_mul, hl_div, if_pos, if_neg, ↓reduceIte, Nat.reduceAdd, Nat.reduceSub, Nat.reduceMul, Nat.add_zero, Nat.zero_add, mp_s, mp_k, mp_i, mp_g, mr_s, mr_i, mr_g, zlt_0, zlt_1, zlt_2, zlt_3, zlt_4, zlt_5, zlt_6, zlt_8, zlt_12, zlt_15, zlt_20, zlt_24, zlt_36, zlt_40, zlt_48, zlt_80, zlt_97, zlt_120, zlt_256, zlt_600, zlt_99999999, zadd_1, zadd_2, zadd_5, zadd_6, zadd_8, zadd_20, zadd_24, zeq_0, zeq_1, zeq_2, zeq_3, zeq_4, zeq_5, zeq_6, zeq_7, zeq_8, zeq_13, zeq_14, zeq_20, zeq_32, zeq_59, zeq_60, zeq_80, zmul_2, zmul_4, zmul_6, zmul_8, zmul_10, zmul_24, zsub_1, zsub_2, zsub_10, zsub_48, zsub_97, zle_0, zle_1, zle_2, zle_6, zle_11, zle_200, zle_600, zle_100000000, ylt_0, ylt_1, ylt_2, ylt_3, ylt_6, ylt_9, ylt_20, ylt_24, ylt_57, ylt_60, ylt_99, ylt_120, ylt_122, ylt_999, ylt_9999, yle_0, yle_2, yle_4, yle_5, yle_6, yle_7, yle_8, yle_10, yle_12, yle_13, yle_15, yle_16, yle_20, yle_24, yle_40, yle_60, yle_64, yle_80, yadd_1, yadd_22, ymul_2, ymul_4, ymul_6, ymul_8, ymul_10, ymul_24, ymul_27, ymul_100, ysub_1, ysub_24, zdiv_2, zdiv_4, zdiv_24, g13, q1, q2, q3, q4, q5, q6]
    -- what is as it was
    have a3 : ∀ g i k, ¬ (g = 28 ∨ (g = 0 ∧ k = 12)) → ¬ (3 ≤ g ∧ g ≤ 17 ∧ i = 2) → ¬ (i = 0 ∧ ((g = 21 ∧ k = md.2.1) ∨ (g = 20 ∧ k = 1))) → M3 g i k = M g i k := by
      intro g i k h1 h2 h3
      rw [f3 g i k (decide_eq_false h1)]
      have e2 : sLd 2 g i k = false := by
        by_cases e : i = 2
        · refine sLd_g ?_
          cases e3 : isLand g with
          | false => rfl
          | true => exact absurd ⟨(isLand_le e3).1, (isLand_le e3).2, e⟩ h2
        · exact sLd_i e
      rw [f2 g i k e2, f1 g i k (decide_eq_false h3)]
    have b20 : M3 20 0 1 = nI (md.2.1 + 1) := by
      rw [f3 20 0 1 rfl, f2 20 0 1 rfl, m1, mp_s]
    have b21 : M3 21 0 md.2.1 = nI k0 := by
      rw [f3 21 0 _ rfl, f2 21 0 _ rfl, m1, mp_g (by omega), mp_s]
    have l3 : CL M3 2 (perfV (perfL T md.1 md.2.1) k0) := CL_fr l2 f3 (fun g k hg => decide_eq_false (by have := isLand_le hg; omega))
    -- the reference
    have hmodel : ∀ O1, EX L xs (d + 1 + 1 + 1) q_X7_does [.inr (.inr (40, 0)), .inl (nI k0)] M3 O1 = (some (.inl (some (.inl 1)), mput (mput (mput M3 40 0 0 0) 68 0 md.2.1 (nI k0)) 40 0 29 (nI (md.2.1 + 1)), O1, 0, 0) : Res) := by
      intro O1
      refine (EX_in mi_X7_does rfl rfl rfl (ls := [some (.inr (.inr (40, 0))), some (.inl (nI k0))]) rfl).trans ?_
      have z3 : M3 44 0 3 = nI nw := (a3 44 0 3 (by omega) (by omega) (by omega)).trans hC.1.2.1.2.2.2.1
      have z29 : M3 40 0 29 = nI md.2.1 := (a3 40 0 29 (by omega) (by omega) (by omega)).trans hMm.1
      have t1 : mput M3 40 0 0 0 40 0 0 = 0 := mp_s
      have b0 := fun w q => x7_bad_0 L xs O1 (D := d + 1 + 1) (by omega) w q (mput M3 40 0 0 0) t1
      have p1 := x7_in_in L xs O1 (D := d + 1 + 1) (by omega) nw k0 (by omega) (mput M3 40 0 0 0) hk
      have p2 := x7_isDone L xs O1 (D := d + 1 + 1) (by omega) (f := md.1) (nd := md.2.1) k0 (by omega) v8 (mput M3 40 0 0 0) ⟨by rw [mp_k (by omega)]; exact z29, hOK.1, fun i hi => ⟨by rw [mp_g (by omega), a3 68 0 i (by omega) (by omega) (by omega)]; exact hMm.2.1 i hi, hOK.2.1 i hi⟩⟩
      rw [c, b2i_f] at p2
      have z29' : mput M3 40 0 0 0 40 0 29 = nI md.2.1 := by rw [mp_k (by omega)]; exact z29
      rw [e_X7_does_0, z3, zsub_1 (by omega), p1]
      simp only [xr_v, Nat.reduceAdd, Nat.add_zero]
      rw [e_X7_does_19, if_neg (by decide), e_X7_does_27, b0]
      simp only [xr_v, Nat.reduceAdd, Nat.add_zero]
      rw [e_X7_does_32, if_pos rfl, p2]
      simp only [xr_v, Nat.reduceAdd, Nat.add_zero]
      rw [e_X7_does_40, if_pos rfl, z29', if_pos (in_8 (by omega)), hl_cl (by omega), zadd_1]
    generalize hM4 : mput (mput (mput M3 40 0 0 0) 68 0 md.2.1 (nI k0)) 40 0 29 (nI (md.2.1 + 1)) = M4 at hmodel
    have a4 : ∀ g i k, ¬ (g = 40 ∧ (k = 0 ∨ k = 29)) → ¬ (g = 68 ∧ k = md.2.1) → M4 g i k = M3 g i k := by
      intro g i k h1 h2
      have fr : Fr (fun g _ k => decide ((g = 40 ∧ (k = 0 ∨ k = 29)) ∨ (g = 68 ∧ k = md.2.1))) M3 M4 := hM4 ▸ Fr_put (Fr_put (Fr_put Fr_refl (decide_eq_true (by omega))) (decide_eq_true (by omega))) (decide_eq_true (by omega))
      exact fr g i k (decide_eq_false (by omega))
    have c29 : M4 40 0 29 = nI (md.2.1 + 1) := by rw [← hM4, mp_s]
    have c68 : M4 68 0 md.2.1 = nI k0 := by rw [← hM4, mp_g (by omega), mp_s]
    have c0 : M4 40 0 0 = 0 := by rw [← hM4, mp_k (by omega), mp_g (by omega), mp_s]
    have a34 : ∀ g i k, ¬ (g = 40 ∧ (k = 0 ∨ k = 29)) → ¬ (g = 68 ∧ k = md.2.1) → ¬ (g = 28 ∨ (g = 0 ∧ k = 12)) → ¬ (3 ≤ g ∧ g ≤ 17 ∧ i = 2) → ¬ (i = 0 ∧ ((g = 21 ∧ k = md.2.1) ∨ (g = 20 ∧ k = 1))) → M4 g i k = M g i k := fun g i k h1 h2 h3 h4 h5 => (a4 g i k h1 h2).trans (a3 g i k h3 h4 h5)
    have hOK' : MdOK (fun i => if i = md.2.1 then k0 else md.1 i, md.2.1 + 1, md.2.2) nw := ⟨by show md.2.1 + 1 ≤ 8; omega, hf1, hf2, hOK.2.2.2⟩
    have hCm' : CMd M4 0 (fun i => if i = md.2.1 then k0 else md.1 i, md.2.1 + 1, md.2.2) := by
      refine ⟨?_, fun j hj => ?_, fun k hk => ?_, ?_, fun j hj => ?_⟩
      · rw [a4 20 0 1 (by omega) (by omega)]
        exact b20
      · have hj' : j < md.2.1 + 1 := hj
        show M4 21 0 j = nI (if j = md.2.1 then k0 else md.1 j)
        by_cases e : j = md.2.1
        · rw [if_pos e, e, a4 21 0 _ (by omega) (by omega)]
          exact b21
        · rw [if_neg e, a34 21 0 j (by omega) (by omega) (by omega) (by omega) (by omega)]
          exact hCm.2.1 j (by omega)
      · rw [a34 22 0 k (by omega) (by omega) (by omega) (by omega) (by omega)]
        exact hCm.2.2.1 k hk
      · rw [a34 20 0 4 (by omega) (by omega) (by omega) (by omega) (by omega)]
        exact hCm.2.2.2.1
      · rw [a34 23 0 j (by omega) (by omega) (by omega) (by omega) (by omega)]
        exact hCm.2.2.2.2 j hj
    have hMm' : MMd M4 (fun i => if i = md.2.1 then k0 else md.1 i, md.2.1 + 1, md.2.2) := by
      refine ⟨c29, fun j hj => ?_, fun k hk => ?_, ?_, fun j hj => ?_⟩
      · have hj' : j < md.2.1 + 1 := hj
        show M4 68 0 j = nI (if j = md.2.1 then k0 else md.1 j)
        by_cases e : j = md.2.1
        · rw [if_pos e, e]
          exact c68
        · rw [if_neg e, a34 68 0 j (by omega) (by omega) (by omega) (by omega) (by omega)]
          exact hMm.2.1 j (by omega)
      · rw [a34 69 0 k (by omega) (by omega) (by omega) (by omega) (by omega)]
        exact hMm.2.2.1 k hk
      · rw [a34 40 0 30 (by omega) (by omega) (by omega) (by omega) (by omega)]
        exact hMm.2.2.2.1
      · rw [a34 70 0 j (by omega) (by omega) (by omega) (by omega) (by omega)]
        exact hMm.2.2.2.2 j hj
    have hperf : perfL T (fun i => if i = md.2.1 then k0 else md.1 i) (md.2.1 + 1) = perfV (perfL T md.1 md.2.1) k0 := by
      show perfV (perfL T (fun i => if i = md.2.1 then k0 else md.1 i) md.2.1) (if md.2.1 = md.2.1 then k0 else md.1 md.2.1) = _
      rw [if_pos rfl, perfL_congr (g := md.1) md.2.1 (fun i hi => if_neg (by omega))]
    refine ⟨0, M3, _, 0, 0, w_does_v L xs O (nI k0) 1 M M3 hclass, by omega, by omega, by omega, .inl 1, M4, 0, 0, hmodel _, by omega, by omega, c0, fun _ => rfl, T, As, n, nh, ns, nw, na, (fun i => if i = md.2.1 then k0 else md.1 i, md.2.1 + 1, md.2.2), ia, ni, nt, mds, ?_⟩
    refine ⟨MB_of (MB0_e (MB_0 hC.1) (a34 40 0 26 (by omega) (by omega) (by omega) (by omega) (by omega)) (fun g i k h1 h2 => a34 g i k (by omega) (by omega) (by omega) (by omega) (by omega))) hOK' hMm', ?_, hC.2.2.1, ?_, ⟨hOK', hCm', hMm'⟩, ?_, ?_, ?_, ?_⟩
    · show CW M4 (perfL T (fun i => if i = md.2.1 then k0 else md.1 i) (md.2.1 + 1)) As n nh ns nw na
      rw [hperf]
      refine CW_0 (M := M) (perf_ok hV hk) (fun g k hl => ?_) ⟨fun i hi => ?_, ?_⟩ g6 h6 hM.2.2.2.2.2.1 (a34 0 0 6 (by omega) (by omega) (by omega) (by omega) (by omega)) (fun g i k hg => a34 g i k (by omega) (by omega) (by omega) (by omega) (by omega))
      · have := isLand_le (lk_land hl)
        rw [a4 g 2 k (by omega) (by omega)]
        exact l3 g k hl
      · rw [a4 28 0 i (by omega) (by omega)]
        exact c3.1 i hi
      · rw [a4 0 0 12 (by omega) (by omega)]
        exact c3.2
    · exact LndC_e hC.2.2.2.1 (fun k hk => a34 0 0 k (by omega) (by omega) (by omega) (by omega) (by omega)) (fun g i k h1 h2 h3 => a34 g i k (by omega) (by omega) (by omega) (by omega) (by omega))
    · exact ImgC_e hC.2.2.2.2.2.1 (a34 0 0 9 (by omega) (by omega) (by omega) (by omega) (by omega)) (a34 40 0 31 (by omega) (by omega) (by omega) (by omega) (by omega)) (fun g i k h1 h2 h3 => a34 g i k (by omega) (by omega) (by omega) (by omega) (by omega)) (fun i k => a34 72 i k (by omega) (by omega) (by omega) (by omega) (by omega))
    · exact TapC_e hC.2.2.2.2.2.2.1 (a34 1 0 1 (by omega) (by omega) (by omega) (by omega) (by omega)) (a34 40 0 1 (by omega) (by omega) (by omega) (by omega) (by omega)) (fun i => a34 2 0 i (by omega) (by omega) (by omega) (by omega) (by omega)) (fun i => a34 41 0 i (by omega) (by omega) (by omega) (by omega) (by omega))
    · rw [a34 1 0 5 (by omega) (by omega) (by omega) (by omega) (by omega), a34 40 0 3 (by omega) (by omega) (by omega) (by omega) (by omega)]
      exact hC.2.2.2.2.2.2.2.1
    · intro q hq
      rw [a34 34 0 q (by omega) (by omega) (by omega) (by omega) (by omega), a34 42 0 q (by omega) (by omega) (by omega) (by omega) (by omega)]
      exact hC.2.2.2.2.2.2.2.2 q hq
end
