/-! The reference finds the LEAST set of WORKS. -/
/-- the reference as told: LAND, AIRS, WORKS done -/
def MB (M : Mem) (T : Vw) (f : Nat → Nat) (As : Nat → Nat → Int32) (n nh ns nw na nd : Nat) : Prop := VOK T n nh ns nw ∧ MS M T n nh ns nw ∧ MT M T n nh ns ∧ MO M f nd nw ∧ M 40 0 26 = nI na ∧ na ≤ 6 ∧ ∀ a, a < na → MA M a (As a)
def sN (g _i k : Nat) : Bool := decide ((73 ≤ g ∧ g ≤ 82) ∨ (g = 40 ∧ (k = 46 ∨ k = 47)))
def sN0 (g _i _k : Nat) : Bool := decide (73 ≤ g ∧ g ≤ 82)
theorem sN_0 {g i k : Nat} (h : sN g i k = false) : sN0 g i k = false := by
  have := of_decide_eq_false h
  exact decide_eq_false (by omega)
theorem sN_q {g i k : Nat} (h : sN0 g i k = false) : sQ g i k = false := by
  have := of_decide_eq_false h
  exact sQ_out (by omega)
theorem sN_lay {g i k : Nat} (h : sN0 g i k = false) : sLay g i k = false := by
  have h2 := of_decide_eq_false h
  unfold sLay
  cases e : Nat.ble 73 g with
  | false => rfl
  | true =>
    cases e2 : Nat.ble g 76 with
    | false => rfl
    | true =>
      have := Nat.le_of_ble_eq_true e
      have := Nat.le_of_ble_eq_true e2
      omega
theorem MB_fr {M M' : Mem} {T : Vw} {f : Nat → Nat} {As : Nat → Nat → Int32} {n nh ns nw na nd : Nat} (h : MB M T f As n nh ns nw na nd) (fr : Fr sN M M') : MB M' T f As n nh ns nw na nd := by
  obtain ⟨h1, h2, h3, h4, h5, h6, h7⟩ := h
  have e : ∀ g i k, 44 ≤ g → g ≤ 72 → sN g i k = false := fun g i k a b => decide_eq_false (by omega)
  refine ⟨h1, MS_fr h2 fr (fun g i k a b => e g i k a (by omega)), ⟨fun j hj => ?_, fun k hk => ?_, fun s hs => ?_⟩, ⟨?_, h4.2.1, fun i hi => ?_⟩, (fr 40 0 26 rfl).trans h5, h6, fun a ha => MA_fr (h7 a ha) fr (fun k => e 67 a k (by omega) (by omega))⟩
  · rw [fr 49 0 j rfl, fr 51 0 j rfl]
    exact h3.1 j hj
  · rw [fr 56 k 1 rfl]
    exact h3.2.1 k hk
  · rw [fr 60 s 1 rfl]
    exact h3.2.2 s hs
  · rw [fr 40 0 29 rfl]
    exact h4.1
  · rw [fr 68 0 i rfl]
    exact h4.2.2 i hi
theorem MS_g {M : Mem} {V V' : Vw} {n nh ns nw : Nat} (h : MS M V n nh ns nw) (e : ∀ g k, g ≠ 4 → g ≠ 6 → g ≠ 8 → g ≠ 11 → V' g k = V g k) : MS M V' n nh ns nw := by
  obtain ⟨h0, h1, h2, h3, h4, h5, h6, h7, h8⟩ := h
  refine ⟨h0, h1, h2, h3, fun j hj => ?_, fun k hk => ?_, fun k hk => ?_, fun s hs => ?_, fun k hk => ?_⟩
  · rw [e _ _ (by omega) (by omega) (by omega) (by omega)]
    exact h4 j hj
  · rw [e _ _ (by omega) (by omega) (by omega) (by omega)]
    exact h5 k hk
  · rw [e _ _ (by omega) (by omega) (by omega) (by omega)]
    exact h6 k hk
  · rw [e _ _ (by omega) (by omega) (by omega) (by omega), e _ _ (by omega) (by omega) (by omega) (by omega), e _ _ (by omega) (by omega) (by omega) (by omega)]
    exact h7 s hs
  · rw [e _ _ (by omega) (by omega) (by omega) (by omega), e _ _ (by omega) (by omega) (by omega) (by omega), e _ _ (by omega) (by omega) (by omega) (by omega), e _ _ (by omega) (by omega) (by omega) (by omega)]
    exact h8 k hk
section
variable (L : Nat) (xs : Nat → Int32) (O : Int64) {T : Vw} {f : Nat → Nat} {As : Nat → Nat → Int32} {n nh ns nw na nd : Nat}
/-- laid, all is V's -/
theorem x7_laid {D : Nat} (hD : 3 ≤ D) (M : Mem) (hB : MB M T f As n nh ns nw na nd) : isV (EX L xs (D) q_X7_lays [.inr (.inr (40, 0))] M O) O (fun M' => Fr sN0 M M' ∧ MB M' T f As n nh ns nw na nd ∧ MV M' (perfL T f nd) As n nh ns nw na) := by
  obtain ⟨M1, q1, f1, h1⟩ := x7_lays L xs O hD hB.1 M hB.2.1 hB.2.2.1 hB.2.2.2.1
  have f2 : Fr sN0 M M1 := Fr_mono (fun _ _ _ => sN_lay) f1
  have hB' := MB_fr hB (Fr_mono (fun _ _ _ => sN_0) f2)
  exact ⟨M1, q1, f2, hB', perfL_ok hB.1 f nd (fun i hi => (hB.2.2.2.1.2.2 i hi).2), perfL_MS hB'.2.1 f nd, h1, hB'.2.2.2.2.1, hB'.2.2.2.2.2.1, hB'.2.2.2.2.2.2⟩
theorem id_l (d : Nat) (k0 : Nat) (hk : k0 < 8) (v8 : nw ≤ 8) (M : Mem) (hO : MO M f nd nw) : ∀ r fuel k i, i + r = nd → r ≤ fuel → isD f k0 i = false →
    BK L xs (EX L xs (d + 1)) mi_X7_isDone (RN L xs (d) mi_X7_isDone fuel) (k + 100) 2 [some (.inr (.inr (40, 0))), some (.inl (nI k0)), some (.inl (nI i))] [] M O none 0 0 = (some (.inl (some (.inl (b2i (isD f k0 nd)))), M, O, 0, 0) : Res) := by
  obtain ⟨o1, o2, o3⟩ := hO
  have mono : ∀ r i, isD f k0 i = true → isD f k0 (i + r) = true := by
    intro r
    induction r with
    | zero => intro i h; exact h
    | succ r ih =>
      intro i h
      show (isD f k0 (i + r) || _) = true
      rw [ih i h]
      rfl
  intro r
  induction r with
  | zero =>
    intro fuel k i hj hf h
    obtain rfl : i = nd := by omega
    rw [h, b2i_f]
    simp (disch := first | omega | rfl | decide) only [e_X7_isDone_2, xr_v, xr_n, hl_of, hl_cl, hl_toInt, hl_le, hl_lt, hl_eq, nI_add, hl_sub, pk_mul, hl_div, if_pos, if_neg, ↓reduceIte, Nat.reduceAdd, Nat.reduceSub, Nat.reduceMul, Nat.add_zero, Nat.zero_add, mp_s, mp_k, mp_i, mp_g, mr_s, mr_i, mr_g, zlt_0, zlt_1, zlt_2, zlt_3, zlt_4, zlt_5, zlt_6, zlt_8, zlt_12, zlt_15, zlt_20, zlt_24, zlt_36, zlt_40, zlt_48, zlt_80, zlt_97, zlt_120, zlt_256, zlt_600, zlt_99999999, zadd_1, zadd_2, zadd_5, zadd_6, zadd_8, zadd_20, zadd_24, zeq_0, zeq_1, zeq_2, zeq_3, zeq_4, zeq_5, zeq_6, zeq_7, zeq_8, zeq_13, zeq_14, zeq_20, zeq_32, zeq_59, zeq_60, zeq_80, zmul_2, zmul_4, zmul_6, zmul_8, zmul_10, zmul_24, zsub_1, zsub_2, zsub_10, zsub_48, zsub_97, zle_0, zle_1, zle_2, zle_6, zle_11, zle_200, zle_600, zle_100000000, ylt_0, ylt_1, ylt_2, ylt_3, ylt_6, ylt_9, ylt_20, ylt_24, ylt_57, ylt_60, ylt_99, ylt_120, ylt_122, ylt_999, ylt_9999, yle_0, yle_2, yle_4, yle_5, yle_6, yle_7, yle_8, yle_10, yle_12, yle_13, yle_15, yle_16, yle_20, yle_24, yle_40, yle_60, yle_64, yle_80, yadd_1, yadd_22, ymul_2, ymul_4, ymul_6, ymul_8, ymul_10, ymul_24, ymul_27, ymul_100, ysub_1, ysub_24, zdiv_2, zdiv_4, zdiv_24, o1]
  | succ r ih =>
    intro fuel k i hj hf h
    obtain ⟨f', rfl⟩ : ∃ f, fuel = f + 1 := ⟨fuel - 1, by omega⟩
    have g68 := (o3 i (by omega)).1
    have hfi := (o3 i (by omega)).2
    have hs : isD f k0 (i + 1) = (isD f k0 i || decide (f i = k0)) := rfl
    by_cases e : f i = k0
    · rw [h, decide_eq_true e] at hs
      have := mono (nd - (i + 1)) (i + 1) hs
      rw [show i + 1 + (nd - (i + 1)) = nd by omega] at this
      rw [this, b2i_t]
      simp (disch := first | omega | rfl | decide) only [e_X7_isDone_2, xr_v, xr_n, hl_of, hl_cl, hl_toInt, hl_le, hl_lt, hl_eq, nI_add, hl_sub, pk_mul, hl_div, if_pos, if_neg, ↓reduceIte, Nat.reduceAdd, Nat.reduceSub, Nat.reduceMul, Nat.add_zero, Nat.zero_add, mp_s, mp_k, mp_i, mp_g, mr_s, mr_i, mr_g, zlt_0, zlt_1, zlt_2, zlt_3, zlt_4, zlt_5, zlt_6, zlt_8, zlt_12, zlt_15, zlt_20, zlt_24, zlt_36, zlt_40, zlt_48, zlt_80, zlt_97, zlt_120, zlt_256, zlt_600, zlt_99999999, zadd_1, zadd_2, zadd_5, zadd_6, zadd_8, zadd_20, zadd_24, zeq_0, zeq_1, zeq_2, zeq_3, zeq_4, zeq_5, zeq_6, zeq_7, zeq_8, zeq_13, zeq_14, zeq_20, zeq_32, zeq_59, zeq_60, zeq_80, zmul_2, zmul_4, zmul_6, zmul_8, zmul_10, zmul_24, zsub_1, zsub_2, zsub_10, zsub_48, zsub_97, zle_0, zle_1, zle_2, zle_6, zle_11, zle_200, zle_600, zle_100000000, ylt_0, ylt_1, ylt_2, ylt_3, ylt_6, ylt_9, ylt_20, ylt_24, ylt_57, ylt_60, ylt_99, ylt_120, ylt_122, ylt_999, ylt_9999, yle_0, yle_2, yle_4, yle_5, yle_6, yle_7, yle_8, yle_10, yle_12, yle_13, yle_15, yle_16, yle_20, yle_24, yle_40, yle_60, yle_64, yle_80, yadd_1, yadd_22, ymul_2, ymul_4, ymul_6, ymul_8, ymul_10, ymul_24, ymul_27, ymul_100, ysub_1, ysub_24, zdiv_2, zdiv_4, zdiv_24, o1, g68]
    · rw [h, decide_eq_false e] at hs
      simp (disch := first | omega | rfl | decide) only [e_X7_isDone_2, xr_v, xr_n, hl_of, hl_cl, hl_toInt, hl_le, hl_lt, hl_eq, nI_add, hl_sub, pk_mul, hl_div, if_pos, if_neg, ↓reduceIte, Nat.reduceAdd, Nat.reduceSub, Nat.reduceMul, Nat.add_zero, Nat.zero_add, mp_s, mp_k, mp_i, mp_g, mr_s, mr_i, mr_g, zlt_0, zlt_1, zlt_2, zlt_3, zlt_4, zlt_5, zlt_6, zlt_8, zlt_12, zlt_15, zlt_20, zlt_24, zlt_36, zlt_40, zlt_48, zlt_80, zlt_97, zlt_120, zlt_256, zlt_600, zlt_99999999, zadd_1, zadd_2, zadd_5, zadd_6, zadd_8, zadd_20, zadd_24, zeq_0, zeq_1, zeq_2, zeq_3, zeq_4, zeq_5, zeq_6, zeq_7, zeq_8, zeq_13, zeq_14, zeq_20, zeq_32, zeq_59, zeq_60, zeq_80, zmul_2, zmul_4, zmul_6, zmul_8, zmul_10, zmul_24, zsub_1, zsub_2, zsub_10, zsub_48, zsub_97, zle_0, zle_1, zle_2, zle_6, zle_11, zle_200, zle_600, zle_100000000, ylt_0, ylt_1, ylt_2, ylt_3, ylt_6, ylt_9, ylt_20, ylt_24, ylt_57, ylt_60, ylt_99, ylt_120, ylt_122, ylt_999, ylt_9999, yle_0, yle_2, yle_4, yle_5, yle_6, yle_7, yle_8, yle_10, yle_12, yle_13, yle_15, yle_16, yle_20, yle_24, yle_40, yle_60, yle_64, yle_80, yadd_1, yadd_22, ymul_2, ymul_4, ymul_6, ymul_8, ymul_10, ymul_24, ymul_27, ymul_100, ysub_1, ysub_24, zdiv_2, zdiv_4, zdiv_24, o1, g68]
      exact RN_of (ih f' _ (i + 1) (by omega) (by omega) hs)
theorem x7_isDone {D : Nat} (hD : 2 ≤ D) (k0 : Nat) (hk : k0 < 8) (v8 : nw ≤ 8) (M : Mem) (hO : MO M f nd nw) : EX L xs (D) q_X7_isDone [.inr (.inr (40, 0)), .inl (nI k0)] M O = (some (.inl (some (.inl (b2i (isD f k0 nd)))), M, O, 0, 0) : Res) := by
  have := hO.2.1
  obtain ⟨d, rfl⟩ : ∃ d, D = d + 2 := ⟨D - 2, by omega⟩
  refine (EX_in mi_X7_isDone rfl rfl rfl (ls := [some (.inr (.inr (40, 0))), some (.inl (nI k0)), none]) rfl).trans ?_
  rw [e_X7_isDone_0]
  exact id_l L xs O d k0 hk v8 M hO nd FUEL _ 0 (by omega) (Nat.le_of_lt (FU (by omega))) rfl
theorem fl_a (d : Nat) (hd : 2 ≤ d + 1) (a1 a2 a3 : Int32) (b : Nat) {V : Vw} (hV : VOK V n nh ns nw) (M : Mem) (hS : MS M V n nh ns nw) (hO : MO M f nd nw) (P : Res → Prop) : ∀ r fuel k w, w + r = nw → r ≤ fuel →
    (∀ f' k', fuel ≤ f' + r → P (BK L xs (EX L xs (d + 1)) mi_X7_findLeast (RN L xs (d) mi_X7_findLeast (f')) (k' + 1000) 35 [some (.inr (.inr (40, 0))), some (.inl (a1)), some (.inl (a2)), some (.inl (a3)), some (.inl (nI b)), some (.inl (nI (coinN V (nI b) nw))), some (.inl (b2i (dmB f nd (nI b) nw))), some (.inl (nI nw))] [] M O none 0 0)) →
    P (BK L xs (EX L xs (d + 1)) mi_X7_findLeast (RN L xs (d) mi_X7_findLeast fuel) (k + 1000) 35 [some (.inr (.inr (40, 0))), some (.inl (a1)), some (.inl (a2)), some (.inl (a3)), some (.inl (nI b)), some (.inl (nI (coinN V (nI b) w))), some (.inl (b2i (dmB f nd (nI b) w))), some (.inl (nI w))] [] M O none 0 0) := by
  obtain ⟨v0, v1, v2, v3, v4, v5, v6, v7, v8, vk, vh, vw, vc, vs, vl, vwk, vcn⟩ := hV
  have g44 := hS.2.2.2.1
  intro r
  induction r with
  | zero =>
    intro fuel k w hj hf hex
    obtain rfl : w = nw := by omega
    exact hex fuel k (by omega)
  | succ r ih =>
    intro fuel k w hj hf hex
    obtain ⟨f', rfl⟩ : ∃ f, fuel = f + 1 := ⟨fuel - 1, by omega⟩
    have g64 := ((hS.2.2.2.2.2.2.2.2 w (by omega)).2.2.2).trans (vcn w (by omega)).1
    have ih' := ih f' 2000 (w + 1) (by omega) (by omega) (fun f'' k' e => hex f'' k' (by omega))
    rw [show coinN V (nI b) (w + 1) = if bitB (nI b) w = true then coinN V (nI b) w + vN V 17 w else coinN V (nI b) w from rfl, show dmB f nd (nI b) (w + 1) = if bitB (nI b) w = true then dmB f nd (nI b) w && !isD f w nd else dmB f nd (nI b) w from rfl] at ih'
    have hz := bit_z (nI b) (show w < 32 by omega)
    rw [e_X7_findLeast_35, g44, if_neg (by rw [hl_le (by omega) (by omega)]; omega)]
    cases c : bitB (nI b) w with
    | false =>
      rw [c, if_neg Bool.false_ne_true, if_neg Bool.false_ne_true] at ih'
      rw [if_pos (hz.mpr c), e_X7_findLeast_94, zadd_1]
      refine P_e (RN_s _ _ _ _ _ _ _ _ _ _ _ _) ?_
      exact ih'
    | true =>
      rw [c, if_pos rfl, if_pos rfl] at ih'
      rw [if_neg (fun e => by rw [hz.mp e] at c; cases c), if_pos (in_8 (by omega)), hl_cl (by omega), Nat.zero_add, g64, nI_add]
      cases c2 : dmB f nd (nI b) w with
      | false =>
        rw [c2, Bool.false_and, b2i_f] at ih'
        rw [b2i_f, if_pos rfl, e_X7_findLeast_91, e_X7_findLeast_92, e_X7_findLeast_94, zadd_1]
        refine P_e (RN_s _ _ _ _ _ _ _ _ _ _ _ _) ?_
        exact ih'
      | true =>
        rw [c2, Bool.true_and] at ih'
        rw [b2i_t, if_neg (by decide), x7_isDone L xs O (D := d + 1) (by omega) w (by omega) v8 M hO]
        simp only [xr_v, Nat.reduceAdd, Nat.add_zero]
        cases c3 : isD f w nd with
        | false =>
          rw [c3] at ih'
          rw [b2i_f, e_X7_findLeast_84, if_pos rfl, e_X7_findLeast_92, e_X7_findLeast_94, zadd_1]
          refine P_e (RN_s _ _ _ _ _ _ _ _ _ _ _ _) ?_
          exact ih'
        | true =>
          rw [c3] at ih'
          rw [b2i_t, e_X7_findLeast_84, if_neg (by decide), e_X7_findLeast_91, e_X7_findLeast_92, e_X7_findLeast_94, zadd_1]
          refine P_e (RN_s _ _ _ _ _ _ _ _ _ _ _ _) ?_
          exact ih'
theorem fl_b (d : Nat) (hd : 2 ≤ d + 1) (a1 a2 a3 a5 a6 : Int32) (b : Nat) {V : Vw} (M0 : Mem) (P : Res → Prop) : ∀ r fuel k w M, w + r = nw → r ≤ fuel → Fr sN0 M0 M → MV M (perfS V (nI b) w) As n nh ns nw na →
    (∀ f' k' M', fuel ≤ f' + r → Fr sN0 M0 M' → MV M' (perfS V (nI b) nw) As n nh ns nw na → P (BK L xs (EX L xs (d + 1)) mi_X7_findLeast (RN L xs (d) mi_X7_findLeast (f')) (k' + 800) 132 [some (.inr (.inr (40, 0))), some (.inl (a1)), some (.inl (a2)), some (.inl (a3)), some (.inl (nI b)), some (.inl (a5)), some (.inl (a6)), some (.inl (nI nw))] [] M' O none 0 0)) →
    P (BK L xs (EX L xs (d + 1)) mi_X7_findLeast (RN L xs (d) mi_X7_findLeast fuel) (k + 800) 132 [some (.inr (.inr (40, 0))), some (.inl (a1)), some (.inl (a2)), some (.inl (a3)), some (.inl (nI b)), some (.inl (a5)), some (.inl (a6)), some (.inl (nI w))] [] M O none 0 0) := by
  intro r
  induction r with
  | zero =>
    intro fuel k w M hj hf fr hM hex
    obtain rfl : w = nw := by omega
    exact hex fuel k M (by omega) fr hM
  | succ r ih =>
    intro fuel k w M hj hf fr hM hex
    obtain ⟨f', rfl⟩ : ∃ f, fuel = f + 1 := ⟨fuel - 1, by omega⟩
    have v8 : nw ≤ 8 := hM.1.2.2.2.2.2.2.2.2.1
    have g44 := hM.2.1.2.2.2.1
    have hs : perfS V (nI b) (w + 1) = if bitB (nI b) w = true then perfV (perfS V (nI b) w) w else perfS V (nI b) w := rfl
    have hb : bitB (nI b) w = decide ((nI b >>> (nI w &&& 31)) &&& 1 = 1) := rfl
    by_cases c : (nI b >>> (nI w &&& 31)) &&& 1 = 1
    · rw [hb, decide_eq_true c, if_pos rfl] at hs
      obtain ⟨M1, q1, f1, h1⟩ := x7_works L xs O (D := d + 1) (by omega) hM.1 (show w < nw by omega) M hM.2.1 hM.2.2.1
      have f2 : Fr sN0 M M1 := Fr_mono (fun _ _ _ => sN_lay) f1
      have hM1 : MV M1 (perfS V (nI b) (w + 1)) As n nh ns nw na := by
        rw [hs]
        exact ⟨perf_ok hM.1 (by omega), MS_perf (MS_fr hM.2.1 f1 (fun _ _ _ => sLay_s)), h1, (f2 40 0 26 rfl).trans hM.2.2.2.1, hM.2.2.2.2.1, fun a ha => MA_fr (hM.2.2.2.2.2 a ha) f1 (fun _ => rfl)⟩
      rw [e_X7_findLeast_132, g44, if_neg (by rw [hl_le (by omega) (by omega)]; omega), if_pos c, q1]
      simp only [xr_n, Nat.reduceAdd, Nat.add_zero]
      rw [e_X7_findLeast_160, zadd_1]
      refine P_e (RN_s _ _ _ _ _ _ _ _ _ _ _ _) ?_
      exact ih f' _ (w + 1) M1 (by omega) (by omega) (Fr_trans fr f2) hM1 (fun f'' k' M' e => hex f'' k' M' (by omega))
    · rw [hb, decide_eq_false c, if_neg Bool.false_ne_true] at hs
      rw [e_X7_findLeast_132, g44, if_neg (by rw [hl_le (by omega) (by omega)]; omega), if_neg c, e_X7_findLeast_160, zadd_1]
      refine P_e (RN_s _ _ _ _ _ _ _ _ _ _ _ _) ?_
      exact ih f' _ (w + 1) M (by omega) (by omega) fr (hs ▸ hM) (fun f'' k' M' e => hex f'' k' M' (by omega))
theorem fl_c (d : Nat) (hd : 4 ≤ d + 1) (a1 a4 a5 : Int32) (h : Nat) (hh : h < 24) (hs : Int32) {W : Vw} (A : Nat → Int32) (M : Mem) (hM : MV M W As n nh ns nw na) (hL : LL M W A n ns) (P : Res → Prop) : ∀ r fuel k j, j + r = nh → r ≤ fuel →
    (∀ f' k' a7, fuel ≤ f' + r → P (BK L xs (EX L xs (d + 1)) mi_X7_findLeast (RN L xs (d) mi_X7_findLeast (f')) (k' + 500) 222 [some (.inr (.inr (40, 0))), some (.inl (a1)), some (.inl (nI h)), some (.inl (hs)), some (.inl (a4)), some (.inl (a5)), some (.inl (b2i (freeB (fun k => hearF W A n ns h k) hs nh))), some (.inl (a7))] [] M O none 0 0)) →
    P (BK L xs (EX L xs (d + 1)) mi_X7_findLeast (RN L xs (d) mi_X7_findLeast fuel) (k + 600) 174 [some (.inr (.inr (40, 0))), some (.inl (a1)), some (.inl (nI h)), some (.inl (hs)), some (.inl (a4)), some (.inl (a5)), some (.inl (b2i (freeB (fun k => hearF W A n ns h k) hs j))), some (.inl (nI j))] [] M O none 0 0) := by
  have v6 : nh ≤ 8 := hM.1.2.2.2.2.2.2.1
  have g44 := hM.2.1.2.1
  have mono : ∀ r i, freeB (fun k => hearF W A n ns h k) hs i = false → freeB (fun k => hearF W A n ns h k) hs (i + r) = false := by
    intro r
    induction r with
    | zero => intro i h; exact h
    | succ r ih =>
      intro i h'
      show (freeB _ hs (i + r) && _) = false
      rw [ih i h', Bool.false_and]
  intro r
  induction r with
  | zero =>
    intro fuel k j hj hf hex
    obtain rfl : j = nh := by omega
    rw [e_X7_findLeast_174, g44, if_pos (by rw [hl_le (by omega) (by omega)]; omega)]
    exact hex fuel _ _ (by omega)
  | succ r ih =>
    intro fuel k j hj hf hex
    obtain ⟨f', rfl⟩ : ∃ f, fuel = f + 1 := ⟨fuel - 1, by omega⟩
    have ih' := ih f' 2400 (j + 1) (by omega) (by omega) (fun f'' k' a7 e => hex f'' k' a7 (by omega))
    rw [show freeB (fun k => hearF W A n ns h k) hs (j + 1) = (freeB (fun k => hearF W A n ns h k) hs j && !(bitB hs j && hearF W A n ns h j)) from rfl] at ih'
    have hz := bit_z hs (show j < 32 by omega)
    rw [e_X7_findLeast_174, g44, if_neg (by rw [hl_le (by omega) (by omega)]; omega)]
    cases c : freeB (fun k => hearF W A n ns h k) hs j with
    | false =>
      have e1 := mono (nh - j) j c
      rw [show j + (nh - j) = nh by omega] at e1
      have hx := fun k' => hex (f' + 1) k' (nI j) (by omega)
      simp only [e1, b2i_f] at hx
      rw [b2i_f, if_pos rfl]
      exact hx _
    | true =>
      rw [c, Bool.true_and] at ih'
      rw [b2i_t, if_neg (by decide)]
      cases c2 : bitB hs j with
      | false =>
        rw [c2, Bool.false_and] at ih'
        rw [if_pos (hz.mpr c2), e_X7_findLeast_209, e_X7_findLeast_214, zadd_1]
        refine P_e (RN_s _ _ _ _ _ _ _ _ _ _ _ _) ?_
        exact ih'
      | true =>
        rw [c2, Bool.true_and] at ih'
        rw [if_neg (fun e => by rw [hz.mp e] at c2; cases c2), x7_hearsAny L xs O (D := d + 1) (by omega) A j h (by omega) hh M hM hL]
        simp only [xr_v, Nat.reduceAdd, Nat.add_zero]
        cases c3 : hearF W A n ns h j with
        | false =>
          rw [c3] at ih'
          rw [b2i_f, e_X7_findLeast_206, if_pos rfl, e_X7_findLeast_209, e_X7_findLeast_214, zadd_1]
          refine P_e (RN_s _ _ _ _ _ _ _ _ _ _ _ _) ?_
          exact ih'
        | true =>
          rw [c3] at ih'
          rw [b2i_t, e_X7_findLeast_206, if_neg (by decide), e_X7_findLeast_214, zadd_1]
          refine P_e (RN_s _ _ _ _ _ _ _ _ _ _ _ _) ?_
          exact ih'
theorem fl_o (d : Nat) (hd : 9 ≤ d + 1) (a h : Nat) (ha : a < na) (hh : h < 24) (hs : Int32) (M0 : Mem) (Q : Mem → Prop) (hQ : ∀ M', Fr sN M0 M' → M' 40 0 46 = mI (perfL T f nd) nw (lF (perfL T f nd) (As a) f n nh ns nw nd h hs (2 ^ nw)) → M' 40 0 47 = bI (lF (perfL T f nd) (As a) f n nh ns nw nd h hs (2 ^ nw)) → Q M') : ∀ r fuel k b u5 u6 u7 M, b + r = 2 ^ nw → r * 30 ≤ fuel → Fr sN M0 M → MB M T f As n nh ns nw na nd →
    M 40 0 46 = mI (perfL T f nd) nw (lF (perfL T f nd) (As a) f n nh ns nw nd h hs b) → M 40 0 47 = bI (lF (perfL T f nd) (As a) f n nh ns nw nd h hs b) →
    isV (BK L xs (EX L xs (d + 1)) mi_X7_findLeast (RN L xs (d) mi_X7_findLeast fuel) (k + 1200) 13 [some (.inr (.inr (40, 0))), some (.inl (nI a)), some (.inl (nI h)), some (.inl (hs)), some (.inl (nI b)), u5, u6, u7] [] M O none 0 0) O Q := by
  intro r
  induction r with
  | zero =>
    intro fuel k b u5 u6 u7 M hj hf fr hB h46 h47
    obtain rfl : b = 2 ^ nw := by omega
    have v8 : nw ≤ 8 := hB.1.2.2.2.2.2.2.2.2.1
    have := pow_le8 v8
    rw [e_X7_findLeast_13, hB.2.1.2.2.2.1, shl1 nw (by omega), if_pos (by rw [hl_le (by omega) (by omega)]; omega)]
    exact isV_i (hQ M fr h46 h47)
  | succ r ih =>
    intro fuel k b u5 u6 u7 M hj hf fr hB h46 h47
    have v8 : nw ≤ 8 := hB.1.2.2.2.2.2.2.2.2.1
    have v6 : nh ≤ 8 := hB.1.2.2.2.2.2.2.1
    have hp := pow_le8 v8
    have hVd := perfL_ok hB.1 f nd (fun i hi => (hB.2.2.2.1.2.2 i hi).2)
    have hSd := perfL_MS hB.2.1 f nd
    have hstep : lF (perfL T f nd) (As a) f n nh ns nw nd h hs (b + 1) = if (djB f (nI b) nd && bet (perfL T f nd) nw (lF (perfL T f nd) (As a) f n nh ns nw nd h hs b) b && freeB (fun k => hearF (perfS (perfL T f nd) (nI b) nw) (As a) n ns h k) hs nh) = true then some b else lF (perfL T f nd) (As a) f n nh ns nw nd h hs b := rfl
    have hdm := dm_dj (fun i hi => (hB.2.2.2.1.2.2 i hi).2) (nI b) (f := f) (nd := nd) (nw := nw)
    have cle := coin_le hVd.2.2.2.2.2.2.2.2.2.2.2.2.2.2.2.2 (nI b) nw (Nat.le_refl _)
    generalize hst : lF (perfL T f nd) (As a) f n nh ns nw nd h hs b = st at *
    generalize hVV : perfL T f nd = V at *
    have skip : ∀ f' M' u5 u6 u7, fuel ≤ f' + 29 → 1 ≤ f' → Fr sN M0 M' → MB M' T f As n nh ns nw na nd → M' 40 0 46 = mI V nw st → M' 40 0 47 = bI st → lF V (As a) f n nh ns nw nd h hs (b + 1) = st → isV (RN L xs (d) mi_X7_findLeast (f') 13 [some (.inr (.inr (40, 0))), some (.inl (nI a)), some (.inl (nI h)), some (.inl (hs)), some (.inl (nI (b + 1))), u5, u6, u7] M' O none 0 0) O Q := by
      intro f' M' u5 u6 u7 hf' h1 fr' hB' g46 g47 he
      obtain ⟨f'', rfl⟩ : ∃ f, f' = f + 1 := ⟨f' - 1, by omega⟩
      refine isV_e (RN_s _ _ _ _ _ _ _ _ _ _ _ _) ?_
      exact ih f'' _ (b + 1) u5 u6 u7 M' (by omega) (by omega) fr' hB' (by rw [he]; exact g46) (by rw [he]; exact g47)
    have take : ∀ f' M' u5 u6 u7, fuel ≤ f' + 29 → 1 ≤ f' → Fr sN M0 M' → MB M' T f As n nh ns nw na nd → M' 40 0 46 = nI (coinN V (nI b) nw) → M' 40 0 47 = nI b → lF V (As a) f n nh ns nw nd h hs (b + 1) = some b → isV (RN L xs (d) mi_X7_findLeast (f') 13 [some (.inr (.inr (40, 0))), some (.inl (nI a)), some (.inl (nI h)), some (.inl (hs)), some (.inl (nI (b + 1))), u5, u6, u7] M' O none 0 0) O Q := by
      intro f' M' u5 u6 u7 hf' h1 fr' hB' g46 g47 he
      obtain ⟨f'', rfl⟩ : ∃ f, f' = f + 1 := ⟨f' - 1, by omega⟩
      refine isV_e (RN_s _ _ _ _ _ _ _ _ _ _ _ _) ?_
      exact ih f'' _ (b + 1) u5 u6 u7 M' (by omega) (by omega) fr' hB' (by rw [he]; exact g46) (by rw [he]; exact g47)
    rw [e_X7_findLeast_13, hB.2.1.2.2.2.1, shl1 nw (by omega), if_neg (by rw [hl_le (by omega) (by omega)]; omega)]
    refine fl_a L xs O d (by omega) (nI a) (nI h) hs b hVd M hSd hB.2.2.2.1 (fun r => isV r O Q) nw fuel _ 0 (by omega) (by omega) ?_
    intro f1 k1 hf1
    have go : ∀ k', djB f (nI b) nd = true → bet V nw st b = true → isV (BK L xs (EX L xs (d + 1)) mi_X7_findLeast (RN L xs (d) mi_X7_findLeast f1) (k' + 900) 125 [some (.inr (.inr (40, 0))), some (.inl (nI a)), some (.inl (nI h)), some (.inl (hs)), some (.inl (nI b)), some (.inl (nI (coinN V (nI b) nw))), some (.inl (1)), some (.inl (nI nw))] [] M O none 0 0) O Q := by
      intro k' hd1 hb
      rw [hd1, hb, Bool.and_self, Bool.true_and] at hstep
      obtain ⟨M1, q1, g1, hB1, hV1⟩ := x7_laid L xs O (D := d + 1) (by omega) M hB
      rw [hVV] at hV1
      rw [e_X7_findLeast_125, q1]
      simp only [xr_n, Nat.reduceAdd, Nat.add_zero]
      rw [e_X7_findLeast_129]
      refine fl_b L xs O d (by omega) (nI a) (nI h) hs _ _ b (V := V) M (fun r => isV r O Q) nw f1 _ 0 M1 (by omega) (by omega) g1 hV1 ?_
      intro f2 k2 M2 hf2 g2 hV2
      obtain ⟨M3, q3, g3, hL3⟩ := x7_laysLoud L xs O (D := d + 1) (by omega) a ha M2 hV2
      rw [e_X7_findLeast_132, hV2.2.1.2.2.2.1, if_pos (by rw [hl_le (by omega) (by omega)]; omega), q3]
      simp only [xr_n, Nat.reduceAdd, Nat.add_zero]
      rw [e_X7_findLeast_171]
      refine fl_c L xs O d (by omega) (nI a) (nI b) _ h hh hs (As a) M3 (MV_q hV2 g3) hL3 (fun r => isV r O Q) nh f2 _ 0 (by omega) (by omega) ?_
      intro f3 k3 a7 hf3
      have fr3 : Fr sN0 M M3 := Fr_trans g2 (Fr_mono (fun _ _ _ => sN_q) g3)
      have fr4 : Fr sN M M3 := Fr_mono (fun _ _ _ => sN_0) fr3
      rw [e_X7_findLeast_222]
      cases cf : freeB (fun k => hearF (perfS V (nI b) nw) (As a) n ns h k) hs nh with
      | false =>
        rw [cf, if_neg Bool.false_ne_true] at hstep
        rw [b2i_f, if_pos rfl, e_X7_findLeast_242, zadd_1]
        exact skip f3 M3 _ _ _ (by omega) (by omega) (Fr_trans fr fr4) (MB_fr hB fr4) ((fr3 40 0 46 rfl).trans h46) ((fr3 40 0 47 rfl).trans h47) hstep
      | true =>
        rw [cf, if_pos rfl] at hstep
        rw [b2i_t, if_neg (by decide), e_X7_findLeast_242, zadd_1]
        exact take f3 _ _ _ _ (by omega) (by omega) (Fr_put (Fr_put (Fr_trans fr fr4) rfl) rfl) (MB_fr hB (Fr_put (Fr_put fr4 rfl) rfl)) (by rw [mp_k (by omega), mp_s]) (by rw [mp_s]) hstep
    rw [e_X7_findLeast_35, hB.2.1.2.2.2.1, if_pos (by rw [hl_le (by omega) (by omega)]; omega), hdm]
    cases c : djB f (nI b) nd with
    | false =>
      rw [c, Bool.false_and, Bool.false_and, if_neg Bool.false_ne_true] at hstep
      rw [b2i_f, if_pos rfl, e_X7_findLeast_242, zadd_1]
      exact skip f1 M _ _ _ (by omega) (by omega) fr hB h46 h47 hstep
    | true =>
      rw [b2i_t, if_neg (by decide), h46]
      cases st with
      | none =>
        rw [show mI V nw none = -1 from rfl, if_pos rfl]
        exact go _ c rfl
      | some e =>
        have cle2 := coin_le hVd.2.2.2.2.2.2.2.2.2.2.2.2.2.2.2.2 (nI e) nw (Nat.le_refl _)
        rw [show mI V nw (some e) = nI (coinN V (nI e) nw) from rfl, if_neg (fun e' => nn_n (coinN V (nI e) nw) (by omega) (by rw [e']; decide))]
        by_cases c3 : coinN V (nI b) nw < coinN V (nI e) nw
        · rw [if_pos (by rw [hl_lt (by omega) (by omega)]; omega)]
          exact go _ c (decide_eq_true c3)
        · have hb : bet V nw (some e) b = false := decide_eq_false c3
          rw [hb, Bool.and_false, Bool.false_and, if_neg Bool.false_ne_true] at hstep
          rw [if_neg (by rw [hl_lt (by omega) (by omega)]; omega), e_X7_findLeast_242, zadd_1]
          exact skip f1 M _ _ _ (by omega) (by omega) fr hB h46 h47 hstep
theorem x7_findLeast {D : Nat} (hD : 10 ≤ D) (a h : Nat) (ha : a < na) (hh : h < 24) (hs : Int32) (M : Mem) (hB : MB M T f As n nh ns nw na nd) :
    isV (EX L xs (D) q_X7_findLeast [.inr (.inr (40, 0)), .inl (nI a), .inl (nI h), .inl (hs)] M O) O (fun M' => Fr sN M M' ∧ M' 40 0 46 = mI (perfL T f nd) nw (lF (perfL T f nd) (As a) f n nh ns nw nd h hs (2 ^ nw)) ∧ M' 40 0 47 = bI (lF (perfL T f nd) (As a) f n nh ns nw nd h hs (2 ^ nw))) := by
  have v8 : nw ≤ 8 := hB.1.2.2.2.2.2.2.2.2.1
  have := pow_le8 v8
  obtain ⟨d, rfl⟩ : ∃ d, D = d + 2 := ⟨D - 2, by omega⟩
  refine isV_e (EX_in mi_X7_findLeast rfl rfl rfl (ls := [some (.inr (.inr (40, 0))), some (.inl (nI a)), some (.inl (nI h)), some (.inl (hs)), none, none, none, none]) rfl) ?_
  rw [e_X7_findLeast_0]
  exact fl_o L xs O d (by omega) a h ha hh hs M _ (fun M' a b c => ⟨a, b, c⟩) (2 ^ nw) FUEL _ 0 none none none _ (by omega) (Nat.le_of_lt (FU (by omega))) (Fr_put (Fr_put Fr_refl rfl) rfl) (MB_fr hB (Fr_put (Fr_put Fr_refl rfl) rfl)) (by rw [mp_k (by omega), mp_s]; rfl) (by rw [mp_s]; rfl)
end
