/-! The reference finds the LEAST set of WORKS. -/
/-- the reference as told: LAND, AIRS, WORKS done -/
def MB (M : Mem) (T : Vw) (f : Nat → Nat) (As : Nat → Nat → Int32) (n nh ns nw na nd : Nat) : Prop := VOK T n nh ns nw ∧ MS M T n nh ns nw ∧ MT M T n nh ns ∧ MO M f nd nw ∧ M 40 0 26 = nI na ∧ na ≤ 6 ∧ ∀ a, a < na → MA M a (As a)
def sN (g _i k : Nat) : Bool := decide ((73 ≤ g ∧ g ≤ 82) ∨ (g = 40 ∧ (k = 46 ∨ k = 47)))
theorem sN_q {g i k : Nat} (h : sN g i k = false) : sQ g i k = false := by
  have := of_decide_eq_false h
  exact sQ_out (by omega)
theorem sN_lay {g i k : Nat} (h : sN g i k = false) : sLay g i k = false := by
  have h2 := of_decide_eq_false h
  unfold sLay
  cases e : Nat.ble 73 g with
  | false => rfl
  | true =>
    cases e2 : Nat.ble g 76 with
    | false => rfl
    | true =>
      have := Nat.le_of_ble_eq_true e
      have := Nat.le_of_ble_eq_true e2
      omega
theorem MB_fr {M M' : Mem} {T : Vw} {f : Nat → Nat} {As : Nat → Nat → Int32} {n nh ns nw na nd : Nat} (h : MB M T f As n nh ns nw na nd) (fr : Fr sN M M') : MB M' T f As n nh ns nw na nd := by
  obtain ⟨h1, h2, h3, h4, h5, h6, h7⟩ := h
  have e : ∀ g i k, 44 ≤ g → g ≤ 72 → sN g i k = false := fun g i k a b => decide_eq_false (by omega)
  refine ⟨h1, MS_fr h2 fr (fun g i k a b => e g i k a (by omega)), ⟨fun j hj => ?_, fun k hk => ?_, fun s hs => ?_⟩, ⟨?_, h4.2.1, fun i hi => ?_⟩, (fr 40 0 26 rfl).trans h5, h6, fun a ha => MA_fr (h7 a ha) fr (fun k => e 67 a k (by omega) (by omega))⟩
  · rw [fr 49 0 j rfl, fr 51 0 j rfl]
    exact h3.1 j hj
  · rw [fr 56 k 1 rfl]
    exact h3.2.1 k hk
  · rw [fr 60 s 1 rfl]
    exact h3.2.2 s hs
  · rw [fr 40 0 29 rfl]
    exact h4.1
  · rw [fr 68 0 i rfl]
    exact h4.2.2 i hi
theorem MS_g {M : Mem} {V V' : Vw} {n nh ns nw : Nat} (h : MS M V n nh ns nw) (e : ∀ g k, g ≠ 4 → g ≠ 6 → g ≠ 8 → g ≠ 11 → V' g k = V g k) : MS M V' n nh ns nw := by
  obtain ⟨h0, h1, h2, h3, h4, h5, h6, h7, h8⟩ := h
  refine ⟨h0, h1, h2, h3, fun j hj => ?_, fun k hk => ?_, fun k hk => ?_, fun s hs => ?_, fun k hk => ?_⟩
  · rw [e _ _ (by omega) (by omega) (by omega) (by omega)]
    exact h4 j hj
  · rw [e _ _ (by omega) (by omega) (by omega) (by omega)]
    exact h5 k hk
  · rw [e _ _ (by omega) (by omega) (by omega) (by omega)]
    exact h6 k hk
  · rw [e _ _ (by omega) (by omega) (by omega) (by omega), e _ _ (by omega) (by omega) (by omega) (by omega), e _ _ (by omega) (by omega) (by omega) (by omega)]
    exact h7 s hs
  · rw [e _ _ (by omega) (by omega) (by omega) (by omega), e _ _ (by omega) (by omega) (by omega) (by omega), e _ _ (by omega) (by omega) (by omega) (by omega), e _ _ (by omega) (by omega) (by omega) (by omega)]
    exact h8 k hk
section
variable (L : Nat) (xs : Nat → Int32) (O : Int64) {T : Vw} {f : Nat → Nat} {As : Nat → Nat → Int32} {n nh ns nw na nd : Nat}
/-- laid, all is V's -/
theorem x7_laid {D : Nat} (hD : 3 ≤ D) (M : Mem) (hB : MB M T f As n nh ns nw na nd) : isV (EX L xs (D) q_X7_lays [.inr (.inr (40, 0))] M O) O (fun M' => Fr sN M M' ∧ MB M' T f As n nh ns nw na nd ∧ MV M' (perfL T f nd) As n nh ns nw na) := by
  obtain ⟨M1, q1, f1, h1⟩ := x7_lays L xs O hD hB.1 M hB.2.1 hB.2.2.1 hB.2.2.2.1
  have f2 : Fr sN M M1 := Fr_mono (fun _ _ _ => sN_lay) f1
  have hB' := MB_fr hB f2
  exact ⟨M1, q1, f2, hB', perfL_ok hB.1 f nd (fun i hi => (hB.2.2.2.1.2.2 i hi).2), perfL_MS hB'.2.1 f nd, h1, hB'.2.2.2.2.1, hB'.2.2.2.2.2.1, hB'.2.2.2.2.2.2⟩
theorem id_l (d : Nat) (k0 : Nat) (hk : k0 < 8) (M : Mem) (hO : MO M f nd nw) : ∀ r fuel k i, i + r = nd → r ≤ fuel → isD f k0 i = false →
    BK L xs (EX L xs (d + 1)) mi_X7_isDone (RN L xs (d) mi_X7_isDone fuel) (k + 100) 2 [some (.inr (.inr (40, 0))), some (.inl (nI k0)), some (.inl (nI i))] [] M O none 0 0 = (some (.inl (some (.inl (b2i (isD f k0 nd)))), M, O, 0, 0) : Res) := by
  obtain ⟨o1, o2, o3⟩ := hO
  have mono : ∀ r i, isD f k0 i = true → isD f k0 (i + r) = true := by
    intro r
    induction r with
    | zero => intro i h; exact h
    | succ r ih =>
      intro i h
      show (isD f k0 (i + r) || _) = true
      rw [ih i h]
      rfl
  intro r
  induction r with
  | zero =>
    intro fuel k i hj hf h
    obtain rfl : i = nd := by omega
    rw [h, b2i_f]
    simp (disch := first | omega | rfl | decide) only [e_X7_isDone_2, xr_v, xr_n, hl_of, hl_cl, hl_toInt, hl_le, hl_lt, hl_eq, nI_add, hl_sub, pk_mul, hl_div, if_pos, if_neg, ↓reduceIte, Nat.reduceAdd, Nat.reduceSub, Nat.reduceMul, Nat.add_zero, Nat.zero_add, mp_s, mp_k, mp_i, mp_g, mr_s, mr_i, mr_g, zlt_0, zlt_1, zlt_2, zlt_3, zlt_4, zlt_5, zlt_6, zlt_8, zlt_12, zlt_15, zlt_20, zlt_24, zlt_36, zlt_40, zlt_48, zlt_80, zlt_97, zlt_120, zlt_256, zlt_600, zlt_99999999, zadd_1, zadd_2, zadd_5, zadd_6, zadd_8, zadd_20, zadd_24, zeq_0, zeq_1, zeq_2, zeq_3, zeq_4, zeq_5, zeq_6, zeq_7, zeq_8, zeq_13, zeq_14, zeq_20, zeq_32, zeq_59, zeq_60, zeq_80, zmul_2, zmul_4, zmul_6, zmul_8, zmul_10, zmul_24, zsub_1, zsub_2, zsub_10, zsub_48, zsub_97, zle_0, zle_1, zle_2, zle_6, zle_11, zle_200, zle_600, zle_100000000, ylt_0, ylt_1, ylt_2, ylt_3, ylt_6, ylt_9, ylt_20, ylt_24, ylt_57, ylt_60, ylt_99, ylt_120, ylt_122, ylt_999, ylt_9999, yle_0, yle_2, yle_4, yle_5, yle_6, yle_7, yle_8, yle_10, yle_12, yle_13, yle_15, yle_16, yle_20, yle_24, yle_40, yle_60, yle_64, yle_80, yadd_1, yadd_22, ymul_2, ymul_4, ymul_6, ymul_8, ymul_10, ymul_24, ymul_27, ymul_100, ysub_1, ysub_24, zdiv_2, zdiv_4, zdiv_24, o1]
  | succ r ih =>
    intro fuel k i hj hf h
    obtain ⟨f', rfl⟩ : ∃ f, fuel = f + 1 := ⟨fuel - 1, by omega⟩
    have g68 := (o3 i (by omega)).1
    have hs : isD f k0 (i + 1) = (isD f k0 i || decide (f i = k0)) := rfl
    have hfi : f i < 2147483648 ∨ True := Or.inr trivial
    by_cases e : nI (f i) = nI k0
    · sorry
    · sorry
end
