/-! An AIR is told: the reference, the class. -/
section
variable (L : Nat) (xs : Nat → Int32) (O : Int64) {tx : Nat → Nat}
theorem ar_63 {d : Nat} (hd : 7 ≤ d) (n0 na : Nat) (hna : na < 6) {a1 : Int32} (M M1 : Mem) (hX1 : MX M1 tx n0) (hT1 : MPT M1 n0 (bl tx n0 (.inl 0))) (h71 : M1 40 0 7 = nI 0) (h11 : M1 40 0 1 = 0) (g1 : Fr sAf M M1) (z1 : M1 40 0 0 = 0) (h26 : M1 40 0 26 = nI na) {st : Ar × TS} (hst : asR tx n0 21 = st) (f k : Nat) (hfu : 2000 ≤ f) : isI (BK L xs (EX L xs (d + 1)) mi_X7_air (RN L xs (d) mi_X7_air f) (k + 1400) 63 [some (.inr (.inr (40, 0))), some (.inl (a1)), some (.inl (0))] [] (mput M1 40 0 3 (-1)) O none 0 0) O (match st.2 with
    | .inl _ => nI na
    | .inr e => nI e.1 - 10) (fun M' => M' 40 0 0 = 0 ∧ M' 40 0 1 = 0 ∧ match st.2 with
    | .inl _ => Fr (fun g i k => decide ((g = 40 ∧ (k ≤ 7 ∨ k = 26)) ∨ g = 65 ∨ (g = 67 ∧ i = na))) M M' ∧ M' 40 0 3 = -1 ∧ MA M' na st.1 ∧ M' 40 0 26 = nI (na + 1)
    | .inr e => Fr sAf M M' ∧ M' 40 0 3 = nI e.2) := by
  generalize hM1' : mput M1 40 0 3 (-1) = M1'
  have g1' : Fr sAf M M1' := by
    rw [← hM1']
    exact Fr_put g1 rfl
  have e1' : ∀ k, k ≠ 3 → M1' 40 0 k = M1 40 0 k := fun k hk => by rw [← hM1', mp_k hk]
  have hX1' : MX M1' tx n0 := ⟨hX1.1, (e1' 2 (by omega)).trans hX1.2.1, fun i hi => by rw [← hM1']; exact hX1.2.2 i hi⟩
  refine ar_clr L xs O (P := fun r => isI r O _ _) M1' f k (by omega) (fun f2 k2 a2 M2 hf2 fr2 hz2 => ?_)
  have e2 : ∀ k, k ≠ 3 → M2 40 0 k = M1 40 0 k := fun k hk => (fr2 40 0 k rfl).trans (e1' k hk)
  have hX2 : MX M2 tx n0 := ⟨hX1'.1, (fr2 40 0 2 rfl).trans hX1'.2.1, fun i hi => ⟨(fr2 41 0 i rfl).trans (hX1'.2.2 i hi).1, (hX1'.2.2 i hi).2⟩⟩
  refine ar_rd L xs O (P := fun r => isI r O _ _) (by omega) M2 hX2 hz2 (MPT_e hT1 (fun k a b => e2 k (by omega))) ((e2 7 (by omega)).trans h71) f2 k2 (by omega) (fun f3 k3 M3 hf3 fr3 t3 r3 => ?_)
  rw [hst] at t3 r3
  clear hst
  have g3 : Fr sAf M M3 := Fr_trans (Fr_trans g1' (Fr_mono (fun g i k h => sG_o (by have := of_decide_eq_false h; omega)) fr2)) (Fr_mono sAf_r fr3)
  have z3 : M3 40 0 0 = 0 := (fr3 40 0 0 rfl).trans ((e2 0 (by omega)).trans z1)
  have y3 : M3 40 0 1 = 0 := (fr3 40 0 1 rfl).trans ((e2 1 (by omega)).trans h11)
  have h263 : M3 40 0 26 = nI na := (fr3 40 0 26 rfl).trans ((e2 26 (by omega)).trans h26)
  obtain ⟨A, ts⟩ := st
  rw [e_X7_air_131]
  cases ts with
  | inr e =>
    obtain ⟨-, a, b, c5, c6⟩ := (show MPT M3 n0 (.inr e) from t3)
    dsimp only
    rw [if_neg (by rw [c5, zeq_0 (by omega)]; omega), c5, c6]
    exact isI_i ⟨(mp_k (by omega)).trans z3, (mp_k (by omega)).trans y3, Fr_put g3 rfl, mp_s⟩
  | inl p =>
    obtain ⟨-, -, c5, c6⟩ := (show MPT M3 n0 (.inl (scn tx n0 isB p)) from t3)
    dsimp only at r3 ⊢
    rw [if_pos c5, c6]
    have hR : MRa (mput M3 40 0 3 (-1)) A := r3 rfl
    refine isI_m (ar_cpy L xs O (mput M3 40 0 3 (-1)) na hna ((mp_k (by omega)).trans h263) hR f3 _ (by omega)) ?_
    rintro M4 ⟨f4, m4, b26⟩
    refine ⟨?_, ?_, ?_, ?_, m4, b26⟩
    · rw [f4 40 0 0 (decide_eq_false (by omega)), mp_k (by omega)]
      exact z3
    · rw [f4 40 0 1 (decide_eq_false (by omega)), mp_k (by omega)]
      exact y3
    · exact Fr_trans (Fr_put (Fr_mono (fun g i k h => decide_eq_false (by have := of_decide_eq_false h; omega)) g3) (decide_eq_true (by omega))) (Fr_mono (fun g i k h => decide_eq_false (by have := of_decide_eq_false h; omega)) f4)
    · rw [f4 40 0 3 (decide_eq_false (by omega)), mp_s]
theorem x7_air_in {D : Nat} (hD : 9 ≤ D) (n0 nt na : Nat) (hn : n0 ≤ nt) (hnt : nt ≤ 600) (hn2 : n0 ≤ 200) (hna : na ≤ 6) (M : Mem) (h1 : M 40 0 1 = nI nt) (h26 : M 40 0 26 = nI na) (hb : ∀ i, i < n0 → M 41 0 i = nI (tx i) ∧ tx i < 256) : isI (EX L xs (D) q_X7_air [.inr (.inr (40, 0)), .inl (nI n0)] M O) O (if na = 6 then -1 else match (asR tx n0 21).2 with
    | .inl _ => nI na
    | .inr e => nI e.1 - 10) (fun M' => M' 40 0 0 = 0 ∧ M' 40 0 1 = 0 ∧ if na = 6 then Fr sAf M M' ∧ M' 40 0 3 = -1 else match (asR tx n0 21).2 with
    | .inl _ => Fr (fun g i k => decide ((g = 40 ∧ (k ≤ 7 ∨ k = 26)) ∨ g = 65 ∨ (g = 67 ∧ i = na))) M M' ∧ M' 40 0 3 = -1 ∧ MA M' na (asR tx n0 21).1 ∧ M' 40 0 26 = nI (na + 1)
    | .inr e => Fr sAf M M' ∧ M' 40 0 3 = nI e.2) := by
  obtain ⟨d, rfl⟩ : ∃ d, D = d + 2 := ⟨D - 2, by omega⟩
  refine isI_e (EX_in mi_X7_air rfl rfl rfl (ls := [some (.inr (.inr (40, 0))), some (.inl (nI n0)), none]) rfl) ?_
  have hfu := FU (n := 2000) (by omega)
  generalize hst : asR tx n0 21 = st
  generalize hM0 : mput M 40 0 0 0 = M0
  have g0 : Fr sAf M M0 := by
    rw [← hM0]
    exact Fr_put Fr_refl rfl
  have z0 : M0 40 0 0 = 0 := by rw [← hM0, mp_s]
  obtain ⟨M1, q1, f1, hX1, hT1, h71, h11⟩ := x7_starts L xs O (D := d + 1) (by omega) n0 (by omega) M0 (tx := tx) (fun i hi => by rw [← hM0]; exact hb i hi)
  have g1 : Fr sAf M M1 := Fr_trans g0 (Fr_mono (fun g i k h => decide_eq_false (by have := of_decide_eq_false h; omega)) f1)
  have z1 : M1 40 0 0 = 0 := (f1 40 0 0 rfl).trans z0
  have h261 : M1 40 0 26 = nI na := by rw [f1 40 0 26 rfl, ← hM0, mp_k (by omega), h26]
  rw [e_X7_air_0, hM0, h1, x7_in L xs O (D := d + 1) (by omega), if_neg (nn_n n0 (by omega)), if_neg (by rw [hl_lt (by omega) (by omega)]; omega)]
  simp only [xr_v, Nat.reduceAdd, Nat.add_zero]
  rw [e_X7_air_15, if_neg (by decide), if_pos (by rw [zle_200 (by omega)]; exact hn2), e_X7_air_30, x7_bad_0 L xs O (D := d + 1) (by omega) 1 2 M0 z0]
  simp only [xr_v, Nat.reduceAdd, Nat.add_zero]
  rw [e_X7_air_35, if_pos rfl, q1]
  simp only [xr_n, Nat.reduceAdd, Nat.add_zero]
  rw [e_X7_air_45, h261]
  by_cases c : na = 6
  · rw [if_pos (by rw [zeq_6 (by omega)]; exact c), if_pos c]
    refine isI_i ⟨(mp_k (by omega)).trans z1, (mp_k (by omega)).trans h11, ?_⟩
    rw [if_pos c]
    exact ⟨Fr_put g1 rfl, mp_s⟩
  · rw [if_neg (by rw [zeq_6 (by omega)]; exact c), if_neg c]
    refine isI_m (ar_63 L xs O (by omega) n0 na (by omega) M M1 hX1 hT1 h71 h11 g1 z1 h261 hst FUEL _ (by omega)) ?_
    rintro M' ⟨a, b, c'⟩
    refine ⟨a, b, ?_⟩
    rw [if_neg c]
    exact c'
/-- what the class changes when it is told an AIR -/
def sCA (na g i k : Nat) : Bool := decide ((g = 1 ∧ k ≤ 5) ∨ ((g = 18 ∨ g = 19) ∧ i = na))
theorem c_air {D : Nat} (hD : 10 ≤ D) (n0 nt na : Nat) (hn : n0 ≤ nt) (hnt : nt ≤ 600) (hn2 : n0 ≤ 200) (hna : na ≤ 6) (M : Mem) (h6 : M 0 0 6 = nI na) (h11 : M 1 0 1 = nI nt) (hb : ∀ i, i < n0 → M 2 0 i = nI (tx i) ∧ tx i < 256) : isI (EX L xs (D) q_X6_air [.inr (.inr (0, 0)), .inl (nI n0)] M O) O (if na = 6 then -1 else match (asR tx n0 21).2 with
    | .inl _ => nI na
    | .inr e => nI e.1 - 10) (fun M' => M' 1 0 1 = 0 ∧ if na = 6 then Fr (sCA na) M M' ∧ M' 1 0 5 = -1 else match (asR tx n0 21).2 with
    | .inl _ => Fr (fun g i k => decide ((g = 1 ∧ k ≤ 5) ∨ ((g = 18 ∨ g = 19) ∧ i = na) ∨ (g = 0 ∧ k = 6))) M M' ∧ M' 1 0 5 = -1 ∧ CA M' na (asR tx n0 21).1 ∧ M' 0 0 6 = nI (na + 1)
    | .inr e => Fr (sCA na) M M' ∧ M' 1 0 5 = nI e.2) := by
  obtain ⟨d, rfl⟩ : ∃ d, D = d + 2 := ⟨D - 2, by omega⟩
  generalize hM1 : mput (mput (mput (mput (mput M 1 0 2 (nI n0)) 1 0 3 0) 1 0 4 0) 1 0 5 (-1)) 1 0 1 0 = M1
  have g1 : Fr (sCA na) M M1 := by
    rw [← hM1]
    exact Fr_put (Fr_put (Fr_put (Fr_put (Fr_put Fr_refl (decide_eq_true (by omega))) (decide_eq_true (by omega))) (decide_eq_true (by omega))) (decide_eq_true (by omega))) (decide_eq_true (by omega))
  have hX1 : TX M1 tx n0 := by
    refine ⟨by omega, ?_, fun i hi => ?_⟩
    · rw [← hM1, mp_k (by omega), mp_k (by omega), mp_k (by omega), mp_k (by omega), mp_s]
    · rw [g1 2 0 i (decide_eq_false (by omega))]
      exact hb i hi
  have h15 : M1 1 0 5 = -1 := by rw [← hM1, mp_k (by omega), mp_s]
  have hT1 : TP M1 n0 0 (.inl 0) := by
    refine ⟨Nat.zero_le _, ?_, ?_, h15⟩
    · rw [← hM1, mp_k (by omega), mp_k (by omega), mp_k (by omega), mp_s]
      rfl
    · rw [← hM1, mp_k (by omega), mp_k (by omega), mp_s]
  have y1 : M1 1 0 1 = 0 := by rw [← hM1, mp_s]
  have k6 : M1 0 0 6 = nI na := (g1 0 0 6 (decide_eq_false (by omega))).trans h6
  generalize hst : asR tx n0 21 = st
  refine isI_e (EX_in mi_X6_air rfl rfl rfl (ls := [some (.inr (.inr (0, 0))), some (.inl (nI n0))]) rfl) ?_
  have emin : ¬ (if (200 : Int32) < nI nt then (200 : Int32) else nI nt) < nI n0 := by
    by_cases c : (200 : Int32) < nI nt
    · rw [if_pos c, show (200 : Int32) = nI 200 from rfl, hl_lt (by omega) (by omega)]
      omega
    · rw [if_neg c, hl_lt (by omega) (by omega)]
      omega
  rw [e_X6_air_0, if_neg (nn_n n0 (by omega)), h11, e_X6_air_19, if_neg emin, e_X6_air_27, x6_needArg_1 L xs O (D := d + 1) (by omega) M]
  simp only [xr_n, Nat.reduceAdd, Nat.add_zero]
  rw [e_X6_air_30, x5_open L xs O (D := d + 1) (by omega) n0 (by omega) M, hM1]
  simp only [xr_n, Nat.reduceAdd, Nat.add_zero]
  rw [e_X6_air_38, k6]
  by_cases c : na = 6
  · rw [if_neg (by rw [zlt_6 (by omega)]; omega), if_pos c]
    refine isI_i ⟨y1, ?_⟩
    rw [if_pos c]
    exact ⟨g1, h15⟩
  · obtain ⟨M2, q2, f2, t2, r2⟩ := x0_read L xs O (D := d + 1) (by omega) na M1 hX1 hT1
    rw [hst] at t2 r2
    clear hst
    have g2 : Fr (sCA na) M M2 := Fr_trans g1 (Fr_mono (fun g i k h => decide_eq_false (by have := of_decide_eq_false h; omega)) f2)
    have y2 : M2 1 0 1 = 0 := (f2 1 0 1 (decide_eq_false (by omega))).trans y1
    have k62 : M2 0 0 6 = nI na := (g2 0 0 6 (decide_eq_false (by omega))).trans h6
    rw [if_pos (by rw [zlt_6 (by omega)]; omega), if_pos (in_6 (by omega)), hl_cl (by omega), Nat.zero_add, q2, if_neg c]
    simp only [xr_n, Nat.reduceAdd, Nat.add_zero]
    rw [e_X6_air_65]
    obtain ⟨A, ts⟩ := st
    cases ts with
    | inr e =>
      obtain ⟨-, a, b, -, c4, c5⟩ := (show TP M2 n0 1 (.inr e) from t2)
      dsimp only
      rw [if_neg (by rw [c4, zeq_0 (by omega)]; omega), c4]
      refine isI_i ⟨y2, ?_⟩
      rw [if_neg c]
      exact ⟨g2, c5⟩
    | inl p =>
      obtain ⟨-, -, c4, c5⟩ := (show TP M2 n0 1 (.inl p) from t2)
      dsimp only at r2 ⊢
      rw [if_pos c4, k62, zadd_1, zsub_1 (by omega)]
      refine isI_i ⟨y2, ?_⟩
      rw [if_neg c]
      exact ⟨Fr_put (Fr_mono (fun g i k h => decide_eq_false (by have := of_decide_eq_false h; omega)) g2) (decide_eq_true (by omega)), c5, r2 rfl, mp_s⟩
end
