/-! The reference is told a LAND, whole. -/
def sLF (g _i k : Nat) : Bool := decide ((g = 40 ∧ k ≤ 7) ∨ g = 43 ∨ (45 ≤ g ∧ g ≤ 48) ∨ g = 54 ∨ g = 58 ∨ g = 62)
theorem sLF_B (g i k : Nat) (h : sLF g i k = false) : sB g i k = false := by
  have := of_decide_eq_false h
  exact decide_eq_false (by omega)
theorem sLF_6 (g i k : Nat) (h : sLF g i k = false) : sN6 g i k = false := by
  have := of_decide_eq_false h
  exact decide_eq_false (by omega)
theorem sLF_4 (g i k : Nat) (h : sLF g i k = false) : sM4 g i k = false := by
  have := of_decide_eq_false h
  exact decide_eq_false (by omega)
theorem sLM_F (g i k : Nat) (h : sLM g i k = false) : sLF g i k = false := by
  have := of_decide_eq_false h
  exact decide_eq_false (by omega)
theorem sLM_C (g i k : Nat) (h : sLM g i k = false) : sCp g i k = false := by
  have := of_decide_eq_false h
  exact decide_eq_false (by omega)
section
variable (L : Nat) (xs : Nat → Int32) (O : Int64) {tx : Nat → Nat}
theorem x7_starts {D : Nat} (hD : 4 ≤ D) (n0 : Nat) (hn : n0 ≤ 600) (M : Mem) (hb : ∀ i, i < n0 → M 41 0 i = nI (tx i) ∧ tx i < 256) : isV (EX L xs (D) q_X7_starts [.inr (.inr (40, 0)), .inl (nI n0)] M O) O (fun M' => Fr (fun g _ k => decide (g = 40 ∧ 1 ≤ k ∧ k ≤ 7)) M M' ∧ MX M' tx n0 ∧ MPT M' n0 (bl tx n0 (.inl 0)) ∧ M' 40 0 7 = nI 0 ∧ M' 40 0 1 = 0) := by
  obtain ⟨d, rfl⟩ : ∃ d, D = d + 2 := ⟨D - 2, by omega⟩
  refine isV_e (EX_in mi_X7_starts rfl rfl rfl (ls := [some (.inr (.inr (40, 0))), some (.inl (nI n0))]) rfl) ?_
  rw [e_X7_starts_0]
  generalize hM1 : mput (mput (mput (mput (mput (mput M 40 0 1 0) 40 0 2 (nI n0)) 40 0 4 0) 40 0 5 0) 40 0 6 (-1)) 40 0 7 0 = M1
  have g1 : Fr (fun g _ k => decide (g = 40 ∧ 1 ≤ k ∧ k ≤ 7)) M M1 := by
    rw [← hM1]
    exact Fr_put (Fr_put (Fr_put (Fr_put (Fr_put (Fr_put Fr_refl rfl) rfl) rfl) rfl) rfl) rfl
  have hX1 : MX M1 tx n0 := by
    refine ⟨hn, ?_, fun i hi => ?_⟩
    · rw [← hM1, mp_k (by omega), mp_k (by omega), mp_k (by omega), mp_k (by omega), mp_s]
    · rw [g1 41 0 i (decide_eq_false (by omega))]
      exact hb i hi
  have h4 : M1 40 0 4 = nI 0 := by
    rw [← hM1, mp_k (by omega), mp_k (by omega), mp_k (by omega), mp_s]
    rfl
  have h5 : M1 40 0 5 = 0 := by
    rw [← hM1, mp_k (by omega), mp_k (by omega), mp_s]
  have h6 : M1 40 0 6 = -1 := by
    rw [← hM1, mp_k (by omega), mp_s]
  have h7 : M1 40 0 7 = nI 0 := by
    rw [← hM1, mp_s]
    rfl
  have h1 : M1 40 0 1 = 0 := by
    rw [← hM1, mp_k (by omega), mp_k (by omega), mp_k (by omega), mp_k (by omega), mp_k (by omega), mp_s]
  obtain ⟨M2, q2, f2, c2⟩ := x7_blanks L xs O (D := d + 1) (by omega) 0 (by omega) M1 hX1 h4
  rw [q2]
  simp only [xr_n, Nat.reduceAdd, Nat.add_zero]
  rw [e_X7_starts_34]
  refine isV_i ⟨Fr_trans g1 (Fr_mono (fun g i k h => decide_eq_false (by have := of_decide_eq_false h; omega)) f2), MX_fr hX1 (Fr_mono (fun _ _ _ => sM_4) f2), ⟨scn_le (Nat.zero_le _), c2, (f2 40 0 5 rfl).trans h5, (f2 40 0 6 rfl).trans h6⟩, (f2 40 0 7 rfl).trans h7, (f2 40 0 1 rfl).trans h1⟩
theorem ld_40 {d : Nat} (hd : 7 ≤ d) (n0 : Nat) {a1 : Int32} {u3 : Option AV} {U0 : Vw} (hz : Z0 U0) (M M1 : Mem) (hX1 : MX M1 tx n0) (hT1 : MPT M1 n0 (bl tx n0 (.inl 0))) (h71 : M1 40 0 7 = nI 0) (h11 : M1 40 0 1 = 0) (g1 : Fr sLF M M1) (z1 : M1 40 0 0 = 0) {st : Vw × TS} (hst : rd tx n0 U0 61 = st) (hin : RK st.1) (f k : Nat) (hfu : 2000 ≤ f) : isI (BK L xs (EX L xs (d + 1)) mi_X7_land (RN L xs (d) mi_X7_land f) (k + 2000) 40 [some (.inr (.inr (40, 0))), some (.inl (a1)), some (.inl (0)), u3] [] M1 O none 0 0) O (match st.2 with
    | .inl _ => nI (vN st.1 3 4)
    | .inr e => nI e.1 - 10) (fun M' => Fr sLM M M' ∧ M' 40 0 0 = 0 ∧ M' 40 0 1 = 0 ∧ match st.2 with
    | .inl _ => M' 40 0 3 = -1 ∧ MS M' st.1 (vN st.1 3 0) (vN st.1 3 4) (vN st.1 3 8) (vN st.1 3 13) ∧ MT M' st.1 (vN st.1 3 0) (vN st.1 3 4) (vN st.1 3 8) ∧ M' 40 0 29 = 0 ∧ M' 40 0 30 = 0 ∧ M' 40 0 31 = 0 ∧ ∀ k, k < 8 → M' 69 0 k = -2
    | .inr e => M' 40 0 3 = nI e.2 ∧ Fr sLF M M') := by
  refine ld_clr L xs O (P := fun r => isI r O _ _) M1 f k (by omega) (fun f2 k2 a2 M2 hf2 fr2 e2 hz2 => ?_)
  refine ld_rd L xs O (P := fun r => isI r O _ _) (by omega) M2 (MX_B hX1 (Fr_mono sB_6 fr2)) hz2 hz (MPT_e hT1 (fun k _ _ => e2 k)) ((e2 7).trans h71) f2 k2 (by omega) (fun f3 k3 M3 hf3 fr3 t3 r3 => ?_)
  have g3 : Fr sLF M M3 := Fr_trans (Fr_trans g1 (Fr_mono sLF_6 fr2)) (Fr_mono sLF_B fr3)
  have z3 : M3 40 0 0 = 0 := (fr3 40 0 0 rfl).trans ((e2 0).trans z1)
  have y3 : M3 40 0 1 = 0 := (fr3 40 0 1 rfl).trans ((e2 1).trans h11)
  rw [hst] at t3 r3
  clear hst
  obtain ⟨U, ts⟩ := st
  rw [e_X7_land_152]
  cases ts with
  | inr e =>
    obtain ⟨-, a, b, c5, c6⟩ := (show MPT M3 n0 (.inr e) from t3)
    dsimp only
    rw [if_neg (by rw [c5, zeq_0 (by omega)]; omega), c5, c6]
    have fr : Fr sLF M (mput M3 40 0 3 (nI e.2)) := Fr_put g3 rfl
    exact isI_i ⟨Fr_mono sLM_F fr, (mp_k (by omega)).trans z3, (mp_k (by omega)).trans y3, mp_s, fr⟩
  | inl p =>
    obtain ⟨-, -, c5, c6⟩ := (show MPT M3 n0 (.inl (scn tx n0 isB p)) from t3)
    dsimp only at r3 hin ⊢
    rw [if_pos c5, c6]
    have hR : MRd (mput M3 40 0 3 (-1)) U := r3 rfl
    refine isI_m (ld_cpy L xs O (mput M3 40 0 3 (-1)) hin hR f3 _ (by omega)) ?_
    rintro M4 ⟨f4, m4, t4, b29, b30, b31, b69⟩
    refine ⟨Fr_trans (Fr_put (Fr_mono sLM_F g3) rfl) (Fr_mono sLM_C f4), ?_, ?_, ?_, m4, t4, b29, b30, b31, b69⟩
    · rw [f4 40 0 0 rfl, mp_k (by omega)]
      exact z3
    · rw [f4 40 0 1 rfl, mp_k (by omega)]
      exact y3
    · rw [f4 40 0 3 rfl, mp_s]
theorem x7_land_in {D : Nat} (hD : 9 ≤ D) (n0 nt : Nat) (hn : n0 ≤ nt) (hnt : nt ≤ 600) (M : Mem) (h1 : M 40 0 1 = nI nt) (hb : ∀ i, i < n0 → M 41 0 i = nI (tx i) ∧ tx i < 256) {U0 : Vw} (hz : Z0 U0) : isI (EX L xs (D) q_X7_land [.inr (.inr (40, 0)), .inl (nI n0)] M O) O (match (rd tx n0 U0 61).2 with
    | .inl _ => nI (vN (rd tx n0 U0 61).1 3 4)
    | .inr e => nI e.1 - 10) (fun M' => Fr sLM M M' ∧ M' 40 0 0 = 0 ∧ M' 40 0 1 = 0 ∧ match (rd tx n0 U0 61).2 with
    | .inl _ => M' 40 0 3 = -1 ∧ MS M' (rd tx n0 U0 61).1 (vN (rd tx n0 U0 61).1 3 0) (vN (rd tx n0 U0 61).1 3 4) (vN (rd tx n0 U0 61).1 3 8) (vN (rd tx n0 U0 61).1 3 13) ∧ MT M' (rd tx n0 U0 61).1 (vN (rd tx n0 U0 61).1 3 0) (vN (rd tx n0 U0 61).1 3 4) (vN (rd tx n0 U0 61).1 3 8) ∧ M' 40 0 29 = 0 ∧ M' 40 0 30 = 0 ∧ M' 40 0 31 = 0 ∧ ∀ k, k < 8 → M' 69 0 k = -2
    | .inr e => M' 40 0 3 = nI e.2 ∧ Fr sLF M M') := by
  obtain ⟨d, rfl⟩ : ∃ d, D = d + 2 := ⟨D - 2, by omega⟩
  refine isI_e (EX_in mi_X7_land rfl rfl rfl (ls := [some (.inr (.inr (40, 0))), some (.inl (nI n0)), none, none]) rfl) ?_
  have hfu := FU (n := 2000) (by omega)
  have hin := (rd_in (tx := tx) (N := n0) hz 61).1
  generalize hst : rd tx n0 U0 61 = st at hin ⊢
  generalize hM0 : mput M 40 0 0 0 = M0
  have g0 : Fr sLF M M0 := by
    rw [← hM0]
    exact Fr_put Fr_refl rfl
  have z0 : M0 40 0 0 = 0 := by rw [← hM0, mp_s]
  obtain ⟨M1, q1, f1, hX1, hT1, h71, h11⟩ := x7_starts L xs O (D := d + 1) (by omega) n0 (by omega) M0 (tx := tx) (fun i hi => by rw [← hM0]; exact hb i hi)
  have g1 : Fr sLF M M1 := Fr_trans g0 (Fr_mono (fun g i k h => decide_eq_false (by have := of_decide_eq_false h; omega)) f1)
  have z1 : M1 40 0 0 = 0 := (f1 40 0 0 rfl).trans z0
  rw [e_X7_land_0, hM0, h1, x7_in L xs O (D := d + 1) (by omega), if_neg (nn_n n0 (by omega)), if_neg (by rw [hl_lt (by omega) (by omega)]; omega)]
  simp only [xr_v, Nat.reduceAdd, Nat.add_zero]
  rw [e_X7_land_15, if_neg (by decide), e_X7_land_23, x7_bad_0 L xs O (D := d + 1) (by omega) 1 2 M0 z0]
  simp only [xr_v, Nat.reduceAdd, Nat.add_zero]
  rw [e_X7_land_28, if_pos rfl, q1]
  simp only [xr_n, Nat.reduceAdd, Nat.add_zero]
  rw [e_X7_land_38]
  exact ld_40 L xs O (by omega) n0 hz M M1 hX1 hT1 h71 h11 g1 z1 hst hin FUEL 980 (by omega)
end
