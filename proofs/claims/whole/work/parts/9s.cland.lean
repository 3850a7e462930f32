/-! The class is told a LAND. -/
def md0 : Md := (fun _ => 0, 0, fun _ => -2, 0, fun _ => 0)
/-- what the class changes when it reads a LAND: its TAPE's marks, the spare LAND -/
def sCF (ib g i k : Nat) : Bool := decide ((g = 1 ∧ k ≤ 5) ∨ (3 ≤ g ∧ g ≤ 17 ∧ i = ib))
def sCL (ib g i k : Nat) : Bool := decide ((g = 1 ∧ k ≤ 5) ∨ (3 ≤ g ∧ g ≤ 17 ∧ (i = ib ∨ i = 2)) ∨ (g = 0 ∧ (k = 1 ∨ k = 2 ∨ k = 9 ∨ k = 12)) ∨ ((g = 20 ∨ g = 22) ∧ i = 0) ∨ g = 28)
theorem md0_ok (nw : Nat) : MdOK md0 nw := ⟨by decide, fun i hi => absurd hi (by show ¬ i < 0; omega), fun i j hi => absurd hi (by show ¬ i < 0; omega), fun k _ => Or.inl rfl, by decide, fun i hi => absurd hi (by show ¬ i < 0; omega), fun i j _ hj => absurd hj (by show ¬ j < 0; omega)⟩
section
variable (L : Nat) (xs : Nat → Int32) (O : Int64) {tx : Nat → Nat}
theorem x5_open {D : Nat} (hD : 2 ≤ D) (n0 : Nat) (hn : n0 ≤ 600) (M : Mem) : EX L xs (D) q_X5_open [.inr (.inr (1, 0)), .inl (nI n0)] M O = (some (.inl none, mput (mput (mput (mput (mput M 1 0 2 (nI n0)) 1 0 3 0) 1 0 4 0) 1 0 5 (-1)) 1 0 1 0, O, 0, 0) : Res) := by
  obtain ⟨d, rfl⟩ : ∃ d, D = d + 2 := ⟨D - 2, by omega⟩
  refine (EX_in mi_X5_open rfl rfl rfl (ls := [some (.inr (.inr (1, 0))), some (.inl (nI n0))]) rfl).trans ?_
  rw [e_X5_open_0, if_neg (by rw [show Int32.ofNat 600 = nI 600 from rfl, hl_lt (by omega) (by omega)]; omega), e_X5_open_10]
theorem x2_clear {D : Nat} (hD : 3 ≤ D) (M : Mem) : isV (EX L xs (D) q_X2_clear [.inr (.inr (20, 0))] M O) O (fun M' => Fr (fun g i _ => decide ((g = 20 ∨ g = 22) ∧ i = 0)) M M' ∧ CMd M' 0 md0) := by
  obtain ⟨d, rfl⟩ : ∃ d, D = d + 2 := ⟨D - 2, by omega⟩
  refine isV_e (EX_in mi_X2_clear rfl rfl rfl (ls := [some (.inr (.inr (20, 0)))]) rfl) ?_
  obtain ⟨M1, q1, f1, r1⟩ := x_fill L xs O (D := d + 1) (by omega) 0 (-2) (mput M 20 0 1 0)
  rw [e_X2_clear_0, q1]
  simp only [xr_n, Nat.reduceAdd, Nat.add_zero]
  rw [e_X2_clear_14]
  refine isV_i ⟨Fr_put (Fr_trans (Fr_put Fr_refl rfl) (Fr_mono (fun g i k h => ?_) f1)) rfl, ?_, fun j hj => absurd hj (by show ¬ j < 0; omega), fun k hk => ?_, mp_s, fun j hj => absurd hj (by show ¬ j < 0; omega)⟩
  · have := of_decide_eq_false h
    by_cases c : g = 22
    · exact sRow_i (by omega)
    · exact sRow_g c
  · rw [mp_k (by omega), f1 20 0 1 rfl, mp_s]
    rfl
  · rw [mp_g (by omega)]
    exact r1 k hk
theorem c_land {D : Nat} (hD : 10 ≤ D) (n0 nt : Nat) (hn : n0 ≤ nt) (hnt : nt ≤ 600) {T : Vw} {ia : Nat} (M : Mem) (hL : LndC M T ia) (h11 : M 1 0 1 = nI nt) (hb : ∀ i, i < n0 → M 2 0 i = nI (tx i) ∧ tx i < 256) : ∃ U0, Z0 U0 ∧ isI (EX L xs (D) q_X6_land [.inr (.inr (0, 0)), .inl (nI n0)] M O) O (match (rd tx n0 U0 61).2 with
    | .inl _ => nI (vN (rd tx n0 U0 61).1 3 4)
    | .inr e => nI e.1 - 10) (fun M' => M' 1 0 1 = 0 ∧ match (rd tx n0 U0 61).2 with
    | .inl _ => Fr (sCL (1 - ia)) M M' ∧ M' 1 0 5 = -1 ∧ LndC M' (rd tx n0 U0 61).1 (1 - ia) ∧ CMd M' 0 md0 ∧ CL M' 2 (rd tx n0 U0 61).1 ∧ CC0 M' ∧ M' 0 0 9 = 0
    | .inr e => Fr (sCF (1 - ia)) M M' ∧ M' 1 0 5 = nI e.2) := by
  obtain ⟨l1, l2, l3, l4⟩ := hL
  obtain ⟨d, rfl⟩ : ∃ d, D = d + 2 := ⟨D - 2, by omega⟩
  generalize hM1 : mput (mput (mput (mput (mput M 1 0 2 (nI n0)) 1 0 3 0) 1 0 4 0) 1 0 5 (-1)) 1 0 1 0 = M1
  have g1 : Fr (sCF (1 - ia)) M M1 := by
    rw [← hM1]
    exact Fr_put (Fr_put (Fr_put (Fr_put (Fr_put Fr_refl (decide_eq_true (by omega))) (decide_eq_true (by omega))) (decide_eq_true (by omega))) (decide_eq_true (by omega))) (decide_eq_true (by omega))
  have hX1 : TX M1 tx n0 := by
    refine ⟨by omega, ?_, fun i hi => ?_⟩
    · rw [← hM1, mp_k (by omega), mp_k (by omega), mp_k (by omega), mp_k (by omega), mp_s]
    · rw [g1 2 0 i (decide_eq_false (by omega))]
      exact hb i hi
  have hT1 : TP M1 n0 0 (.inl 0) := by
    refine ⟨Nat.zero_le _, ?_, ?_, ?_⟩
    · rw [← hM1, mp_k (by omega), mp_k (by omega), mp_k (by omega), mp_s]
      rfl
    · rw [← hM1, mp_k (by omega), mp_k (by omega), mp_s]
    · rw [← hM1, mp_k (by omega), mp_s]
  have y1 : M1 1 0 1 = 0 := by rw [← hM1, mp_s]
  obtain ⟨M2, q2, U0, hz, f2, t2, c2⟩ := x1_read L xs O (D := d + 1) (by omega) (1 - ia) M1 hX1 hT1
  refine ⟨U0, hz, ?_⟩
  have hin := (rd_in (tx := tx) (N := n0) hz 61).1
  generalize rd tx n0 U0 61 = st at *
  obtain ⟨U, ts⟩ := st
  have g2 : Fr (sCF (1 - ia)) M M2 := Fr_trans g1 (Fr_mono (fun g i k h => decide_eq_false (by have := of_decide_eq_false h; omega)) f2)
  have y2 : M2 1 0 1 = 0 := (f2 1 0 1 (decide_eq_false (by omega))).trans y1
  have k1 : M2 0 0 1 = nI ia := (g2 0 0 1 (decide_eq_false (by omega))).trans l2
  have k2 : M2 0 0 2 = nI (1 - ia) := (g2 0 0 2 (decide_eq_false (by omega))).trans l3
  have k12 : M1 0 0 2 = nI (1 - ia) := (g1 0 0 2 (decide_eq_false (by omega))).trans l3
  refine isI_e (EX_in mi_X6_land rfl rfl rfl (ls := [some (.inr (.inr (0, 0))), some (.inl (nI n0)), none]) rfl) ?_
  rw [e_X6_land_0, if_neg (nn_n n0 (by omega)), h11, if_neg (by rw [hl_lt (by omega) (by omega)]; omega), e_X6_land_21, x6_needArg_1 L xs O (D := d + 1) (by omega) M]
  simp only [xr_n, Nat.reduceAdd, Nat.add_zero]
  rw [e_X6_land_24, x5_open L xs O (D := d + 1) (by omega) n0 (by omega) M, hM1]
  simp only [xr_n, Nat.reduceAdd, Nat.add_zero]
  rw [e_X6_land_32, k12, hl_cl (by omega), if_pos (by omega), q2]
  simp only [xr_n, Nat.reduceAdd, Nat.add_zero]
  rw [e_X6_land_43]
  cases ts with
  | inr e =>
    obtain ⟨-, a, b, -, c4, c5⟩ := (show TP M2 n0 1 (.inr e) from t2)
    dsimp only
    rw [if_neg (by rw [c4, zeq_0 (by omega)]; omega), c4]
    exact isI_i ⟨y2, g2, c5⟩
  | inl p =>
    obtain ⟨-, -, c4, c5⟩ := (show TP M2 n0 1 (.inl p) from t2)
    dsimp only at c2 hin ⊢
    rw [if_pos c4, k1, k2, hl_cl (by omega), hl_cl (by omega), if_pos (by omega), if_pos (by omega)]
    generalize hM3 : mput (mput M2 0 0 1 (Int32.ofNat (1 - ia))) 0 0 2 (Int32.ofNat ia) = M3
    have f3 : Fr (fun g i k => decide (g = 0 ∧ (k = 1 ∨ k = 2))) M2 M3 := by
      rw [← hM3]
      exact Fr_put (Fr_put Fr_refl rfl) rfl
    obtain ⟨M4, q4, f4, c4'⟩ := x2_clear L xs O (D := d + 1) (by omega) M3
    rw [q4]
    simp only [xr_n, Nat.reduceAdd, Nat.add_zero]
    generalize hM5 : mput M4 0 0 9 0 = M5
    have f5 : Fr (fun g i k => decide (g = 0 ∧ k = 9)) M4 M5 := by
      rw [← hM5]
      exact Fr_put Fr_refl rfl
    have a5 : ∀ g i k, ¬ (g = 0 ∧ (k = 1 ∨ k = 2 ∨ k = 9)) → ¬ ((g = 20 ∨ g = 22) ∧ i = 0) → M5 g i k = M2 g i k := fun g i k h1 h2 => (f5 g i k (decide_eq_false (by omega))).trans ((f4 g i k (decide_eq_false (by omega))).trans (f3 g i k (decide_eq_false (by omega))))
    have b1 : M5 0 0 1 = nI (1 - ia) := by
      rw [f5 0 0 1 rfl, f4 0 0 1 rfl, ← hM3, mp_k (by omega), mp_s]
      rfl
    have b2 : M5 0 0 2 = nI ia := by
      rw [f5 0 0 2 rfl, f4 0 0 2 rfl, ← hM3, mp_s]
      rfl
    have hL5 : LndC M5 U (1 - ia) := ⟨by omega, b1, by rw [b2, show 1 - (1 - ia) = ia by omega], fun g k hl => (a5 g (1 - ia) k (by have := isLand_le (lk_land hl); omega) (by have := isLand_le (lk_land hl); omega)).trans (c2 g k hl)⟩
    have hC5 : CMd M5 0 md0 := CMd_e c4' (fun g k h1 h2 => f5 g 0 k (decide_eq_false (by omega)))
    obtain ⟨M6, q6, f6, c6, u6⟩ := x6_rebuild L xs O (D := d + 1) (by omega) hin.1 (md0_ok (vN U 3 13)) (1 - ia) M5 hL5 hC5
    rw [e_X6_land_89, hM5, q6]
    simp only [xr_n, Nat.reduceAdd, Nat.add_zero]
    have e6 : ∀ g i k, ¬ (g = 0 ∧ k = 12) → ¬ (3 ≤ g ∧ g ≤ 17 ∧ i = 2) → g ≠ 28 → M6 g i k = M5 g i k := fun g i k h1 h2 h3 => f6 g i k (decide_eq_false (by omega))
    rw [e_X6_land_98, (c6 3 4 rfl).trans hin.1.2.1]
    refine isI_i ⟨?_, ?_, ?_, ?_, ?_, c6, u6, ?_⟩
    · rw [e6 1 0 1 (by omega) (by omega) (by omega), a5 1 0 1 (by omega) (by omega)]
      exact y2
    · intro g i k h
      have h' := of_decide_eq_false h
      rw [e6 g i k (by omega) (by omega) (by omega), a5 g i k (by omega) (by omega), g2 g i k (decide_eq_false (by omega))]
    · rw [e6 1 0 5 (by omega) (by omega) (by omega), a5 1 0 5 (by omega) (by omega)]
      exact c5
    · exact LndC_e hL5 (fun k hk => e6 0 0 k (by omega) (by omega) (by omega)) (fun g i k h1 h2 h3 => e6 g i k (by omega) (by omega) (by omega))
    · exact CMd_e hC5 (fun g k h1 h2 => e6 g 0 k (by omega) (by omega) (by omega))
    · rw [e6 0 0 9 (by omega) (by omega) (by omega), ← hM5, mp_s]
end
