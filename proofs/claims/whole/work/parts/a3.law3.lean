/-! The law's loop. -/
section
variable (L : Nat) (xs : Nat → Int32)
theorem and63 (x : Int32) : 0 ≤ (x &&& 63).toInt ∧ (x &&& 63).toInt < 64 := by
  have h : (x &&& 63).toBitVec.toNat < 64 := by
    show (x.toBitVec &&& 63#32).toNat < 64
    rw [BitVec.toNat_and]
    exact Nat.lt_of_le_of_lt Nat.and_le_right (by decide)
  have e : (x &&& 63).toInt = (x &&& 63).toBitVec.toInt := rfl
  rw [e, BitVec.toInt_eq_toNat_cond, if_pos (by omega)]
  omega
set_option maxHeartbeats 4000000 in
theorem r_any {P : Res → Prop} {back : BackT} {M : Mem} {O : Int64} {a c s : Nat} {u5 u6 u7 : Option AV} (z : Int32) (hz : 0 ≤ z.toInt) (hL : L ≤ 3072) (ha : a + 6 ≤ L) (hI : INV M)
    (hb : ∀ M O c2 s2 u5 u6 u7, INV M → c2 ≤ c + 2 → s2 ≤ s + 14 → P (back 23 [some (.inr (.inr (91, 0))), some (.inr (.inr (0, 0))), some (.inr (.inr (40, 0))), some (.inr (.inr (83, 0))), some (.inl (nI a + 6)), u5, u6, u7] M O none c2 s2)) :
    P (BK L xs (EX L xs 14) mi_L_law back 2989 40 [some (.inr (.inr (91, 0))), some (.inr (.inr (0, 0))), some (.inr (.inr (40, 0))), some (.inr (.inr (83, 0))), some (.inl (nI a)), u5, u6, u7] [.inl z] M O none c s) := by
  by_cases h35 : 35 < z.toInt
  · rw [e_L_law_40_d _ _ _ _ _ _ _ _ _ _ _ _ _ _ _ (Or.inr h35), e_L_law_2586]
    exact hb _ _ _ _ _ _ _ hI (by omega) (by omega)
  · obtain ⟨h1, h2, h3⟩ := i_nat hz
    generalize hj : z.toNatClampNeg = j at *
    subst h1
    have hj35 : j ≤ 35 := by omega
    clear hj h2 h3 h35 hz
    match j, hj35 with
    | 0, _ => exact r_feed L xs hL ha hI hb
    | 1, _ => exact r_land L xs hL ha hI hb
    | 2, _ => exact r_air L xs hL ha hI hb
    | 3, _ => exact r_fault L xs hL ha hI hb
    | 4, _ => exact r_told L xs hL ha hI hb
    | 5, _ => exact r_cell L xs hL ha hI hb
    | 6, _ => exact r_hum L xs hL ha hI hb
    | 7, _ => exact r_ear L xs hL ha hI hb
    | 8, _ => exact r_does L xs hL ha hI hb
    | 9, _ => exact r_ray L xs hL ha hI hb
    | 10, _ => exact r_left L xs hL ha hI hb
    | 11, _ => exact r_loud L xs hL ha hI hb
    | 12, _ => exact r_at L xs hL ha hI hb
    | 13, _ => exact r_hears L xs hL ha hI hb
    | 14, _ => exact r_zones L xs hL ha hI hb
    | 15, _ => exact r_why L xs hL ha hI hb
    | 16, _ => exact r_nights L xs hL ha hI hb
    | 17, _ => exact r_wakes L xs hL ha hI hb
    | 18, _ => exact r_badly L xs hL ha hI hb
    | 19, _ => exact r_mean L xs hL ha hI hb
    | 20, _ => exact r_hides L xs hL ha hI hb
    | 21, _ => exact r_least L xs hL ha hI hb
    | 22, _ => exact r_bound L xs hL ha hI hb
    | 23, _ => exact r_helps L xs hL ha hI hb
    | 24, _ => exact r_bell L xs hL ha hI hb
    | 25, _ => exact r_which L xs hL ha hI hb
    | 26, _ => exact r_saying L xs hL ha hI hb
    | 27, _ => exact r_tell L xs hL ha hI hb
    | 28, _ => exact r_bang L xs hL ha hI hb
    | 29, _ => exact r_click L xs hL ha hI hb
    | 30, _ => exact r_wagons L xs hL ha hI hb
    | 31, _ => exact r_forget L xs hL ha hI hb
    | 32, _ => exact r_image L xs hL ha hI hb
    | 33, _ => exact r_restore L xs hL ha hI hb
    | 34, _ => exact r_status L xs hL ha hI hb
    | 35, _ => exact r_count L xs hL ha hI hb
    | j + 36, h => exact absurd h (by omega)
theorem law_run (hL : L ≤ 3072) : ∀ f a M O c s u5 u6 u7, INV M → a ≤ L → L < a + 6 * (f + 1) → ∃ M2 O2 c2 s2, RN L xs 13 mi_L_law (f + 1) 23 [some (.inr (.inr (91, 0))), some (.inr (.inr (0, 0))), some (.inr (.inr (40, 0))), some (.inr (.inr (83, 0))), some (.inl (nI a)), u5, u6, u7] M O none c s = some (.inl (some (.inl 1)), M2, O2, c2, s2) ∧ c2 ≤ c + 2 * (f + 1) ∧ s2 ≤ s + 14 * (f + 1) := by
  intro f
  induction f with
  | zero =>
    intro a M O c s u5 u6 u7 hI ha hf
    rw [RN_s, e_L_law_23, if_pos ((lw_end hL (by omega)).mpr (by omega))]
    exact ⟨_, _, _, _, rfl, by omega, by omega⟩
  | succ f ih =>
    intro a M O c s u5 u6 u7 hI ha hf
    rw [RN_s, e_L_law_23]
    by_cases he : L < a + 6
    · rw [if_pos ((lw_end hL (by omega)).mpr he)]
      exact ⟨_, _, _, _, rfl, by omega, by omega⟩
    · rw [if_neg (fun q => he ((lw_end hL (by omega)).mp q)), if_pos (hl_in (show a < L by omega) (by omega))]
      refine r_any L xs (P := fun r => ∃ M2 O2 c2 s2, r = some (.inl (some (.inl 1)), M2, O2, c2, s2) ∧ c2 ≤ c + 2 * (f + 1 + 1) ∧ s2 ≤ s + 14 * (f + 1 + 1)) _ (and63 _).1 hL (by omega) hI ?_
      intro M1 O1 c1 s1 v5 v6 v7 hI1 h1 h2
      rw [zadd_6]
      obtain ⟨M2, O2, c2, s2, e, k1, k2⟩ := ih (a + 6) M1 O1 c1 s1 v5 v6 v7 hI1 (by omega) (by omega)
      exact ⟨M2, O2, c2, s2, e, by omega, by omega⟩
end
