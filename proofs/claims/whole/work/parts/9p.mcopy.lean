/-! A LAND told: the reference copies it. -/
def sG (a b g _i _k : Nat) : Bool := decide (a ≤ g ∧ g ≤ b)
theorem sG_o {a b g i k : Nat} (h : g < a ∨ b < g) : sG a b g i k = false := decide_eq_false (by omega)
theorem sG_s {a b g i k : Nat} (h : a ≤ g) (h2 : g ≤ b) : sG a b g i k = true := decide_eq_true ⟨h, h2⟩
theorem in_v2 {a : Nat} (h : a < 2) : 0 ≤ (nI a).toInt ∧ (nI a).toInt < 2 := hl_in h (by decide)
theorem in_v4 {a : Nat} (h : a < 4) : 0 ≤ (nI a).toInt ∧ (nI a).toInt < 4 := in_4 h
theorem in_v5 {a : Nat} (h : a < 5) : 0 ≤ (nI a).toInt ∧ (nI a).toInt < 5 := in_5 h
section
variable (L : Nat) (xs : Nat → Int32) (O : Int64)
theorem ld_c1 {P : Res → Prop} {d : Nat} {a1 : Int32} {u3 : Option AV} (M : Mem) (f k : Nat) (hf : 10 ≤ f)
    (nx : ∀ f' k' M', f ≤ f' + 4 → Fr (sG 44 44) M M' → (∀ i, i < 4 → M' 44 0 i = M 43 0 i) → P (BK L xs (EX L xs (d + 1)) mi_X7_land (RN L xs (d) mi_X7_land (f')) (k' + 1300) 202 [some (.inr (.inr (40, 0))), some (.inl (a1)), some (.inl (0)), u3] [] M' O none 0 0)) : P (BK L xs (EX L xs (d + 1)) mi_X7_land (RN L xs (d) mi_X7_land f) (k + 1400) 177 [some (.inr (.inr (40, 0))), some (.inl (a1)), some (.inl (0)), u3] [] M O none 0 0) := by
  refine loopC L xs O (P := P) (fun j ls M' => ls = [some (.inr (.inr (40, 0))), some (.inl (a1)), some (.inl (nI j)), u3] ∧ Fr (sG 44 44) M M' ∧ ∀ i, i < j → M' 44 0 i = M 43 0 i) 4 1400 (by omega) ?_ ?_ (by omega) ⟨rfl, Fr_refl, fun i hi => absurd hi (by omega)⟩
  · rintro f k j _ M' hj ⟨rfl, fr, h⟩ ih
    rw [e_X7_land_177, if_neg (by rw [yle_4 (by omega)]; omega), if_pos (in_4 hj), if_pos (in_4 hj), hl_cl (by omega), zadd_1]
    refine ih _ _ ⟨rfl, Fr_put fr rfl, fun i hi => ?_⟩
    by_cases e : i = j
    · rw [e, mp_s]
      exact fr 43 0 j rfl
    · rw [mp_k e]
      exact h i (by omega)
  · rintro f1 k _ M1 hf1 ⟨rfl, fr1, h⟩
    rw [e_X7_land_177, if_pos (by decide)]
    exact nx _ _ _ (by omega) fr1 h
theorem ld_c2 {P : Res → Prop} {d : Nat} {a1 : Int32} {u3 : Option AV} (M : Mem) (f k : Nat) (hf : 50 ≤ f)
    (nx : ∀ f' k' M', f ≤ f' + 40 → Fr (sG 49 51) M M' → (∀ i, i < 40 → M' 49 0 i = M 45 0 i ∧ M' 50 0 i = M 46 0 i ∧ M' 51 0 i = M 47 0 i) → P (BK L xs (EX L xs (d + 1)) mi_X7_land (RN L xs (d) mi_X7_land (f')) (k' + 1200) 252 [some (.inr (.inr (40, 0))), some (.inl (a1)), some (.inl (0)), u3] [] M' O none 0 0)) : P (BK L xs (EX L xs (d + 1)) mi_X7_land (RN L xs (d) mi_X7_land f) (k + 1300) 202 [some (.inr (.inr (40, 0))), some (.inl (a1)), some (.inl (0)), u3] [] M O none 0 0) := by
  refine loopC L xs O (P := P) (fun j ls M' => ls = [some (.inr (.inr (40, 0))), some (.inl (a1)), some (.inl (nI j)), u3] ∧ Fr (sG 49 51) M M' ∧ ∀ i, i < j → M' 49 0 i = M 45 0 i ∧ M' 50 0 i = M 46 0 i ∧ M' 51 0 i = M 47 0 i) 40 1300 (by omega) ?_ ?_ (by omega) ⟨rfl, Fr_refl, fun i hi => absurd hi (by omega)⟩
  · rintro f k j _ M' hj ⟨rfl, fr, h⟩ ih
    have hin := in_40 hj
    rw [e_X7_land_202, if_neg (by rw [yle_40 (by omega)]; omega), if_pos hin, if_pos hin, if_pos hin, if_pos hin, if_pos hin, if_pos hin, hl_cl (by omega), zadd_1]
    refine ih _ _ ⟨rfl, Fr_put (Fr_put (Fr_put fr rfl) rfl) rfl, fun i hi => ?_⟩
    by_cases e : i = j
    · rw [e]
      refine ⟨?_, ?_, ?_⟩
      · rw [mp_g (by omega), mp_g (by omega), mp_s]
        exact fr 45 0 j rfl
      · rw [mp_g (by omega), mp_s]
        exact fr 46 0 j rfl
      · rw [mp_s]
        exact fr 47 0 j rfl
    · obtain ⟨a, b, c⟩ := h i (by omega)
      refine ⟨?_, ?_, ?_⟩
      · rw [mp_g (by omega), mp_g (by omega), mp_k e, a]
      · rw [mp_g (by omega), mp_k e, mp_g (by omega), b]
      · rw [mp_k e, mp_g (by omega), mp_g (by omega), c]
  · rintro f1 k _ M1 hf1 ⟨rfl, fr1, h⟩
    rw [e_X7_land_202, if_pos (by decide)]
    exact nx _ _ _ (by omega) fr1 h
theorem ld_c3 {P : Res → Prop} {d : Nat} {a1 : Int32} {u3 : Option AV} (M : Mem) (f k : Nat) (hf : 50 ≤ f)
    (nx : ∀ f' k' M', f ≤ f' + 24 → Fr (sG 52 52) M M' → (∀ i, i < 24 → M' 52 0 i = M 48 0 i) → P (BK L xs (EX L xs (d + 1)) mi_X7_land (RN L xs (d) mi_X7_land (f')) (k' + 1100) 278 [some (.inr (.inr (40, 0))), some (.inl (a1)), some (.inl (0)), u3] [] M' O none 0 0)) : P (BK L xs (EX L xs (d + 1)) mi_X7_land (RN L xs (d) mi_X7_land f) (k + 1200) 252 [some (.inr (.inr (40, 0))), some (.inl (a1)), some (.inl (0)), u3] [] M O none 0 0) := by
  refine loopC L xs O (P := P) (fun j ls M' => ls = [some (.inr (.inr (40, 0))), some (.inl (a1)), some (.inl (nI j)), u3] ∧ Fr (sG 52 52) M M' ∧ ∀ i, i < j → M' 52 0 i = M 48 0 i) 24 1200 (by omega) ?_ ?_ (by omega) ⟨rfl, Fr_refl, fun i hi => absurd hi (by omega)⟩
  · rintro f k j _ M' hj ⟨rfl, fr, h⟩ ih
    rw [e_X7_land_252, if_neg (by rw [yle_24 (by omega)]; omega), if_pos (in_24 hj), if_pos (in_24 hj), hl_cl (by omega), zadd_1]
    refine ih _ _ ⟨rfl, Fr_put fr rfl, fun i hi => ?_⟩
    by_cases e : i = j
    · rw [e, mp_s]
      exact fr 48 0 j rfl
    · rw [mp_k e]
      exact h i (by omega)
  · rintro f1 k _ M1 hf1 ⟨rfl, fr1, h⟩
    rw [e_X7_land_252, if_pos (by decide)]
    exact nx _ _ _ (by omega) fr1 h
theorem ld_c4 {P : Res → Prop} {d : Nat} {a1 : Int32} {u3 : Option AV} (M : Mem) (m : Nat) (hm : m ≤ 8) (h44 : M 44 0 1 = nI m) (f k : Nat) (hf : 50 ≤ f)
    (nx : ∀ f' k' u3 M', f ≤ f' + 40 → Fr (sG 56 56) M M' → (∀ i, i < m → ∀ q, q < 2 → M' 56 i q = M 54 i q) → P (BK L xs (EX L xs (d + 1)) mi_X7_land (RN L xs (d) mi_X7_land (f')) (k' + 1000) 325 [some (.inr (.inr (40, 0))), some (.inl (a1)), some (.inl (0)), u3] [] M' O none 0 0)) : P (BK L xs (EX L xs (d + 1)) mi_X7_land (RN L xs (d) mi_X7_land f) (k + 1100) 278 [some (.inr (.inr (40, 0))), some (.inl (a1)), some (.inl (0)), u3] [] M O none 0 0) := by
  refine loopB L xs O (P := P) (fun j ls M' => ∃ u3, ls = [some (.inr (.inr (40, 0))), some (.inl (a1)), some (.inl (nI j)), u3] ∧ Fr (sG 56 56) M M' ∧ ∀ i, i < j → ∀ q, q < 2 → M' 56 i q = M 54 i q) m 2 1100 f (by omega) ?_ ?_ m f k 0 _ M (by omega) (by omega) (by omega) ⟨_, rfl, Fr_refl, fun i hi => absurd hi (by omega)⟩
  · rintro f1 k j _ M1 hj hf1 ⟨u3, rfl, fr1, h1⟩ ih
    rw [e_X7_land_278, (fr1 44 0 1 rfl).trans h44, if_neg (by rw [hl_le (by omega) (by omega)]; omega)]
    refine loopC L xs O (P := P) (fun q ls M' => ls = [some (.inr (.inr (40, 0))), some (.inl (a1)), some (.inl (nI j)), some (.inl (nI q))] ∧ Fr (sG 56 56) M M' ∧ (∀ i, i < j → ∀ q, q < 2 → M' 56 i q = M 54 i q) ∧ ∀ q', q' < q → M' 56 j q' = M 54 j q') 2 500 (by omega) ?_ ?_ (by omega) ⟨rfl, fr1, h1, fun q hq => absurd hq (by omega)⟩
    · rintro f k q _ M' hq ⟨rfl, fr, h, h2⟩ ih2
      rw [e_X7_land_290, if_neg (by rw [yle_2 (by omega)]; omega), if_pos (in_8 (by omega)), if_pos (in_8 (by omega)), if_pos (in_v2 (by omega)), if_pos (in_v2 (by omega)), hl_cl (by omega), hl_cl (by omega), Nat.zero_add, zadd_1]
      refine ih2 _ _ ⟨rfl, Fr_put fr rfl, fun i hi q' hq' => ?_, fun q' hq' => ?_⟩
      · rw [mp_i (by omega)]
        exact h i hi q' hq'
      · by_cases e : q' = q
        · rw [e, mp_s]
          exact fr 54 j q rfl
        · rw [mp_k e]
          exact h2 q' (by omega)
    · rintro f2 k _ M2 hf2 ⟨rfl, fr, h, h2⟩
      rw [e_X7_land_290, if_pos (by decide), zadd_1]
      refine ih _ _ _ (by omega) ⟨_, rfl, fr, fun i hi q hq => ?_⟩
      by_cases e : i = j
      · rw [e]
        exact h2 q hq
      · exact h i (by omega) q hq
  · rintro f1 k _ M' hf1 ⟨u3, rfl, fr1, h1⟩
    rw [e_X7_land_278, (fr1 44 0 1 rfl).trans h44, if_pos (by rw [hl_le (by omega) (by omega)]; omega)]
    exact nx _ _ _ _ (by omega) fr1 h1
theorem ld_c5 {P : Res → Prop} {d : Nat} {a1 : Int32} {u3 : Option AV} (M : Mem) (m : Nat) (hm : m ≤ 6) (h44 : M 44 0 2 = nI m) (f k : Nat) (hf : 50 ≤ f)
    (nx : ∀ f' k' u3 M', f ≤ f' + 40 → Fr (sG 60 60) M M' → (∀ i, i < m → ∀ q, q < 4 → M' 60 i q = M 58 i q) → P (BK L xs (EX L xs (d + 1)) mi_X7_land (RN L xs (d) mi_X7_land (f')) (k' + 900) 372 [some (.inr (.inr (40, 0))), some (.inl (a1)), some (.inl (0)), u3] [] M' O none 0 0)) : P (BK L xs (EX L xs (d + 1)) mi_X7_land (RN L xs (d) mi_X7_land f) (k + 1000) 325 [some (.inr (.inr (40, 0))), some (.inl (a1)), some (.inl (0)), u3] [] M O none 0 0) := by
  refine loopB L xs O (P := P) (fun j ls M' => ∃ u3, ls = [some (.inr (.inr (40, 0))), some (.inl (a1)), some (.inl (nI j)), u3] ∧ Fr (sG 60 60) M M' ∧ ∀ i, i < j → ∀ q, q < 4 → M' 60 i q = M 58 i q) m 4 1000 f (by omega) ?_ ?_ m f k 0 _ M (by omega) (by omega) (by omega) ⟨_, rfl, Fr_refl, fun i hi => absurd hi (by omega)⟩
  · rintro f1 k j _ M1 hj hf1 ⟨u3, rfl, fr1, h1⟩ ih
    rw [e_X7_land_325, (fr1 44 0 2 rfl).trans h44, if_neg (by rw [hl_le (by omega) (by omega)]; omega)]
    refine loopC L xs O (P := P) (fun q ls M' => ls = [some (.inr (.inr (40, 0))), some (.inl (a1)), some (.inl (nI j)), some (.inl (nI q))] ∧ Fr (sG 60 60) M M' ∧ (∀ i, i < j → ∀ q, q < 4 → M' 60 i q = M 58 i q) ∧ ∀ q', q' < q → M' 60 j q' = M 58 j q') 4 500 (by omega) ?_ ?_ (by omega) ⟨rfl, fr1, h1, fun q hq => absurd hq (by omega)⟩
    · rintro f k q _ M' hq ⟨rfl, fr, h, h2⟩ ih2
      rw [e_X7_land_337, if_neg (by rw [yle_4 (by omega)]; omega), if_pos (in_6 (by omega)), if_pos (in_6 (by omega)), if_pos (in_v4 (by omega)), if_pos (in_v4 (by omega)), hl_cl (by omega), hl_cl (by omega), Nat.zero_add, zadd_1]
      refine ih2 _ _ ⟨rfl, Fr_put fr rfl, fun i hi q' hq' => ?_, fun q' hq' => ?_⟩
      · rw [mp_i (by omega)]
        exact h i hi q' hq'
      · by_cases e : q' = q
        · rw [e, mp_s]
          exact fr 58 j q rfl
        · rw [mp_k e]
          exact h2 q' (by omega)
    · rintro f2 k _ M2 hf2 ⟨rfl, fr, h, h2⟩
      rw [e_X7_land_337, if_pos (by decide), zadd_1]
      refine ih _ _ _ (by omega) ⟨_, rfl, fr, fun i hi q hq => ?_⟩
      by_cases e : i = j
      · rw [e]
        exact h2 q hq
      · exact h i (by omega) q hq
  · rintro f1 k _ M' hf1 ⟨u3, rfl, fr1, h1⟩
    rw [e_X7_land_325, (fr1 44 0 2 rfl).trans h44, if_pos (by rw [hl_le (by omega) (by omega)]; omega)]
    exact nx _ _ _ _ (by omega) fr1 h1
theorem ld_c6 {P : Res → Prop} {d : Nat} {a1 : Int32} {u3 : Option AV} (M : Mem) (m : Nat) (hm : m ≤ 8) (h44 : M 44 0 3 = nI m) (f k : Nat) (hf : 50 ≤ f)
    (nx : ∀ f' k' u3 M', f ≤ f' + 40 → Fr (sG 64 64) M M' → (∀ i, i < m → ∀ q, q < 4 → M' 64 i q = M 62 i q) → P (BK L xs (EX L xs (d + 1)) mi_X7_land (RN L xs (d) mi_X7_land (f')) (k' + 800) 434 [some (.inr (.inr (40, 0))), some (.inl (a1)), some (.inl (0)), u3] [] (mput (mput (mput M' 40 0 29 0) 40 0 30 0) 40 0 31 0) O none 0 0)) : P (BK L xs (EX L xs (d + 1)) mi_X7_land (RN L xs (d) mi_X7_land f) (k + 900) 372 [some (.inr (.inr (40, 0))), some (.inl (a1)), some (.inl (0)), u3] [] M O none 0 0) := by
  refine loopB L xs O (P := P) (fun j ls M' => ∃ u3, ls = [some (.inr (.inr (40, 0))), some (.inl (a1)), some (.inl (nI j)), u3] ∧ Fr (sG 64 64) M M' ∧ ∀ i, i < j → ∀ q, q < 4 → M' 64 i q = M 62 i q) m 4 900 f (by omega) ?_ ?_ m f k 0 _ M (by omega) (by omega) (by omega) ⟨_, rfl, Fr_refl, fun i hi => absurd hi (by omega)⟩
  · rintro f1 k j _ M1 hj hf1 ⟨u3, rfl, fr1, h1⟩ ih
    rw [e_X7_land_372, (fr1 44 0 3 rfl).trans h44, if_neg (by rw [hl_le (by omega) (by omega)]; omega)]
    refine loopC L xs O (P := P) (fun q ls M' => ls = [some (.inr (.inr (40, 0))), some (.inl (a1)), some (.inl (nI j)), some (.inl (nI q))] ∧ Fr (sG 64 64) M M' ∧ (∀ i, i < j → ∀ q, q < 4 → M' 64 i q = M 62 i q) ∧ ∀ q', q' < q → M' 64 j q' = M 62 j q') 4 500 (by omega) ?_ ?_ (by omega) ⟨rfl, fr1, h1, fun q hq => absurd hq (by omega)⟩
    · rintro f k q _ M' hq ⟨rfl, fr, h, h2⟩ ih2
      rw [e_X7_land_384, if_neg (by rw [yle_4 (by omega)]; omega), if_pos (in_8 (by omega)), if_pos (in_8 (by omega)), if_pos (in_v5 (by omega)), if_pos (in_v5 (by omega)), hl_cl (by omega), hl_cl (by omega), Nat.zero_add, zadd_1]
      refine ih2 _ _ ⟨rfl, Fr_put fr rfl, fun i hi q' hq' => ?_, fun q' hq' => ?_⟩
      · rw [mp_i (by omega)]
        exact h i hi q' hq'
      · by_cases e : q' = q
        · rw [e, mp_s]
          exact fr 62 j q rfl
        · rw [mp_k e]
          exact h2 q' (by omega)
    · rintro f2 k _ M2 hf2 ⟨rfl, fr, h, h2⟩
      rw [e_X7_land_384, if_pos (by decide), zadd_1]
      refine ih _ _ _ (by omega) ⟨_, rfl, fr, fun i hi q hq => ?_⟩
      by_cases e : i = j
      · rw [e]
        exact h2 q hq
      · exact h i (by omega) q hq
  · rintro f1 k _ M' hf1 ⟨u3, rfl, fr1, h1⟩
    rw [e_X7_land_372, (fr1 44 0 3 rfl).trans h44, if_pos (by rw [hl_le (by omega) (by omega)]; omega)]
    exact nx _ _ _ _ (by omega) fr1 h1
end
