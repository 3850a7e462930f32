/-! The reference is told a LAND. -/
def sCp (g _i k : Nat) : Bool := decide ((g = 40 ∧ (k = 29 ∨ k = 30 ∨ k = 31)) ∨ g = 44 ∨ (49 ≤ g ∧ g ≤ 52) ∨ g = 56 ∨ g = 60 ∨ g = 64 ∨ g = 69)
/-- what the reference changes when it is told a LAND -/
def sLM (g _i k : Nat) : Bool := decide ((g = 40 ∧ (k ≤ 7 ∨ k = 29 ∨ k = 30 ∨ k = 31)) ∨ (43 ≤ g ∧ g ≤ 64) ∨ g = 69)
section
variable (L : Nat) (xs : Nat → Int32) (O : Int64) {tx : Nat → Nat} {N : Nat}
theorem ld_cpy {d : Nat} {a1 : Int32} {u3 : Option AV} (M : Mem) {U : Vw} (hU : RK U) (hR : MRd M U) (f k : Nat) (hf : 400 ≤ f) : isI (BK L xs (EX L xs (d + 1)) mi_X7_land (RN L xs (d) mi_X7_land f) (k + 1400) 177 [some (.inr (.inr (40, 0))), some (.inl (a1)), some (.inl (0)), u3] [] M O none 0 0) O (nI (vN U 3 4)) (fun M' => Fr sCp M M' ∧ MS M' U (vN U 3 0) (vN U 3 4) (vN U 3 8) (vN U 3 13) ∧ MT M' U (vN U 3 0) (vN U 3 4) (vN U 3 8) ∧ M' 40 0 29 = 0 ∧ M' 40 0 30 = 0 ∧ M' 40 0 31 = 0 ∧ ∀ k, k < 8 → M' 69 0 k = -2) := by
  obtain ⟨⟨v0, v1, v2, v3, v4, v5, v6, v7, v8, -⟩, -⟩ := hU
  obtain ⟨r0, r1, r2, r3, r4, r5, r6, r7, r8⟩ := hR
  refine ld_c1 L xs O (P := fun r => isI r O _ _) M f k (by omega) (fun f1 k1 M1 hf1 fr1 h1 => ?_)
  refine ld_c2 L xs O (P := fun r => isI r O _ _) M1 f1 k1 (by omega) (fun f2 k2 M2 hf2 fr2 h2 => ?_)
  refine ld_c3 L xs O (P := fun r => isI r O _ _) M2 f2 k2 (by omega) (fun f3 k3 M3 hf3 fr3 h3 => ?_)
  have e44 : ∀ q, q < 4 → M3 44 0 q = M 43 0 q := fun q hq => (fr3 44 0 q rfl).trans ((fr2 44 0 q rfl).trans (h1 q hq))
  have c1 : M3 44 0 1 = nI (vN U 3 4) := (e44 1 (by omega)).trans r1
  refine ld_c4 L xs O (P := fun r => isI r O _ _) M3 (vN U 3 4) (by omega) c1 f3 k3 (by omega) (fun f4 k4 u4 M4 hf4 fr4 h4 => ?_)
  have c2 : M4 44 0 2 = nI (vN U 3 8) := (fr4 44 0 2 rfl).trans ((e44 2 (by omega)).trans r2)
  refine ld_c5 L xs O (P := fun r => isI r O _ _) M4 (vN U 3 8) (by omega) c2 f4 k4 (by omega) (fun f5 k5 u5 M5 hf5 fr5 h5 => ?_)
  have c3 : M5 44 0 3 = nI (vN U 3 13) := (fr5 44 0 3 rfl).trans ((fr4 44 0 3 rfl).trans ((e44 3 (by omega)).trans r3))
  refine ld_c6 L xs O (P := fun r => isI r O _ _) M5 (vN U 3 13) (by omega) c3 f5 k5 (by omega) (fun f6 k6 u6 M6 hf6 fr6 h6 => ?_)
  generalize hM7 : mput (mput (mput M6 40 0 29 0) 40 0 30 0) 40 0 31 0 = M7
  have e7 : ∀ g i k, g ≠ 40 → M7 g i k = M6 g i k := fun g i k hg => by
    rw [← hM7, mp_g hg, mp_g hg, mp_g hg]
  have all : ∀ g i k, ¬ (g = 44 ∨ (49 ≤ g ∧ g ≤ 52) ∨ g = 56 ∨ g = 60 ∨ g = 64) → g ≠ 40 → M7 g i k = M g i k := by
    intro g i k h hg
    rw [e7 g i k hg, fr6 g i k (sG_o (by omega)), fr5 g i k (sG_o (by omega)), fr4 g i k (sG_o (by omega)), fr3 g i k (sG_o (by omega)), fr2 g i k (sG_o (by omega)), fr1 g i k (sG_o (by omega))]
  have d44 : ∀ q, q < 4 → M7 44 0 q = M 43 0 q := fun q hq => (e7 44 0 q (by omega)).trans ((fr6 44 0 q rfl).trans ((fr5 44 0 q rfl).trans ((fr4 44 0 q rfl).trans (e44 q hq))))
  have d49 : ∀ j, j < 40 → M7 49 0 j = M 45 0 j ∧ M7 50 0 j = M 46 0 j ∧ M7 51 0 j = M 47 0 j := by
    intro j hj
    obtain ⟨a, b, c⟩ := h2 j hj
    have e : ∀ g, 49 ≤ g → g ≤ 51 → M7 g 0 j = M2 g 0 j := fun g x y => (e7 g 0 j (by omega)).trans ((fr6 g 0 j (sG_o (by omega))).trans ((fr5 g 0 j (sG_o (by omega))).trans ((fr4 g 0 j (sG_o (by omega))).trans (fr3 g 0 j (sG_o (by omega))))))
    rw [e 49 (by omega) (by omega), e 50 (by omega) (by omega), e 51 (by omega) (by omega), a, b, c]
    exact ⟨fr1 45 0 j rfl, fr1 46 0 j rfl, fr1 47 0 j rfl⟩
  have d52 : ∀ j, j < 24 → M7 52 0 j = M 48 0 j := fun j hj => (e7 52 0 j (by omega)).trans ((fr6 52 0 j rfl).trans ((fr5 52 0 j rfl).trans ((fr4 52 0 j rfl).trans ((h3 j hj).trans ((fr2 48 0 j rfl).trans (fr1 48 0 j rfl))))))
  have d56 : ∀ i, i < vN U 3 4 → ∀ q, q < 2 → M7 56 i q = M 54 i q := fun i hi q hq => (e7 56 i q (by omega)).trans ((fr6 56 i q rfl).trans ((fr5 56 i q rfl).trans ((h4 i hi q hq).trans ((fr3 54 i q rfl).trans ((fr2 54 i q rfl).trans (fr1 54 i q rfl))))))
  have d60 : ∀ i, i < vN U 3 8 → ∀ q, q < 4 → M7 60 i q = M 58 i q := fun i hi q hq => (e7 60 i q (by omega)).trans ((fr6 60 i q rfl).trans ((h5 i hi q hq).trans ((fr4 58 i q rfl).trans ((fr3 58 i q rfl).trans ((fr2 58 i q rfl).trans (fr1 58 i q rfl))))))
  have d64 : ∀ i, i < vN U 3 13 → ∀ q, q < 4 → M7 64 i q = M 62 i q := fun i hi q hq => (e7 64 i q (by omega)).trans ((h6 i hi q hq).trans ((fr5 62 i q rfl).trans ((fr4 62 i q rfl).trans ((fr3 62 i q rfl).trans ((fr2 62 i q rfl).trans (fr1 62 i q rfl))))))
  have fr7 : Fr sCp M M7 := by
    intro g i k h
    have h' := of_decide_eq_false h
    by_cases hg : g = 40
    · subst hg
      have e6 : M6 40 i k = M 40 i k := by
        rw [fr6 40 i k rfl, fr5 40 i k rfl, fr4 40 i k rfl, fr3 40 i k rfl, fr2 40 i k rfl, fr1 40 i k rfl]
      rw [← hM7]
      have f8 : Fr sCp M6 (mput (mput (mput M6 40 0 29 0) 40 0 30 0) 40 0 31 0) := Fr_put (Fr_put (Fr_put Fr_refl rfl) rfl) rfl
      rw [f8 40 i k h, e6]
    · exact all g i k (by omega) hg
  refine loopA L xs O (P := fun r => isI r O _ _) (fun j ls M' => ls = [some (.inr (.inr (40, 0))), some (.inl (a1)), some (.inl (nI j)), u6] ∧ Fr (sG 69 69) M7 M' ∧ ∀ i, i < j → M' 69 0 i = -2) 8 700 (by omega) ?_ ?_ (by omega) ⟨rfl, Fr_refl, fun i hi => absurd hi (by omega)⟩
  · rintro f k j _ M' hj ⟨rfl, fr, h⟩ ih
    rw [e_X7_land_434, if_neg (by rw [yle_8 (by omega)]; omega), if_pos (in_8 hj), hl_cl (by omega), zadd_1]
    refine ih _ _ ⟨rfl, Fr_put fr rfl, fun i hi => ?_⟩
    by_cases e : i = j
    · rw [e, mp_s]
    · rw [mp_k e]
      exact h i (by omega)
  · rintro f k _ M' ⟨rfl, fr, h⟩
    rw [e_X7_land_434, if_pos (by decide), (fr 44 0 1 rfl).trans ((d44 1 (by omega)).trans r1)]
    have e8 : ∀ g i k, g ≠ 69 → M' g i k = M7 g i k := fun g i k hg => fr g i k (sG_o (by omega))
    refine isI_i ⟨Fr_trans fr7 (Fr_mono (fun g i k hh => sG_o (by have := of_decide_eq_false hh; omega)) fr), ?_, ?_, ?_, ?_, ?_, h⟩
    · refine ⟨(e8 _ _ _ (by omega)).trans ((d44 0 (by omega)).trans r0), (e8 _ _ _ (by omega)).trans ((d44 1 (by omega)).trans r1), (e8 _ _ _ (by omega)).trans ((d44 2 (by omega)).trans r2), (e8 _ _ _ (by omega)).trans ((d44 3 (by omega)).trans r3), fun j hj => ?_, fun k hk => ?_, fun h hh => ?_, fun s hs => ?_, fun w hw => ?_⟩
      · exact (e8 _ _ _ (by omega)).trans ((d49 j (by omega)).2.1.trans (r4 j (by omega)).2.1)
      · exact (e8 _ _ _ (by omega)).trans ((d56 k hk 0 (by omega)).trans (r6 k hk).1)
      · exact (e8 _ _ _ (by omega)).trans ((d52 h hh).trans (r5 h hh))
      · exact ⟨(e8 _ _ _ (by omega)).trans ((d60 s hs 0 (by omega)).trans (r7 s hs).1), (e8 _ _ _ (by omega)).trans ((d60 s hs 2 (by omega)).trans (r7 s hs).2.2.1), (e8 _ _ _ (by omega)).trans ((d60 s hs 3 (by omega)).trans (r7 s hs).2.2.2)⟩
      · exact ⟨(e8 _ _ _ (by omega)).trans ((d64 w hw 0 (by omega)).trans (r8 w hw).1), (e8 _ _ _ (by omega)).trans ((d64 w hw 1 (by omega)).trans (r8 w hw).2.1), (e8 _ _ _ (by omega)).trans ((d64 w hw 2 (by omega)).trans (r8 w hw).2.2.1), (e8 _ _ _ (by omega)).trans ((d64 w hw 3 (by omega)).trans (r8 w hw).2.2.2)⟩
    · refine ⟨fun j hj => ⟨(e8 _ _ _ (by omega)).trans ((d49 j (by omega)).1.trans (r4 j (by omega)).1), (e8 _ _ _ (by omega)).trans ((d49 j (by omega)).2.2.trans (r4 j (by omega)).2.2)⟩, fun k hk => (e8 _ _ _ (by omega)).trans ((d56 k hk 1 (by omega)).trans (r6 k hk).2), fun s hs => (e8 _ _ _ (by omega)).trans ((d60 s hs 1 (by omega)).trans (r7 s hs).2.1)⟩
    · rw [e8 40 0 29 (by omega), ← hM7, mp_k (by omega), mp_k (by omega), mp_s]
    · rw [e8 40 0 30 (by omega), ← hM7, mp_k (by omega), mp_s]
    · rw [e8 40 0 31 (by omega), ← hM7, mp_s]
end
