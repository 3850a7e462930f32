/-! The class: LANDS copied, WORKS performed. -/
def sLd (i0 : Nat) (g i _k : Nat) : Bool := isLand g && Nat.beq i i0
theorem sLd_s {i0 g k : Nat} (h : isLand g = true) : sLd i0 g i0 k = true := by
  unfold sLd
  rw [h, beq_s]
  rfl
theorem sLd_i {i0 g i k : Nat} (h : i ≠ i0) : sLd i0 g i k = false := by
  unfold sLd
  rw [beq_n h, Bool.and_false]
theorem sLd_g {i0 g i k : Nat} (h : isLand g = false) : sLd i0 g i k = false := by
  unfold sLd
  rw [h]
  rfl
theorem sRow_ld {g0 i0 g i k : Nat} (h0 : isLand g0 = true) (h : sLd i0 g i k = false) : sRow g0 i0 g i k = false := by
  by_cases e : g = g0
  · by_cases e2 : i = i0
    · rw [e, e2, sLd_s h0] at h
      cases h
    · exact sRow_i e2
  · exact sRow_g e
def CLp (S : Nat → Nat → Bool) (M : Mem) (i : Nat) (V : Vw) : Prop := ∀ g k, lk g k = true → S g k = true → M g i k = V g k
theorem CLp_row {S : Nat → Nat → Bool} {M M' : Mem} {i G : Nat} {V : Vw} (h : CLp S M i V) (fr : Fr (sRow G i) M M') (h2 : ∀ k, lk G k = true → M' G i k = V G k) : CLp (fun g k => S g k || Nat.beq g G) M' i V := by
  intro g k hl hs
  by_cases e : g = G
  · rw [e] at hl ⊢
    exact h2 k hl
  · rw [fr g i k (sRow_g e)]
    refine h g k hl ?_
    have : (S g k || Nat.beq g G) = true := hs
    rw [beq_n e, Bool.or_false] at this
    exact this
theorem CLp_put {S : Nat → Nat → Bool} {M : Mem} {i q : Nat} {V : Vw} {x : Int32} (h : CLp S M i V) (h2 : x = V 3 q) : CLp (fun g k => S g k || (Nat.beq g 3 && Nat.beq k q)) (mput M 3 i q x) i V := by
  intro g k hl hs
  have hs' : (S g k || (Nat.beq g 3 && Nat.beq k q)) = true := hs
  by_cases e : g = 3
  · rw [e] at hl hs' ⊢
    by_cases e2 : k = q
    · rw [e2, mp_s]
      exact h2
    · rw [mp_k e2]
      rw [beq_n e2, Bool.and_false, Bool.or_false] at hs'
      exact h 3 k hl hs'
  · rw [mp_g e]
    rw [beq_n e, Bool.false_and, Bool.or_false] at hs'
    exact h g k hl hs'
section
variable (L : Nat) (xs : Nat → Int32) (O : Int64)
theorem ac_10 (d i0 i1 : Nat) (M : Mem) : EX L xs (d + 1) 902 [.inr (.inr (10, i0)), .inl 0, .inr (.inr (10, i1)), .inl 0, .inl (nI 6)] M O = (some (.inl none, mrow M 10 i1 (va_cpy (M 10 i0) (M 10 i1) 0 0 6), O, 0, 0) : Res) := by
  show (if 0 ≤ (0 : Int32).toInt ∧ 0 ≤ (0 : Int32).toInt ∧ 0 ≤ (nI 6).toInt ∧ (0 : Int32).toInt + (nI 6).toInt ≤ ((6 : Nat) : Int) ∧ (0 : Int32).toInt + (nI 6).toInt ≤ ((6 : Nat) : Int) then (some (.inl none, mrow M 10 i1 (va_cpy (M 10 i0) (M 10 i1) (0 : Int32).toNatClampNeg (0 : Int32).toNatClampNeg (nI 6).toNatClampNeg), O, 0, 0) : Res) else none) = _
  rw [if_pos (by decide)]
  rfl
theorem x1_copyRow_10 {D : Nat} (hD : 2 ≤ D) (i0 i1 : Nat) (M : Mem) : isV (EX L xs (D) q_X1_copyRow [.inr (.inr (10, i0)), .inr (.inr (10, i1))] M O) O (fun M' => Fr (sRow 10 i1) M M' ∧ ∀ k, k < 6 → M' 10 i1 k = M 10 i0 k) := by
  obtain ⟨d, rfl⟩ : ∃ d, D = d + 2 := ⟨D - 2, by omega⟩
  refine isV_e (EX_in mi_X1_copyRow rfl rfl rfl (ls := [some (.inr (.inr (10, i0))), some (.inr (.inr (10, i1)))]) rfl) ?_
  rw [e_X1_copyRow_0, if_neg (by decide), e_X1_copyRow_11, show Int32.ofNat 6 = nI 6 from rfl, ac_10 L xs O]
  simp only [xr_n, Nat.reduceAdd, Nat.add_zero]
  rw [e_X1_copyRow_14]
  refine isV_i ⟨Fr_row Fr_refl (fun k => sRow_s _ _ _), fun k hk => ?_⟩
  rw [mr_s, sb_cpy0 hk]
theorem ac_11 (d i0 i1 : Nat) (M : Mem) : EX L xs (d + 1) 902 [.inr (.inr (11, i0)), .inl 0, .inr (.inr (11, i1)), .inl 0, .inl (nI 6)] M O = (some (.inl none, mrow M 11 i1 (va_cpy (M 11 i0) (M 11 i1) 0 0 6), O, 0, 0) : Res) := by
  show (if 0 ≤ (0 : Int32).toInt ∧ 0 ≤ (0 : Int32).toInt ∧ 0 ≤ (nI 6).toInt ∧ (0 : Int32).toInt + (nI 6).toInt ≤ ((6 : Nat) : Int) ∧ (0 : Int32).toInt + (nI 6).toInt ≤ ((6 : Nat) : Int) then (some (.inl none, mrow M 11 i1 (va_cpy (M 11 i0) (M 11 i1) (0 : Int32).toNatClampNeg (0 : Int32).toNatClampNeg (nI 6).toNatClampNeg), O, 0, 0) : Res) else none) = _
  rw [if_pos (by decide)]
  rfl
theorem x1_copyRow_11 {D : Nat} (hD : 2 ≤ D) (i0 i1 : Nat) (M : Mem) : isV (EX L xs (D) q_X1_copyRow [.inr (.inr (11, i0)), .inr (.inr (11, i1))] M O) O (fun M' => Fr (sRow 11 i1) M M' ∧ ∀ k, k < 6 → M' 11 i1 k = M 11 i0 k) := by
  obtain ⟨d, rfl⟩ : ∃ d, D = d + 2 := ⟨D - 2, by omega⟩
  refine isV_e (EX_in mi_X1_copyRow rfl rfl rfl (ls := [some (.inr (.inr (11, i0))), some (.inr (.inr (11, i1)))]) rfl) ?_
  rw [e2_X1_copyRow_0, if_neg (by decide), e2_X1_copyRow_11, show Int32.ofNat 6 = nI 6 from rfl, ac_11 L xs O]
  simp only [xr_n, Nat.reduceAdd, Nat.add_zero]
  rw [e2_X1_copyRow_14]
  refine isV_i ⟨Fr_row Fr_refl (fun k => sRow_s _ _ _), fun k hk => ?_⟩
  rw [mr_s, sb_cpy0 hk]
theorem ac_12 (d i0 i1 : Nat) (M : Mem) : EX L xs (d + 1) 902 [.inr (.inr (12, i0)), .inl 0, .inr (.inr (12, i1)), .inl 0, .inl (nI 6)] M O = (some (.inl none, mrow M 12 i1 (va_cpy (M 12 i0) (M 12 i1) 0 0 6), O, 0, 0) : Res) := by
  show (if 0 ≤ (0 : Int32).toInt ∧ 0 ≤ (0 : Int32).toInt ∧ 0 ≤ (nI 6).toInt ∧ (0 : Int32).toInt + (nI 6).toInt ≤ ((6 : Nat) : Int) ∧ (0 : Int32).toInt + (nI 6).toInt ≤ ((6 : Nat) : Int) then (some (.inl none, mrow M 12 i1 (va_cpy (M 12 i0) (M 12 i1) (0 : Int32).toNatClampNeg (0 : Int32).toNatClampNeg (nI 6).toNatClampNeg), O, 0, 0) : Res) else none) = _
  rw [if_pos (by decide)]
  rfl
theorem x1_copyRow_12 {D : Nat} (hD : 2 ≤ D) (i0 i1 : Nat) (M : Mem) : isV (EX L xs (D) q_X1_copyRow [.inr (.inr (12, i0)), .inr (.inr (12, i1))] M O) O (fun M' => Fr (sRow 12 i1) M M' ∧ ∀ k, k < 6 → M' 12 i1 k = M 12 i0 k) := by
  obtain ⟨d, rfl⟩ : ∃ d, D = d + 2 := ⟨D - 2, by omega⟩
  refine isV_e (EX_in mi_X1_copyRow rfl rfl rfl (ls := [some (.inr (.inr (12, i0))), some (.inr (.inr (12, i1)))]) rfl) ?_
  rw [e3_X1_copyRow_0, if_neg (by decide), e3_X1_copyRow_11, show Int32.ofNat 6 = nI 6 from rfl, ac_12 L xs O]
  simp only [xr_n, Nat.reduceAdd, Nat.add_zero]
  rw [e3_X1_copyRow_14]
  refine isV_i ⟨Fr_row Fr_refl (fun k => sRow_s _ _ _), fun k hk => ?_⟩
  rw [mr_s, sb_cpy0 hk]
theorem ac_13 (d i0 i1 : Nat) (M : Mem) : EX L xs (d + 1) 902 [.inr (.inr (13, i0)), .inl 0, .inr (.inr (13, i1)), .inl 0, .inl (nI 6)] M O = (some (.inl none, mrow M 13 i1 (va_cpy (M 13 i0) (M 13 i1) 0 0 6), O, 0, 0) : Res) := by
  show (if 0 ≤ (0 : Int32).toInt ∧ 0 ≤ (0 : Int32).toInt ∧ 0 ≤ (nI 6).toInt ∧ (0 : Int32).toInt + (nI 6).toInt ≤ ((6 : Nat) : Int) ∧ (0 : Int32).toInt + (nI 6).toInt ≤ ((6 : Nat) : Int) then (some (.inl none, mrow M 13 i1 (va_cpy (M 13 i0) (M 13 i1) (0 : Int32).toNatClampNeg (0 : Int32).toNatClampNeg (nI 6).toNatClampNeg), O, 0, 0) : Res) else none) = _
  rw [if_pos (by decide)]
  rfl
theorem x1_copyRow_13 {D : Nat} (hD : 2 ≤ D) (i0 i1 : Nat) (M : Mem) : isV (EX L xs (D) q_X1_copyRow [.inr (.inr (13, i0)), .inr (.inr (13, i1))] M O) O (fun M' => Fr (sRow 13 i1) M M' ∧ ∀ k, k < 6 → M' 13 i1 k = M 13 i0 k) := by
  obtain ⟨d, rfl⟩ : ∃ d, D = d + 2 := ⟨D - 2, by omega⟩
  refine isV_e (EX_in mi_X1_copyRow rfl rfl rfl (ls := [some (.inr (.inr (13, i0))), some (.inr (.inr (13, i1)))]) rfl) ?_
  rw [e4_X1_copyRow_0, if_neg (by decide), e4_X1_copyRow_11, show Int32.ofNat 6 = nI 6 from rfl, ac_13 L xs O]
  simp only [xr_n, Nat.reduceAdd, Nat.add_zero]
  rw [e4_X1_copyRow_14]
  refine isV_i ⟨Fr_row Fr_refl (fun k => sRow_s _ _ _), fun k hk => ?_⟩
  rw [mr_s, sb_cpy0 hk]
theorem ac_14 (d i0 i1 : Nat) (M : Mem) : EX L xs (d + 1) 902 [.inr (.inr (14, i0)), .inl 0, .inr (.inr (14, i1)), .inl 0, .inl (nI 8)] M O = (some (.inl none, mrow M 14 i1 (va_cpy (M 14 i0) (M 14 i1) 0 0 8), O, 0, 0) : Res) := by
  show (if 0 ≤ (0 : Int32).toInt ∧ 0 ≤ (0 : Int32).toInt ∧ 0 ≤ (nI 8).toInt ∧ (0 : Int32).toInt + (nI 8).toInt ≤ ((8 : Nat) : Int) ∧ (0 : Int32).toInt + (nI 8).toInt ≤ ((8 : Nat) : Int) then (some (.inl none, mrow M 14 i1 (va_cpy (M 14 i0) (M 14 i1) (0 : Int32).toNatClampNeg (0 : Int32).toNatClampNeg (nI 8).toNatClampNeg), O, 0, 0) : Res) else none) = _
  rw [if_pos (by decide)]
  rfl
theorem x1_copyRow_14 {D : Nat} (hD : 2 ≤ D) (i0 i1 : Nat) (M : Mem) : isV (EX L xs (D) q_X1_copyRow [.inr (.inr (14, i0)), .inr (.inr (14, i1))] M O) O (fun M' => Fr (sRow 14 i1) M M' ∧ ∀ k, k < 8 → M' 14 i1 k = M 14 i0 k) := by
  obtain ⟨d, rfl⟩ : ∃ d, D = d + 2 := ⟨D - 2, by omega⟩
  refine isV_e (EX_in mi_X1_copyRow rfl rfl rfl (ls := [some (.inr (.inr (14, i0))), some (.inr (.inr (14, i1)))]) rfl) ?_
  rw [e5_X1_copyRow_0, if_neg (by decide), e5_X1_copyRow_11, show Int32.ofNat 8 = nI 8 from rfl, ac_14 L xs O]
  simp only [xr_n, Nat.reduceAdd, Nat.add_zero]
  rw [e5_X1_copyRow_14]
  refine isV_i ⟨Fr_row Fr_refl (fun k => sRow_s _ _ _), fun k hk => ?_⟩
  rw [mr_s, sb_cpy0 hk]
theorem ac_15 (d i0 i1 : Nat) (M : Mem) : EX L xs (d + 1) 902 [.inr (.inr (15, i0)), .inl 0, .inr (.inr (15, i1)), .inl 0, .inl (nI 8)] M O = (some (.inl none, mrow M 15 i1 (va_cpy (M 15 i0) (M 15 i1) 0 0 8), O, 0, 0) : Res) := by
  show (if 0 ≤ (0 : Int32).toInt ∧ 0 ≤ (0 : Int32).toInt ∧ 0 ≤ (nI 8).toInt ∧ (0 : Int32).toInt + (nI 8).toInt ≤ ((8 : Nat) : Int) ∧ (0 : Int32).toInt + (nI 8).toInt ≤ ((8 : Nat) : Int) then (some (.inl none, mrow M 15 i1 (va_cpy (M 15 i0) (M 15 i1) (0 : Int32).toNatClampNeg (0 : Int32).toNatClampNeg (nI 8).toNatClampNeg), O, 0, 0) : Res) else none) = _
  rw [if_pos (by decide)]
  rfl
theorem x1_copyRow_15 {D : Nat} (hD : 2 ≤ D) (i0 i1 : Nat) (M : Mem) : isV (EX L xs (D) q_X1_copyRow [.inr (.inr (15, i0)), .inr (.inr (15, i1))] M O) O (fun M' => Fr (sRow 15 i1) M M' ∧ ∀ k, k < 8 → M' 15 i1 k = M 15 i0 k) := by
  obtain ⟨d, rfl⟩ : ∃ d, D = d + 2 := ⟨D - 2, by omega⟩
  refine isV_e (EX_in mi_X1_copyRow rfl rfl rfl (ls := [some (.inr (.inr (15, i0))), some (.inr (.inr (15, i1)))]) rfl) ?_
  rw [e6_X1_copyRow_0, if_neg (by decide), e6_X1_copyRow_11, show Int32.ofNat 8 = nI 8 from rfl, ac_15 L xs O]
  simp only [xr_n, Nat.reduceAdd, Nat.add_zero]
  rw [e6_X1_copyRow_14]
  refine isV_i ⟨Fr_row Fr_refl (fun k => sRow_s _ _ _), fun k hk => ?_⟩
  rw [mr_s, sb_cpy0 hk]
theorem ac_16 (d i0 i1 : Nat) (M : Mem) : EX L xs (d + 1) 902 [.inr (.inr (16, i0)), .inl 0, .inr (.inr (16, i1)), .inl 0, .inl (nI 8)] M O = (some (.inl none, mrow M 16 i1 (va_cpy (M 16 i0) (M 16 i1) 0 0 8), O, 0, 0) : Res) := by
  show (if 0 ≤ (0 : Int32).toInt ∧ 0 ≤ (0 : Int32).toInt ∧ 0 ≤ (nI 8).toInt ∧ (0 : Int32).toInt + (nI 8).toInt ≤ ((8 : Nat) : Int) ∧ (0 : Int32).toInt + (nI 8).toInt ≤ ((8 : Nat) : Int) then (some (.inl none, mrow M 16 i1 (va_cpy (M 16 i0) (M 16 i1) (0 : Int32).toNatClampNeg (0 : Int32).toNatClampNeg (nI 8).toNatClampNeg), O, 0, 0) : Res) else none) = _
  rw [if_pos (by decide)]
  rfl
theorem x1_copyRow_16 {D : Nat} (hD : 2 ≤ D) (i0 i1 : Nat) (M : Mem) : isV (EX L xs (D) q_X1_copyRow [.inr (.inr (16, i0)), .inr (.inr (16, i1))] M O) O (fun M' => Fr (sRow 16 i1) M M' ∧ ∀ k, k < 8 → M' 16 i1 k = M 16 i0 k) := by
  obtain ⟨d, rfl⟩ : ∃ d, D = d + 2 := ⟨D - 2, by omega⟩
  refine isV_e (EX_in mi_X1_copyRow rfl rfl rfl (ls := [some (.inr (.inr (16, i0))), some (.inr (.inr (16, i1)))]) rfl) ?_
  rw [e7_X1_copyRow_0, if_neg (by decide), e7_X1_copyRow_11, show Int32.ofNat 8 = nI 8 from rfl, ac_16 L xs O]
  simp only [xr_n, Nat.reduceAdd, Nat.add_zero]
  rw [e7_X1_copyRow_14]
  refine isV_i ⟨Fr_row Fr_refl (fun k => sRow_s _ _ _), fun k hk => ?_⟩
  rw [mr_s, sb_cpy0 hk]
theorem ac_17 (d i0 i1 : Nat) (M : Mem) : EX L xs (d + 1) 902 [.inr (.inr (17, i0)), .inl 0, .inr (.inr (17, i1)), .inl 0, .inl (nI 8)] M O = (some (.inl none, mrow M 17 i1 (va_cpy (M 17 i0) (M 17 i1) 0 0 8), O, 0, 0) : Res) := by
  show (if 0 ≤ (0 : Int32).toInt ∧ 0 ≤ (0 : Int32).toInt ∧ 0 ≤ (nI 8).toInt ∧ (0 : Int32).toInt + (nI 8).toInt ≤ ((8 : Nat) : Int) ∧ (0 : Int32).toInt + (nI 8).toInt ≤ ((8 : Nat) : Int) then (some (.inl none, mrow M 17 i1 (va_cpy (M 17 i0) (M 17 i1) (0 : Int32).toNatClampNeg (0 : Int32).toNatClampNeg (nI 8).toNatClampNeg), O, 0, 0) : Res) else none) = _
  rw [if_pos (by decide)]
  rfl
theorem x1_copyRow_17 {D : Nat} (hD : 2 ≤ D) (i0 i1 : Nat) (M : Mem) : isV (EX L xs (D) q_X1_copyRow [.inr (.inr (17, i0)), .inr (.inr (17, i1))] M O) O (fun M' => Fr (sRow 17 i1) M M' ∧ ∀ k, k < 8 → M' 17 i1 k = M 17 i0 k) := by
  obtain ⟨d, rfl⟩ : ∃ d, D = d + 2 := ⟨D - 2, by omega⟩
  refine isV_e (EX_in mi_X1_copyRow rfl rfl rfl (ls := [some (.inr (.inr (17, i0))), some (.inr (.inr (17, i1)))]) rfl) ?_
  rw [e8_X1_copyRow_0, if_neg (by decide), e8_X1_copyRow_11, show Int32.ofNat 8 = nI 8 from rfl, ac_17 L xs O]
  simp only [xr_n, Nat.reduceAdd, Nat.add_zero]
  rw [e8_X1_copyRow_14]
  refine isV_i ⟨Fr_row Fr_refl (fun k => sRow_s _ _ _), fun k hk => ?_⟩
  rw [mr_s, sb_cpy0 hk]
theorem ac_4 (d i0 i1 : Nat) (M : Mem) : EX L xs (d + 1) 902 [.inr (.inr (4, i0)), .inl 0, .inr (.inr (4, i1)), .inl 0, .inl (nI 40)] M O = (some (.inl none, mrow M 4 i1 (va_cpy (M 4 i0) (M 4 i1) 0 0 40), O, 0, 0) : Res) := by
  show (if 0 ≤ (0 : Int32).toInt ∧ 0 ≤ (0 : Int32).toInt ∧ 0 ≤ (nI 40).toInt ∧ (0 : Int32).toInt + (nI 40).toInt ≤ ((40 : Nat) : Int) ∧ (0 : Int32).toInt + (nI 40).toInt ≤ ((40 : Nat) : Int) then (some (.inl none, mrow M 4 i1 (va_cpy (M 4 i0) (M 4 i1) (0 : Int32).toNatClampNeg (0 : Int32).toNatClampNeg (nI 40).toNatClampNeg), O, 0, 0) : Res) else none) = _
  rw [if_pos (by decide)]
  rfl
theorem x1_copyRow_4 {D : Nat} (hD : 2 ≤ D) (i0 i1 : Nat) (M : Mem) : isV (EX L xs (D) q_X1_copyRow [.inr (.inr (4, i0)), .inr (.inr (4, i1))] M O) O (fun M' => Fr (sRow 4 i1) M M' ∧ ∀ k, k < 40 → M' 4 i1 k = M 4 i0 k) := by
  obtain ⟨d, rfl⟩ : ∃ d, D = d + 2 := ⟨D - 2, by omega⟩
  refine isV_e (EX_in mi_X1_copyRow rfl rfl rfl (ls := [some (.inr (.inr (4, i0))), some (.inr (.inr (4, i1)))]) rfl) ?_
  rw [e9_X1_copyRow_0, if_neg (by decide), e9_X1_copyRow_11, show Int32.ofNat 40 = nI 40 from rfl, ac_4 L xs O]
  simp only [xr_n, Nat.reduceAdd, Nat.add_zero]
  rw [e9_X1_copyRow_14]
  refine isV_i ⟨Fr_row Fr_refl (fun k => sRow_s _ _ _), fun k hk => ?_⟩
  rw [mr_s, sb_cpy0 hk]
theorem ac_5 (d i0 i1 : Nat) (M : Mem) : EX L xs (d + 1) 902 [.inr (.inr (5, i0)), .inl 0, .inr (.inr (5, i1)), .inl 0, .inl (nI 40)] M O = (some (.inl none, mrow M 5 i1 (va_cpy (M 5 i0) (M 5 i1) 0 0 40), O, 0, 0) : Res) := by
  show (if 0 ≤ (0 : Int32).toInt ∧ 0 ≤ (0 : Int32).toInt ∧ 0 ≤ (nI 40).toInt ∧ (0 : Int32).toInt + (nI 40).toInt ≤ ((40 : Nat) : Int) ∧ (0 : Int32).toInt + (nI 40).toInt ≤ ((40 : Nat) : Int) then (some (.inl none, mrow M 5 i1 (va_cpy (M 5 i0) (M 5 i1) (0 : Int32).toNatClampNeg (0 : Int32).toNatClampNeg (nI 40).toNatClampNeg), O, 0, 0) : Res) else none) = _
  rw [if_pos (by decide)]
  rfl
theorem x1_copyRow_5 {D : Nat} (hD : 2 ≤ D) (i0 i1 : Nat) (M : Mem) : isV (EX L xs (D) q_X1_copyRow [.inr (.inr (5, i0)), .inr (.inr (5, i1))] M O) O (fun M' => Fr (sRow 5 i1) M M' ∧ ∀ k, k < 40 → M' 5 i1 k = M 5 i0 k) := by
  obtain ⟨d, rfl⟩ : ∃ d, D = d + 2 := ⟨D - 2, by omega⟩
  refine isV_e (EX_in mi_X1_copyRow rfl rfl rfl (ls := [some (.inr (.inr (5, i0))), some (.inr (.inr (5, i1)))]) rfl) ?_
  rw [e10_X1_copyRow_0, if_neg (by decide), e10_X1_copyRow_11, show Int32.ofNat 40 = nI 40 from rfl, ac_5 L xs O]
  simp only [xr_n, Nat.reduceAdd, Nat.add_zero]
  rw [e10_X1_copyRow_14]
  refine isV_i ⟨Fr_row Fr_refl (fun k => sRow_s _ _ _), fun k hk => ?_⟩
  rw [mr_s, sb_cpy0 hk]
theorem ac_6 (d i0 i1 : Nat) (M : Mem) : EX L xs (d + 1) 902 [.inr (.inr (6, i0)), .inl 0, .inr (.inr (6, i1)), .inl 0, .inl (nI 40)] M O = (some (.inl none, mrow M 6 i1 (va_cpy (M 6 i0) (M 6 i1) 0 0 40), O, 0, 0) : Res) := by
  show (if 0 ≤ (0 : Int32).toInt ∧ 0 ≤ (0 : Int32).toInt ∧ 0 ≤ (nI 40).toInt ∧ (0 : Int32).toInt + (nI 40).toInt ≤ ((40 : Nat) : Int) ∧ (0 : Int32).toInt + (nI 40).toInt ≤ ((40 : Nat) : Int) then (some (.inl none, mrow M 6 i1 (va_cpy (M 6 i0) (M 6 i1) (0 : Int32).toNatClampNeg (0 : Int32).toNatClampNeg (nI 40).toNatClampNeg), O, 0, 0) : Res) else none) = _
  rw [if_pos (by decide)]
  rfl
theorem x1_copyRow_6 {D : Nat} (hD : 2 ≤ D) (i0 i1 : Nat) (M : Mem) : isV (EX L xs (D) q_X1_copyRow [.inr (.inr (6, i0)), .inr (.inr (6, i1))] M O) O (fun M' => Fr (sRow 6 i1) M M' ∧ ∀ k, k < 40 → M' 6 i1 k = M 6 i0 k) := by
  obtain ⟨d, rfl⟩ : ∃ d, D = d + 2 := ⟨D - 2, by omega⟩
  refine isV_e (EX_in mi_X1_copyRow rfl rfl rfl (ls := [some (.inr (.inr (6, i0))), some (.inr (.inr (6, i1)))]) rfl) ?_
  rw [e11_X1_copyRow_0, if_neg (by decide), e11_X1_copyRow_11, show Int32.ofNat 40 = nI 40 from rfl, ac_6 L xs O]
  simp only [xr_n, Nat.reduceAdd, Nat.add_zero]
  rw [e11_X1_copyRow_14]
  refine isV_i ⟨Fr_row Fr_refl (fun k => sRow_s _ _ _), fun k hk => ?_⟩
  rw [mr_s, sb_cpy0 hk]
theorem ac_7 (d i0 i1 : Nat) (M : Mem) : EX L xs (d + 1) 902 [.inr (.inr (7, i0)), .inl 0, .inr (.inr (7, i1)), .inl 0, .inl (nI 8)] M O = (some (.inl none, mrow M 7 i1 (va_cpy (M 7 i0) (M 7 i1) 0 0 8), O, 0, 0) : Res) := by
  show (if 0 ≤ (0 : Int32).toInt ∧ 0 ≤ (0 : Int32).toInt ∧ 0 ≤ (nI 8).toInt ∧ (0 : Int32).toInt + (nI 8).toInt ≤ ((8 : Nat) : Int) ∧ (0 : Int32).toInt + (nI 8).toInt ≤ ((8 : Nat) : Int) then (some (.inl none, mrow M 7 i1 (va_cpy (M 7 i0) (M 7 i1) (0 : Int32).toNatClampNeg (0 : Int32).toNatClampNeg (nI 8).toNatClampNeg), O, 0, 0) : Res) else none) = _
  rw [if_pos (by decide)]
  rfl
theorem x1_copyRow_7 {D : Nat} (hD : 2 ≤ D) (i0 i1 : Nat) (M : Mem) : isV (EX L xs (D) q_X1_copyRow [.inr (.inr (7, i0)), .inr (.inr (7, i1))] M O) O (fun M' => Fr (sRow 7 i1) M M' ∧ ∀ k, k < 8 → M' 7 i1 k = M 7 i0 k) := by
  obtain ⟨d, rfl⟩ : ∃ d, D = d + 2 := ⟨D - 2, by omega⟩
  refine isV_e (EX_in mi_X1_copyRow rfl rfl rfl (ls := [some (.inr (.inr (7, i0))), some (.inr (.inr (7, i1)))]) rfl) ?_
  rw [e12_X1_copyRow_0, if_neg (by decide), e12_X1_copyRow_11, show Int32.ofNat 8 = nI 8 from rfl, ac_7 L xs O]
  simp only [xr_n, Nat.reduceAdd, Nat.add_zero]
  rw [e12_X1_copyRow_14]
  refine isV_i ⟨Fr_row Fr_refl (fun k => sRow_s _ _ _), fun k hk => ?_⟩
  rw [mr_s, sb_cpy0 hk]
theorem ac_8 (d i0 i1 : Nat) (M : Mem) : EX L xs (d + 1) 902 [.inr (.inr (8, i0)), .inl 0, .inr (.inr (8, i1)), .inl 0, .inl (nI 8)] M O = (some (.inl none, mrow M 8 i1 (va_cpy (M 8 i0) (M 8 i1) 0 0 8), O, 0, 0) : Res) := by
  show (if 0 ≤ (0 : Int32).toInt ∧ 0 ≤ (0 : Int32).toInt ∧ 0 ≤ (nI 8).toInt ∧ (0 : Int32).toInt + (nI 8).toInt ≤ ((8 : Nat) : Int) ∧ (0 : Int32).toInt + (nI 8).toInt ≤ ((8 : Nat) : Int) then (some (.inl none, mrow M 8 i1 (va_cpy (M 8 i0) (M 8 i1) (0 : Int32).toNatClampNeg (0 : Int32).toNatClampNeg (nI 8).toNatClampNeg), O, 0, 0) : Res) else none) = _
  rw [if_pos (by decide)]
  rfl
theorem x1_copyRow_8 {D : Nat} (hD : 2 ≤ D) (i0 i1 : Nat) (M : Mem) : isV (EX L xs (D) q_X1_copyRow [.inr (.inr (8, i0)), .inr (.inr (8, i1))] M O) O (fun M' => Fr (sRow 8 i1) M M' ∧ ∀ k, k < 8 → M' 8 i1 k = M 8 i0 k) := by
  obtain ⟨d, rfl⟩ : ∃ d, D = d + 2 := ⟨D - 2, by omega⟩
  refine isV_e (EX_in mi_X1_copyRow rfl rfl rfl (ls := [some (.inr (.inr (8, i0))), some (.inr (.inr (8, i1)))]) rfl) ?_
  rw [e13_X1_copyRow_0, if_neg (by decide), e13_X1_copyRow_11, show Int32.ofNat 8 = nI 8 from rfl, ac_8 L xs O]
  simp only [xr_n, Nat.reduceAdd, Nat.add_zero]
  rw [e13_X1_copyRow_14]
  refine isV_i ⟨Fr_row Fr_refl (fun k => sRow_s _ _ _), fun k hk => ?_⟩
  rw [mr_s, sb_cpy0 hk]
theorem ac_9 (d i0 i1 : Nat) (M : Mem) : EX L xs (d + 1) 902 [.inr (.inr (9, i0)), .inl 0, .inr (.inr (9, i1)), .inl 0, .inl (nI 24)] M O = (some (.inl none, mrow M 9 i1 (va_cpy (M 9 i0) (M 9 i1) 0 0 24), O, 0, 0) : Res) := by
  show (if 0 ≤ (0 : Int32).toInt ∧ 0 ≤ (0 : Int32).toInt ∧ 0 ≤ (nI 24).toInt ∧ (0 : Int32).toInt + (nI 24).toInt ≤ ((24 : Nat) : Int) ∧ (0 : Int32).toInt + (nI 24).toInt ≤ ((24 : Nat) : Int) then (some (.inl none, mrow M 9 i1 (va_cpy (M 9 i0) (M 9 i1) (0 : Int32).toNatClampNeg (0 : Int32).toNatClampNeg (nI 24).toNatClampNeg), O, 0, 0) : Res) else none) = _
  rw [if_pos (by decide)]
  rfl
theorem x1_copyRow_9 {D : Nat} (hD : 2 ≤ D) (i0 i1 : Nat) (M : Mem) : isV (EX L xs (D) q_X1_copyRow [.inr (.inr (9, i0)), .inr (.inr (9, i1))] M O) O (fun M' => Fr (sRow 9 i1) M M' ∧ ∀ k, k < 24 → M' 9 i1 k = M 9 i0 k) := by
  obtain ⟨d, rfl⟩ : ∃ d, D = d + 2 := ⟨D - 2, by omega⟩
  refine isV_e (EX_in mi_X1_copyRow rfl rfl rfl (ls := [some (.inr (.inr (9, i0))), some (.inr (.inr (9, i1)))]) rfl) ?_
  rw [e14_X1_copyRow_0, if_neg (by decide), e14_X1_copyRow_11, show Int32.ofNat 24 = nI 24 from rfl, ac_9 L xs O]
  simp only [xr_n, Nat.reduceAdd, Nat.add_zero]
  rw [e14_X1_copyRow_14]
  refine isV_i ⟨Fr_row Fr_refl (fun k => sRow_s _ _ _), fun k hk => ?_⟩
  rw [mr_s, sb_cpy0 hk]
theorem x1_copyFrom {D : Nat} (hD : 3 ≤ D) (i0 i1 : Nat) (hi : i1 ≠ i0) {V : Vw} (M : Mem) (hL : CL M i1 V) : isV (EX L xs (D) q_X1_copyFrom [.inr (.inr (3, i0)), .inr (.inr (3, i1))] M O) O (fun M' => Fr (sLd i0) M M' ∧ CL M' i0 V) := by
  obtain ⟨d, rfl⟩ : ∃ d, D = d + 2 := ⟨D - 2, by omega⟩
  refine isV_e (EX_in mi_X1_copyFrom rfl rfl rfl (ls := [some (.inr (.inr (3, i0))), some (.inr (.inr (3, i1)))]) rfl) ?_
  have f0 : Fr (sLd i0) M M := Fr_refl
  have c0 : CLp (fun _ _ => false) M i0 V := fun g k _ h => by cases h
  rw [e_X1_copyFrom_0]
  have p4 := CLp_put (q := 0) c0 (((f0 3 i1 0 (sLd_i hi)).trans (hL 3 0 rfl)))
  have e4 : Fr (sLd i0) M (mput M 3 i0 0 (M 3 i1 0)) := Fr_put f0 (sLd_s rfl)
  obtain ⟨M1, q1, r1, s1⟩ := x1_copyRow_4 L xs O (D := d + 1) (by omega) i1 i0 (mput M 3 i0 0 (M 3 i1 0))
  rw [q1]
  simp only [xr_n, Nat.reduceAdd, Nat.add_zero]
  have f1 : Fr (sLd i0) M M1 := Fr_trans e4 (Fr_mono (fun _ _ _ => sRow_ld rfl) r1)
  have c1 := CLp_row p4 r1 (fun k hk => (s1 k (of_decide_eq_true hk)).trans ((e4 4 i1 k (sLd_i hi)).trans (hL 4 k hk)))
  rw [e_X1_copyFrom_19]
  obtain ⟨M2, q2, r2, s2⟩ := x1_copyRow_5 L xs O (D := d + 1) (by omega) i1 i0 M1
  rw [q2]
  simp only [xr_n, Nat.reduceAdd, Nat.add_zero]
  have f2 : Fr (sLd i0) M M2 := Fr_trans f1 (Fr_mono (fun _ _ _ => sRow_ld rfl) r2)
  have c2 := CLp_row c1 r2 (fun k hk => (s2 k (of_decide_eq_true hk)).trans ((f1 5 i1 k (sLd_i hi)).trans (hL 5 k hk)))
  rw [e_X1_copyFrom_30]
  obtain ⟨M3, q3, r3, s3⟩ := x1_copyRow_6 L xs O (D := d + 1) (by omega) i1 i0 M2
  rw [q3]
  simp only [xr_n, Nat.reduceAdd, Nat.add_zero]
  have f3 : Fr (sLd i0) M M3 := Fr_trans f2 (Fr_mono (fun _ _ _ => sRow_ld rfl) r3)
  have c3 := CLp_row c2 r3 (fun k hk => (s3 k (of_decide_eq_true hk)).trans ((f2 6 i1 k (sLd_i hi)).trans (hL 6 k hk)))
  rw [e_X1_copyFrom_41]
  have p7 := CLp_put (q := 4) c3 (((f3 3 i1 4 (sLd_i hi)).trans (hL 3 4 rfl)))
  have e7 : Fr (sLd i0) M (mput M3 3 i0 4 (M3 3 i1 4)) := Fr_put f3 (sLd_s rfl)
  obtain ⟨M4, q4, r4, s4⟩ := x1_copyRow_7 L xs O (D := d + 1) (by omega) i1 i0 (mput M3 3 i0 4 (M3 3 i1 4))
  rw [q4]
  simp only [xr_n, Nat.reduceAdd, Nat.add_zero]
  have f4 : Fr (sLd i0) M M4 := Fr_trans e7 (Fr_mono (fun _ _ _ => sRow_ld rfl) r4)
  have c4 := CLp_row p7 r4 (fun k hk => (s4 k (of_decide_eq_true hk)).trans ((e7 7 i1 k (sLd_i hi)).trans (hL 7 k hk)))
  rw [e_X1_copyFrom_60]
  obtain ⟨M5, q5, r5, s5⟩ := x1_copyRow_8 L xs O (D := d + 1) (by omega) i1 i0 M4
  rw [q5]
  simp only [xr_n, Nat.reduceAdd, Nat.add_zero]
  have f5 : Fr (sLd i0) M M5 := Fr_trans f4 (Fr_mono (fun _ _ _ => sRow_ld rfl) r5)
  have c5 := CLp_row c4 r5 (fun k hk => (s5 k (of_decide_eq_true hk)).trans ((f4 8 i1 k (sLd_i hi)).trans (hL 8 k hk)))
  rw [e_X1_copyFrom_71]
  obtain ⟨M6, q6, r6, s6⟩ := x1_copyRow_9 L xs O (D := d + 1) (by omega) i1 i0 M5
  rw [q6]
  simp only [xr_n, Nat.reduceAdd, Nat.add_zero]
  have f6 : Fr (sLd i0) M M6 := Fr_trans f5 (Fr_mono (fun _ _ _ => sRow_ld rfl) r6)
  have c6 := CLp_row c5 r6 (fun k hk => (s6 k (of_decide_eq_true hk)).trans ((f5 9 i1 k (sLd_i hi)).trans (hL 9 k hk)))
  rw [e_X1_copyFrom_82]
  have p10 := CLp_put (q := 8) c6 (((f6 3 i1 8 (sLd_i hi)).trans (hL 3 8 rfl)))
  have e10 : Fr (sLd i0) M (mput M6 3 i0 8 (M6 3 i1 8)) := Fr_put f6 (sLd_s rfl)
  obtain ⟨M7, q7, r7, s7⟩ := x1_copyRow_10 L xs O (D := d + 1) (by omega) i1 i0 (mput M6 3 i0 8 (M6 3 i1 8))
  rw [q7]
  simp only [xr_n, Nat.reduceAdd, Nat.add_zero]
  have f7 : Fr (sLd i0) M M7 := Fr_trans e10 (Fr_mono (fun _ _ _ => sRow_ld rfl) r7)
  have c7 := CLp_row p10 r7 (fun k hk => (s7 k (of_decide_eq_true hk)).trans ((e10 10 i1 k (sLd_i hi)).trans (hL 10 k hk)))
  rw [e_X1_copyFrom_101]
  obtain ⟨M8, q8, r8, s8⟩ := x1_copyRow_11 L xs O (D := d + 1) (by omega) i1 i0 M7
  rw [q8]
  simp only [xr_n, Nat.reduceAdd, Nat.add_zero]
  have f8 : Fr (sLd i0) M M8 := Fr_trans f7 (Fr_mono (fun _ _ _ => sRow_ld rfl) r8)
  have c8 := CLp_row c7 r8 (fun k hk => (s8 k (of_decide_eq_true hk)).trans ((f7 11 i1 k (sLd_i hi)).trans (hL 11 k hk)))
  rw [e_X1_copyFrom_112]
  obtain ⟨M9, q9, r9, s9⟩ := x1_copyRow_12 L xs O (D := d + 1) (by omega) i1 i0 M8
  rw [q9]
  simp only [xr_n, Nat.reduceAdd, Nat.add_zero]
  have f9 : Fr (sLd i0) M M9 := Fr_trans f8 (Fr_mono (fun _ _ _ => sRow_ld rfl) r9)
  have c9 := CLp_row c8 r9 (fun k hk => (s9 k (of_decide_eq_true hk)).trans ((f8 12 i1 k (sLd_i hi)).trans (hL 12 k hk)))
  rw [e_X1_copyFrom_123]
  obtain ⟨M10, q10, r10, s10⟩ := x1_copyRow_13 L xs O (D := d + 1) (by omega) i1 i0 M9
  rw [q10]
  simp only [xr_n, Nat.reduceAdd, Nat.add_zero]
  have f10 : Fr (sLd i0) M M10 := Fr_trans f9 (Fr_mono (fun _ _ _ => sRow_ld rfl) r10)
  have c10 := CLp_row c9 r10 (fun k hk => (s10 k (of_decide_eq_true hk)).trans ((f9 13 i1 k (sLd_i hi)).trans (hL 13 k hk)))
  rw [e_X1_copyFrom_134]
  have p14 := CLp_put (q := 13) c10 (((f10 3 i1 13 (sLd_i hi)).trans (hL 3 13 rfl)))
  have e14 : Fr (sLd i0) M (mput M10 3 i0 13 (M10 3 i1 13)) := Fr_put f10 (sLd_s rfl)
  obtain ⟨M11, q11, r11, s11⟩ := x1_copyRow_14 L xs O (D := d + 1) (by omega) i1 i0 (mput M10 3 i0 13 (M10 3 i1 13))
  rw [q11]
  simp only [xr_n, Nat.reduceAdd, Nat.add_zero]
  have f11 : Fr (sLd i0) M M11 := Fr_trans e14 (Fr_mono (fun _ _ _ => sRow_ld rfl) r11)
  have c11 := CLp_row p14 r11 (fun k hk => (s11 k (of_decide_eq_true hk)).trans ((e14 14 i1 k (sLd_i hi)).trans (hL 14 k hk)))
  rw [e_X1_copyFrom_153]
  obtain ⟨M12, q12, r12, s12⟩ := x1_copyRow_15 L xs O (D := d + 1) (by omega) i1 i0 M11
  rw [q12]
  simp only [xr_n, Nat.reduceAdd, Nat.add_zero]
  have f12 : Fr (sLd i0) M M12 := Fr_trans f11 (Fr_mono (fun _ _ _ => sRow_ld rfl) r12)
  have c12 := CLp_row c11 r12 (fun k hk => (s12 k (of_decide_eq_true hk)).trans ((f11 15 i1 k (sLd_i hi)).trans (hL 15 k hk)))
  rw [e_X1_copyFrom_164]
  obtain ⟨M13, q13, r13, s13⟩ := x1_copyRow_16 L xs O (D := d + 1) (by omega) i1 i0 M12
  rw [q13]
  simp only [xr_n, Nat.reduceAdd, Nat.add_zero]
  have f13 : Fr (sLd i0) M M13 := Fr_trans f12 (Fr_mono (fun _ _ _ => sRow_ld rfl) r13)
  have c13 := CLp_row c12 r13 (fun k hk => (s13 k (of_decide_eq_true hk)).trans ((f12 16 i1 k (sLd_i hi)).trans (hL 16 k hk)))
  rw [e_X1_copyFrom_175]
  obtain ⟨M14, q14, r14, s14⟩ := x1_copyRow_17 L xs O (D := d + 1) (by omega) i1 i0 M13
  rw [q14]
  simp only [xr_n, Nat.reduceAdd, Nat.add_zero]
  have f14 : Fr (sLd i0) M M14 := Fr_trans f13 (Fr_mono (fun _ _ _ => sRow_ld rfl) r14)
  have c14 := CLp_row c13 r14 (fun k hk => (s14 k (of_decide_eq_true hk)).trans ((f13 17 i1 k (sLd_i hi)).trans (hL 17 k hk)))
  rw [e_X1_copyFrom_186]
  refine isV_i ⟨f14, fun g k hg => c14 g k hg ?_⟩
  unfold lk at hg
  split at hg
  · rcases Bool.or_eq_true_iff.mp hg with h | h
    · rcases Bool.or_eq_true_iff.mp h with h | h
      · rcases Bool.or_eq_true_iff.mp h with h | h
        · rw [Nat.eq_of_beq_eq_true h]
          rfl
        · rw [Nat.eq_of_beq_eq_true h]
          rfl
      · rw [Nat.eq_of_beq_eq_true h]
        rfl
    · rw [Nat.eq_of_beq_eq_true h]
      rfl
  · simp [Nat.beq]
  · simp [Nat.beq]
  · simp [Nat.beq]
  · simp [Nat.beq]
  · simp [Nat.beq]
  · simp [Nat.beq]
  · simp [Nat.beq]
  · simp [Nat.beq]
  · simp [Nat.beq]
  · simp [Nat.beq]
  · simp [Nat.beq]
  · simp [Nat.beq]
  · simp [Nat.beq]
  · simp [Nat.beq]
  · cases hg
theorem fl_l (d i0 : Nat) (a b : Nat) (hb : b < 40) (M0 : Mem) (Q : Mem → Prop) (hQ : ∀ M', Fr (sRow 4 i0) M0 M' → (∀ j, j < 40 → M' 4 i0 j = if a ≤ j ∧ j ≤ b then 2 else M0 4 i0 j) → Q M') : ∀ r fuel k j M, j + r = b + 1 → r ≤ fuel → a ≤ j → Fr (sRow 4 i0) M0 M →
    (∀ i, i < 40 → M 4 i0 i = if a ≤ i ∧ i < j then 2 else M0 4 i0 i) →
    isV (BK L xs (EX L xs (d + 1)) mi_X1_flood (RN L xs (d) mi_X1_flood fuel) (k + 60) 2 [some (.inr (.inr (3, i0))), some (.inl (nI a)), some (.inl (nI b)), some (.inl (nI j))] [] M O none 0 0) O Q := by
  intro r
  induction r with
  | zero =>
    intro fuel k j M hj hf ha fr h
    simp (disch := first | omega | rfl | decide) only [e_X1_flood_0, e_X1_flood_2, xr_v, xr_n, hl_of, hl_cl, hl_toInt, hl_le, hl_lt, hl_eq, nI_add, hl_sub, pk_mul, hl_div, if_pos, if_neg, ↓reduceIte, Nat.reduceAdd, Nat.reduceSub, Nat.reduceMul, Nat.add_zero, Nat.zero_add, mp_s, mp_k, mp_i, mp_g, mr_s, mr_i, mr_g, zlt_0, zlt_1, zlt_2, zlt_3, zlt_4, zlt_5, zlt_6, zlt_8, zlt_12, zlt_15, zlt_20, zlt_24, zlt_36, zlt_40, zlt_48, zlt_80, zlt_97, zlt_120, zlt_256, zlt_600, zlt_99999999, zadd_1, zadd_2, zadd_5, zadd_6, zadd_8, zadd_20, zadd_24, zeq_0, zeq_1, zeq_2, zeq_3, zeq_4, zeq_5, zeq_6, zeq_7, zeq_8, zeq_13, zeq_14, zeq_20, zeq_32, zeq_59, zeq_60, zeq_80, zmul_2, zmul_4, zmul_6, zmul_8, zmul_10, zmul_24, zsub_1, zsub_2, zsub_10, zsub_48, zsub_97, zle_0, zle_1, zle_2, zle_6, zle_11, zle_200, zle_600, zle_100000000, ylt_0, ylt_1, ylt_2, ylt_3, ylt_6, ylt_9, ylt_20, ylt_24, ylt_57, ylt_60, ylt_99, ylt_120, ylt_122, ylt_999, ylt_9999, yle_0, yle_2, yle_4, yle_5, yle_6, yle_7, yle_8, yle_10, yle_12, yle_13, yle_15, yle_16, yle_20, yle_24, yle_40, yle_60, yle_64, yle_80, yadd_1, yadd_22, ymul_2, ymul_4, ymul_6, ymul_8, ymul_10, ymul_24, ymul_27, ymul_100, ysub_1, ysub_24, zdiv_2, zdiv_4, zdiv_24]
    refine isV_i (hQ M fr (fun i hi => ?_))
    rw [h i hi]
    by_cases c : a ≤ i ∧ i < j
    · rw [if_pos c, if_pos (by omega)]
    · rw [if_neg c, if_neg (by omega)]
  | succ r ih =>
    intro fuel k j M hj hf ha fr h
    obtain ⟨f, rfl⟩ : ∃ f, fuel = f + 1 := ⟨fuel - 1, by omega⟩
    simp (disch := first | omega | rfl | decide) only [e_X1_flood_0, e_X1_flood_2, xr_v, xr_n, hl_of, hl_cl, hl_toInt, hl_le, hl_lt, hl_eq, nI_add, hl_sub, pk_mul, hl_div, if_pos, if_neg, ↓reduceIte, Nat.reduceAdd, Nat.reduceSub, Nat.reduceMul, Nat.add_zero, Nat.zero_add, mp_s, mp_k, mp_i, mp_g, mr_s, mr_i, mr_g, zlt_0, zlt_1, zlt_2, zlt_3, zlt_4, zlt_5, zlt_6, zlt_8, zlt_12, zlt_15, zlt_20, zlt_24, zlt_36, zlt_40, zlt_48, zlt_80, zlt_97, zlt_120, zlt_256, zlt_600, zlt_99999999, zadd_1, zadd_2, zadd_5, zadd_6, zadd_8, zadd_20, zadd_24, zeq_0, zeq_1, zeq_2, zeq_3, zeq_4, zeq_5, zeq_6, zeq_7, zeq_8, zeq_13, zeq_14, zeq_20, zeq_32, zeq_59, zeq_60, zeq_80, zmul_2, zmul_4, zmul_6, zmul_8, zmul_10, zmul_24, zsub_1, zsub_2, zsub_10, zsub_48, zsub_97, zle_0, zle_1, zle_2, zle_6, zle_11, zle_200, zle_600, zle_100000000, ylt_0, ylt_1, ylt_2, ylt_3, ylt_6, ylt_9, ylt_20, ylt_24, ylt_57, ylt_60, ylt_99, ylt_120, ylt_122, ylt_999, ylt_9999, yle_0, yle_2, yle_4, yle_5, yle_6, yle_7, yle_8, yle_10, yle_12, yle_13, yle_15, yle_16, yle_20, yle_24, yle_40, yle_60, yle_64, yle_80, yadd_1, yadd_22, ymul_2, ymul_4, ymul_6, ymul_8, ymul_10, ymul_24, ymul_27, ymul_100, ysub_1, ysub_24, zdiv_2, zdiv_4, zdiv_24]
    refine isV_e (RN_s _ _ _ _ _ _ _ _ _ _ _ _) ?_
    refine ih f _ (j + 1) _ (by omega) (by omega) (by omega) (Fr_put fr (sRow_s _ _ _)) ?_
    intro i hi
    by_cases e : i = j
    · rw [e, mp_s, if_pos (by omega)]
    · rw [mp_k e, h i hi]
      by_cases c : a ≤ i ∧ i < j
      · rw [if_pos c, if_pos (by omega)]
      · rw [if_neg c, if_neg (by omega)]
theorem x1_flood {D : Nat} (hD : 2 ≤ D) (i0 a b : Nat) (hab : a ≤ b) (hb : b < 40) (M : Mem) : isV (EX L xs (D) q_X1_flood [.inr (.inr (3, i0)), .inl (nI a), .inl (nI b)] M O) O (fun M' => Fr (sRow 4 i0) M M' ∧ ∀ j, j < 40 → M' 4 i0 j = if a ≤ j ∧ j ≤ b then 2 else M 4 i0 j) := by
  obtain ⟨d, rfl⟩ : ∃ d, D = d + 2 := ⟨D - 2, by omega⟩
  refine isV_e (EX_in mi_X1_flood rfl rfl rfl (ls := [some (.inr (.inr (3, i0))), some (.inl (nI a)), some (.inl (nI b)), none]) rfl) ?_
  rw [e_X1_flood_0]
  refine fl_l L xs O d i0 a b hb M _ (fun M' a b => ⟨a, b⟩) (b + 1 - a) FUEL _ a M (by omega) (Nat.le_of_lt (FU (by omega))) (Nat.le_refl _) Fr_refl (fun i hi => ?_)
  rw [if_neg (by omega)]
theorem CL_put {M : Mem} {i g k : Nat} {V : Vw} {x : Int32} (h : CL M i V) : CL (mput M g i k x) i (vput V g k x) := by
  intro g' k' hl
  by_cases e : g' = g
  · rw [e] at hl ⊢
    by_cases e2 : k' = k
    · rw [e2, mp_s, vp_s]
    · rw [mp_k e2, vp_k e2]
      exact h g k' hl
  · rw [mp_g e, vp_g e]
    exact h g' k' hl
theorem x1_perform {D : Nat} (hD : 3 ≤ D) (i0 w : Nat) {V : Vw} {n nh ns nw : Nat} (hV : VOK V n nh ns nw) (hw : w < nw) (M : Mem) (hL : CL M i0 V) : isV (EX L xs (D) q_X1_perform [.inr (.inr (3, i0)), .inl (nI w)] M O) O (fun M' => Fr (sLd i0) M M' ∧ CL M' i0 (perfV V w)) := by
  obtain ⟨v0, v1, v2, v3, v4, v5, v6, v7, v8, vk, vh, vw, vc, vs, vl, vwk, vcn⟩ := hV
  obtain ⟨w1, w2, w3⟩ := vwk w hw
  have h8 : w < 8 := by omega
  have hin := in_8 h8
  have s0 := hL 14 w (decide_eq_true h8)
  have s1 := hL 15 w (decide_eq_true h8)
  have s2 := hL 16 w (decide_eq_true h8)
  obtain ⟨d, rfl⟩ : ∃ d, D = d + 2 := ⟨D - 2, by omega⟩
  refine isV_e (EX_in mi_X1_perform rfl rfl rfl (ls := [some (.inr (.inr (3, i0))), some (.inl (nI w)), none, none]) rfl) ?_
  rw [e_X1_perform_0, if_pos hin, if_pos hin, if_pos hin, hl_cl (by omega), s0, s1, s2, w1, w2]
  rcases w3 with ⟨c, ha, hb⟩ | ⟨c, ha, hb⟩ | ⟨c, ha, hb⟩ | ⟨c, ha, hb⟩
  · have e : perfV V w = vput V 6 (vN V 15 w) (V 16 w) := if_pos c
    rw [c, e_X1_perform_20_c6, e, w2]
    simp (disch := first | omega | rfl | decide) only [e_X1_perform_48, e_X1_perform_98, xr_v, xr_n, hl_of, hl_cl, hl_toInt, hl_le, hl_lt, hl_eq, nI_add, hl_sub, pk_mul, hl_div, if_pos, if_neg, ↓reduceIte, Nat.reduceAdd, Nat.reduceSub, Nat.reduceMul, Nat.add_zero, Nat.zero_add, mp_s, mp_k, mp_i, mp_g, mr_s, mr_i, mr_g, zlt_0, zlt_1, zlt_2, zlt_3, zlt_4, zlt_5, zlt_6, zlt_8, zlt_12, zlt_15, zlt_20, zlt_24, zlt_36, zlt_40, zlt_48, zlt_80, zlt_97, zlt_120, zlt_256, zlt_600, zlt_99999999, zadd_1, zadd_2, zadd_5, zadd_6, zadd_8, zadd_20, zadd_24, zeq_0, zeq_1, zeq_2, zeq_3, zeq_4, zeq_5, zeq_6, zeq_7, zeq_8, zeq_13, zeq_14, zeq_20, zeq_32, zeq_59, zeq_60, zeq_80, zmul_2, zmul_4, zmul_6, zmul_8, zmul_10, zmul_24, zsub_1, zsub_2, zsub_10, zsub_48, zsub_97, zle_0, zle_1, zle_2, zle_6, zle_11, zle_200, zle_600, zle_100000000, ylt_0, ylt_1, ylt_2, ylt_3, ylt_6, ylt_9, ylt_20, ylt_24, ylt_57, ylt_60, ylt_99, ylt_120, ylt_122, ylt_999, ylt_9999, yle_0, yle_2, yle_4, yle_5, yle_6, yle_7, yle_8, yle_10, yle_12, yle_13, yle_15, yle_16, yle_20, yle_24, yle_40, yle_60, yle_64, yle_80, yadd_1, yadd_22, ymul_2, ymul_4, ymul_6, ymul_8, ymul_10, ymul_24, ymul_27, ymul_100, ysub_1, ysub_24, zdiv_2, zdiv_4, zdiv_24]
    exact isV_i ⟨Fr_put Fr_refl (sLd_s rfl), CL_put hL⟩
  · have e : perfV V w = vtar V (vN V 15 w) (vN V 16 w) := (if_neg (by rw [c]; decide)).trans (if_pos c)
    rw [c, e_X1_perform_20_c7, e_X1_perform_58]
    obtain ⟨M1, q1, f1, r1⟩ := x1_flood L xs O (D := d + 1) (by omega) i0 _ _ ha (by omega) M
    rw [q1]
    simp only [xr_n, Nat.reduceAdd, Nat.add_zero]
    rw [e_X1_perform_64, e_X1_perform_98, e]
    refine isV_i ⟨Fr_mono (fun _ _ _ => sRow_ld rfl) f1, fun g k hl => ?_⟩
    unfold vtar
    by_cases eg : g = 4
    · rw [eg] at hl ⊢
      rw [r1 k (of_decide_eq_true hl)]
      by_cases cc : vN V 15 w ≤ k ∧ k ≤ vN V 16 w
      · rw [if_pos cc, if_pos ⟨rfl, cc⟩]
      · rw [if_neg cc, if_neg (fun h => cc h.2)]
        exact hL 4 k hl
    · rw [f1 g i0 k (sRow_g eg), if_neg (fun h => eg h.1)]
      exact hL g k hl
  · have e : perfV V w = vput V 11 (vN V 15 w) (imax 0 (V 11 (vN V 15 w) - V 16 w)) := (if_neg (by rw [c]; decide)).trans ((if_neg (by rw [c]; decide)).trans (if_pos c))
    have g11 := hL 11 (vN V 15 w) (decide_eq_true (show vN V 15 w < 6 by omega))
    rw [c, e_X1_perform_20_c8, e, w2]
    unfold imax
    simp (disch := first | omega | rfl | decide) only [e_X1_perform_67, e_X1_perform_84, e_X1_perform_98, xr_v, xr_n, hl_of, hl_cl, hl_toInt, hl_le, hl_lt, hl_eq, nI_add, hl_sub, pk_mul, hl_div, if_pos, if_neg, ↓reduceIte, Nat.reduceAdd, Nat.reduceSub, Nat.reduceMul, Nat.add_zero, Nat.zero_add, mp_s, mp_k, mp_i, mp_g, mr_s, mr_i, mr_g, zlt_0, zlt_1, zlt_2, zlt_3, zlt_4, zlt_5, zlt_6, zlt_8, zlt_12, zlt_15, zlt_20, zlt_24, zlt_36, zlt_40, zlt_48, zlt_80, zlt_97, zlt_120, zlt_256, zlt_600, zlt_99999999, zadd_1, zadd_2, zadd_5, zadd_6, zadd_8, zadd_20, zadd_24, zeq_0, zeq_1, zeq_2, zeq_3, zeq_4, zeq_5, zeq_6, zeq_7, zeq_8, zeq_13, zeq_14, zeq_20, zeq_32, zeq_59, zeq_60, zeq_80, zmul_2, zmul_4, zmul_6, zmul_8, zmul_10, zmul_24, zsub_1, zsub_2, zsub_10, zsub_48, zsub_97, zle_0, zle_1, zle_2, zle_6, zle_11, zle_200, zle_600, zle_100000000, ylt_0, ylt_1, ylt_2, ylt_3, ylt_6, ylt_9, ylt_20, ylt_24, ylt_57, ylt_60, ylt_99, ylt_120, ylt_122, ylt_999, ylt_9999, yle_0, yle_2, yle_4, yle_5, yle_6, yle_7, yle_8, yle_10, yle_12, yle_13, yle_15, yle_16, yle_20, yle_24, yle_40, yle_60, yle_64, yle_80, yadd_1, yadd_22, ymul_2, ymul_4, ymul_6, ymul_8, ymul_10, ymul_24, ymul_27, ymul_100, ysub_1, ysub_24, zdiv_2, zdiv_4, zdiv_24, g11]
    exact isV_i ⟨Fr_put Fr_refl (sLd_s rfl), CL_put hL⟩
  · have e : perfV V w = vput V 8 (vN V 15 w) (V 8 (vN V 15 w) + V 16 w) := (if_neg (by rw [c]; decide)).trans ((if_neg (by rw [c]; decide)).trans (if_neg (by rw [c]; decide)))
    have g8 := hL 8 (vN V 15 w) (decide_eq_true (show vN V 15 w < 8 by omega))
    rw [c, e_X1_perform_20_d _ _ _ _ _ _ _ _ _ _ _ _ _ _ 9 (by decide), e, w2]
    simp (disch := first | omega | rfl | decide) only [e_X1_perform_88, e_X1_perform_98, xr_v, xr_n, hl_of, hl_cl, hl_toInt, hl_le, hl_lt, hl_eq, nI_add, hl_sub, pk_mul, hl_div, if_pos, if_neg, ↓reduceIte, Nat.reduceAdd, Nat.reduceSub, Nat.reduceMul, Nat.add_zero, Nat.zero_add, mp_s, mp_k, mp_i, mp_g, mr_s, mr_i, mr_g, zlt_0, zlt_1, zlt_2, zlt_3, zlt_4, zlt_5, zlt_6, zlt_8, zlt_12, zlt_15, zlt_20, zlt_24, zlt_36, zlt_40, zlt_48, zlt_80, zlt_97, zlt_120, zlt_256, zlt_600, zlt_99999999, zadd_1, zadd_2, zadd_5, zadd_6, zadd_8, zadd_20, zadd_24, zeq_0, zeq_1, zeq_2, zeq_3, zeq_4, zeq_5, zeq_6, zeq_7, zeq_8, zeq_13, zeq_14, zeq_20, zeq_32, zeq_59, zeq_60, zeq_80, zmul_2, zmul_4, zmul_6, zmul_8, zmul_10, zmul_24, zsub_1, zsub_2, zsub_10, zsub_48, zsub_97, zle_0, zle_1, zle_2, zle_6, zle_11, zle_200, zle_600, zle_100000000, ylt_0, ylt_1, ylt_2, ylt_3, ylt_6, ylt_9, ylt_20, ylt_24, ylt_57, ylt_60, ylt_99, ylt_120, ylt_122, ylt_999, ylt_9999, yle_0, yle_2, yle_4, yle_5, yle_6, yle_7, yle_8, yle_10, yle_12, yle_13, yle_15, yle_16, yle_20, yle_24, yle_40, yle_60, yle_64, yle_80, yadd_1, yadd_22, ymul_2, ymul_4, ymul_6, ymul_8, ymul_10, ymul_24, ymul_27, ymul_100, ysub_1, ysub_24, zdiv_2, zdiv_4, zdiv_24, g8]
    exact isV_i ⟨Fr_put Fr_refl (sLd_s rfl), CL_put hL⟩
end
