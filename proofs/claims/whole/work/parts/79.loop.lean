/-! Loops: one rule for all of them. -/
theorem loopG (L : Nat) (xs : Nat → Int32) (O : Int64) {P : Res → Prop} {mi : MI} {d pc : Nat} {T : Tmp} {c0 s0 : Nat} (St : Nat → Lcs → Mem → Prop) (m c K F : Nat) (hK : K ≤ 3000)
    (step : ∀ f k j ls M, j < m → c + 1 ≤ f → F ≤ f + j * (c + 1) → St j ls M → (∀ f' ls' M', f ≤ f' + c → St (j + 1) ls' M' → P (RN L xs d mi f' pc ls' M' O T c0 s0)) → P (BK L xs (EX L xs (d + 1)) mi (RN L xs d mi f) (k + K) pc ls [] M O T c0 s0))
    (last : ∀ f k ls M, F ≤ f + m * (c + 1) → St m ls M → P (BK L xs (EX L xs (d + 1)) mi (RN L xs d mi f) (k + K) pc ls [] M O T c0 s0)) :
    ∀ r f k j ls M, j + r = m → r * (c + 1) ≤ f → F ≤ f + j * (c + 1) → St j ls M → P (BK L xs (EX L xs (d + 1)) mi (RN L xs d mi f) (k + K) pc ls [] M O T c0 s0) := by
  intro r
  induction r with
  | zero =>
    intro f k j ls M hj hf hF h
    obtain rfl : j = m := by omega
    exact last f k ls M hF h
  | succ r ih =>
    intro f k j ls M hj hf hF h
    have e1 : (r + 1) * (c + 1) = r * (c + 1) + (c + 1) := Nat.succ_mul _ _
    have e2 : (j + 1) * (c + 1) = j * (c + 1) + (c + 1) := Nat.succ_mul _ _
    refine step f k j ls M (by omega) (by omega) hF h ?_
    intro f' ls' M' hf' h'
    obtain ⟨f'', rfl⟩ : ∃ f'', f' = f'' + 1 := ⟨f' - 1, by omega⟩
    obtain ⟨k', hk'⟩ : ∃ k', 3000 = k' + K := ⟨3000 - K, by omega⟩
    refine P_e (RN_s _ _ _ _ _ _ _ _ _ _ _ _) ?_
    rw [hk']
    exact ih f'' k' (j + 1) ls' M' (by omega) (by omega) (by omega) h'
theorem loopB (L : Nat) (xs : Nat → Int32) (O : Int64) {P : Res → Prop} {mi : MI} {d pc : Nat} {T : Tmp} {c0 s0 : Nat} (St : Nat → Lcs → Mem → Prop) (m c K F : Nat) (hK : K ≤ 3000)
    (step : ∀ f k j ls M, j < m → c + 1 ≤ f → St j ls M → (∀ f' ls' M', f ≤ f' + c → St (j + 1) ls' M' → P (RN L xs d mi f' pc ls' M' O T c0 s0)) → P (BK L xs (EX L xs (d + 1)) mi (RN L xs d mi f) (k + K) pc ls [] M O T c0 s0))
    (last : ∀ f k ls M, F ≤ f + m * (c + 1) → St m ls M → P (BK L xs (EX L xs (d + 1)) mi (RN L xs d mi f) (k + K) pc ls [] M O T c0 s0)) :
    ∀ r f k j ls M, j + r = m → r * (c + 1) ≤ f → F ≤ f + j * (c + 1) → St j ls M → P (BK L xs (EX L xs (d + 1)) mi (RN L xs d mi f) (k + K) pc ls [] M O T c0 s0) :=
  loopG L xs O St m c K F hK (fun f k j ls M hj hf _ hS ih => step f k j ls M hj hf hS ih) last
/-- a loop without loops in it, to a method's end -/
theorem loopA (L : Nat) (xs : Nat → Int32) (O : Int64) {P : Res → Prop} {mi : MI} {d pc : Nat} {T : Tmp} {c0 s0 : Nat} (St : Nat → Lcs → Mem → Prop) (m K : Nat) (hK : K ≤ 3000)
    (step : ∀ f k j ls M, j < m → St j ls M → (∀ ls' M', St (j + 1) ls' M' → P (RN L xs d mi f pc ls' M' O T c0 s0)) → P (BK L xs (EX L xs (d + 1)) mi (RN L xs d mi f) (k + K) pc ls [] M O T c0 s0))
    (last : ∀ f k ls M, St m ls M → P (BK L xs (EX L xs (d + 1)) mi (RN L xs d mi f) (k + K) pc ls [] M O T c0 s0)) {f k : Nat} {ls : Lcs} {M : Mem} (hm : m ≤ f) (h : St 0 ls M) :
    P (BK L xs (EX L xs (d + 1)) mi (RN L xs d mi f) (k + K) pc ls [] M O T c0 s0) :=
  loopB L xs O St m 0 K 0 hK (fun f k j ls M hj hf hS ih => step f k j ls M hj hS (fun ls' M' h' => ih f ls' M' (by omega) h')) (fun f k ls M _ hS => last f k ls M hS) m f k 0 ls M (by omega) (by omega) (by omega) h
/-- a loop without loops in it, with what is left of the fuel -/
theorem loopC (L : Nat) (xs : Nat → Int32) (O : Int64) {P : Res → Prop} {mi : MI} {d pc : Nat} {T : Tmp} {c0 s0 : Nat} (St : Nat → Lcs → Mem → Prop) (m K : Nat) (hK : K ≤ 3000) {f0 k : Nat} {ls : Lcs} {M : Mem}
    (step : ∀ f k j ls M, j < m → St j ls M → (∀ ls' M', St (j + 1) ls' M' → P (RN L xs d mi f pc ls' M' O T c0 s0)) → P (BK L xs (EX L xs (d + 1)) mi (RN L xs d mi f) (k + K) pc ls [] M O T c0 s0))
    (last : ∀ f k ls M, f0 ≤ f + m → St m ls M → P (BK L xs (EX L xs (d + 1)) mi (RN L xs d mi f) (k + K) pc ls [] M O T c0 s0)) (hm : m ≤ f0) (h : St 0 ls M) :
    P (BK L xs (EX L xs (d + 1)) mi (RN L xs d mi f0) (k + K) pc ls [] M O T c0 s0) :=
  loopB L xs O St m 0 K f0 hK (fun f k j ls M hj hf hS ih => step f k j ls M hj hS (fun ls' M' h' => ih f ls' M' (by omega) h')) (fun f k ls M hf hS => last f k ls M (by omega) hS) m f0 k 0 ls M (by omega) (by omega) (by omega) h
/-- a loop without loops in it, with what is left of the fuel at each round -/
theorem loopD (L : Nat) (xs : Nat → Int32) (O : Int64) {P : Res → Prop} {mi : MI} {d pc : Nat} {T : Tmp} {c0 s0 : Nat} (St : Nat → Lcs → Mem → Prop) (m K : Nat) (hK : K ≤ 3000) {f0 k : Nat} {ls : Lcs} {M : Mem}
    (step : ∀ f k j ls M, j < m → f0 ≤ f + j → St j ls M → (∀ ls' M', St (j + 1) ls' M' → P (RN L xs d mi f pc ls' M' O T c0 s0)) → P (BK L xs (EX L xs (d + 1)) mi (RN L xs d mi f) (k + K) pc ls [] M O T c0 s0))
    (last : ∀ f k ls M, f0 ≤ f + m → St m ls M → P (BK L xs (EX L xs (d + 1)) mi (RN L xs d mi f) (k + K) pc ls [] M O T c0 s0)) (hm : m ≤ f0) (h : St 0 ls M) :
    P (BK L xs (EX L xs (d + 1)) mi (RN L xs d mi f0) (k + K) pc ls [] M O T c0 s0) :=
  loopG L xs O St m 0 K f0 hK (fun f k j ls M hj hf hF hS ih => step f k j ls M hj (by omega) hS (fun ls' M' h' => ih f ls' M' (by omega) h')) (fun f k ls M hf hS => last f k ls M (by omega) hS) m f0 k 0 ls M (by omega) (by omega) (by omega) h
section
variable (L : Nat) (xs : Nat → Int32) (O : Int64)
theorem x6_w2_in {D : Nat} (hD : 3 ≤ D) (j : Nat) (M : Mem) (hj : j < 2) : EX L xs (D) q_X6_needWhat [.inr (.inr (0, 0)), .inl (nI j), .inl (2)] M O = (some (.inl none, M, O, 0, 0) : Res) := x6_needWhat_in L xs O hD 2 j (by omega) M hj
theorem x6_w2_out {D : Nat} (hD : 3 ≤ D) (a : Int32) (M : Mem) (h : ¬ inN a 2) : EX L xs (D) q_X6_needWhat [.inr (.inr (0, 0)), .inl (a), .inl (2)] M O = (some (.inr 2, refC M 2, O, 1, 6) : Res) := x6_needWhat_out L xs O hD 2 (by omega) a M h
theorem x6_w3_in {D : Nat} (hD : 3 ≤ D) (j : Nat) (M : Mem) (hj : j < 3) : EX L xs (D) q_X6_needWhat [.inr (.inr (0, 0)), .inl (nI j), .inl (3)] M O = (some (.inl none, M, O, 0, 0) : Res) := x6_needWhat_in L xs O hD 3 j (by omega) M hj
theorem x6_w3_out {D : Nat} (hD : 3 ≤ D) (a : Int32) (M : Mem) (h : ¬ inN a 3) : EX L xs (D) q_X6_needWhat [.inr (.inr (0, 0)), .inl (a), .inl (3)] M O = (some (.inr 2, refC M 2, O, 1, 6) : Res) := x6_needWhat_out L xs O hD 3 (by omega) a M h
theorem x6_w4_in {D : Nat} (hD : 3 ≤ D) (j : Nat) (M : Mem) (hj : j < 4) : EX L xs (D) q_X6_needWhat [.inr (.inr (0, 0)), .inl (nI j), .inl (4)] M O = (some (.inl none, M, O, 0, 0) : Res) := x6_needWhat_in L xs O hD 4 j (by omega) M hj
theorem x6_w4_out {D : Nat} (hD : 3 ≤ D) (a : Int32) (M : Mem) (h : ¬ inN a 4) : EX L xs (D) q_X6_needWhat [.inr (.inr (0, 0)), .inl (a), .inl (4)] M O = (some (.inr 2, refC M 2, O, 1, 6) : Res) := x6_needWhat_out L xs O hD 4 (by omega) a M h
theorem x6_w5_in {D : Nat} (hD : 3 ≤ D) (j : Nat) (M : Mem) (hj : j < 5) : EX L xs (D) q_X6_needWhat [.inr (.inr (0, 0)), .inl (nI j), .inl (5)] M O = (some (.inl none, M, O, 0, 0) : Res) := x6_needWhat_in L xs O hD 5 j (by omega) M hj
theorem x6_w5_out {D : Nat} (hD : 3 ≤ D) (a : Int32) (M : Mem) (h : ¬ inN a 5) : EX L xs (D) q_X6_needWhat [.inr (.inr (0, 0)), .inl (a), .inl (5)] M O = (some (.inr 2, refC M 2, O, 1, 6) : Res) := x6_needWhat_out L xs O hD 5 (by omega) a M h
theorem x4_rowOfs {M0 : Mem} {V : Vw} {As : Nat → Nat → Int32} {n nh ns nw na : Nat} {D : Nat} (hD : 5 ≤ D) (a s : Nat) (ha : a < na) (hs : s < ns) (M : Mem) (hM : CQ M0 V As n nh ns nw na M) :
    isR (EX L xs (D) q_X4_rowOf [.inr (.inr (24, 0)), .inr (.inr (3, 2)), .inr (.inr (18, a)), .inl (nI a), .inl (nI s)] M O) O 27 (a * 6 + s) (fun M' => CQ M0 V As n nh ns nw na M' ∧ (∀ y, y < 40 → M' 27 (a * 6 + s) y = srcF V (As a) n s y) ∧ (∀ i y, i ≠ a * 6 + s → M' 27 i y = M 27 i y) ∧ ∀ y, M' 30 0 y = M 30 0 y) := by
  obtain ⟨fr, hV, hL, h6, h6', hA, hC⟩ := hM
  have v7 : ns ≤ 6 := hV.2.2.2.2.2.2.2.1
  have hi : a * 6 + s < 36 := by omega
  have hin := in_36 hi
  have hcl : (nI (a * 6 + s)).toNatClampNeg = a * 6 + s := hl_cl (by omega)
  obtain ⟨d, rfl⟩ : ∃ d, D = d + 2 := ⟨D - 2, by omega⟩
  refine isR_e (EX_in mi_X4_rowOf rfl rfl rfl (ls := [some (.inr (.inr (24, 0))), some (.inr (.inr (3, 2))), some (.inr (.inr (18, a))), some (.inl (nI a)), some (.inl (nI s)), none]) rfl) ?_
  rw [e_X4_rowOf_0, zmul_6, nI_add, if_pos hin, hcl]
  rcases hC.1 _ hi with h0 | ⟨h1, a', s', ha', hs', he, hr⟩
  · rw [if_pos h0, x3_setSource L xs O (D := d + 1) (by omega) 2 s (by omega)]
    simp only [xr_n, Nat.reduceAdd, Nat.add_zero]
    rw [e_X4_rowOf_29, if_pos hin, hcl, Nat.zero_add]
    have g10 := (hL 10 s (decide_eq_true (show s < 6 by omega))).trans ((hV.2.2.2.2.2.2.2.2.2.2.2.2.2.1) s hs).1
    have g11 := hL 11 s (decide_eq_true (show s < 6 by omega))
    have g12 := hL 12 s (decide_eq_true (show s < 6 by omega))
    have l11 := (hV.2.2.2.2.2.2.2.2.2.2.2.2.2.2.1) s hs
    rw [g10, g11, g12]
    generalize hM1 : mput (mput (mput (mput M 25 0 0 (nI (vN V 10 s))) 25 0 1 1) 25 0 2 (V 11 s)) 25 0 3 (V 12 s) = M1
    have f1 : Fr sK M M1 := hM1 ▸ Fr_put (Fr_put (Fr_put (Fr_put Fr_refl rfl) rfl) rfl) rfl
    obtain ⟨f1', c1⟩ := CQ_fr ⟨fr, hV, hL, h6, h6', hA, hC⟩ f1
    obtain ⟨M2, q2, f2, r2⟩ := x4_spread L xs O (D := d + 1) (by omega) hV 2 a (a * 6 + s) M1 c1.2.1 (c1.2.2.2.2.1 a ha) (x := vN V 10 s) (up := 1) (lv := V 11 s) (pt := V 12 s) ((hV.2.2.2.2.2.2.2.2.2.2.2.2.2.1) s hs).2
      (by rw [← hM1, mp_k (by omega), mp_k (by omega), mp_k (by omega), mp_s]) (by rw [← hM1, mp_k (by omega), mp_k (by omega), mp_s]) (by rw [← hM1, mp_k (by omega), mp_s]) (by rw [← hM1, mp_s]) (by rw [l11.1]; exact nn_n _ (by omega))
    rw [q2]
    simp only [xr_n, Nat.reduceAdd, Nat.add_zero]
    rw [e_X4_rowOf_42, if_pos hin, hcl, e_X4_rowOf_50, if_pos hin, hcl, Nat.zero_add]
    have f2' : Fr sC M1 M2 := Fr_mono (fun _ _ _ => sC_sp (Or.inl rfl)) f2
    have f3 : Fr sC M0 (mput M2 28 0 (a * 6 + s) 1) := Fr_put (Fr_trans f1' f2') rfl
    have r3 : ∀ y, y < 40 → mput M2 28 0 (a * 6 + s) 1 27 (a * 6 + s) y = srcF V (As a) n s y := fun y hy => by
      rw [mp_g (by omega)]
      exact r2 y hy
    refine isR_i ⟨⟨f3, CW_fr c1 (Fr_put f2' rfl) ⟨fun i hi' => ?_, ?_⟩⟩, r3, fun i y e => ?_, fun y => ?_⟩
    · by_cases e : i = a * 6 + s
      · rw [e, mp_s]
        exact Or.inr ⟨rfl, a, s, ha, hs, rfl, r3⟩
      · have k28 : M2 28 0 i = M1 28 0 i := f2 28 0 i rfl
        have k27 : ∀ y, M2 27 i y = M1 27 i y := fun y => f2 27 i y (by
          unfold sSp
          rw [beq_n e]
          rfl)
        rw [mp_k e, k28]
        rcases c1.2.2.2.2.2.1 i hi' with h1 | ⟨h1, a', s', ha', hs', he, hr⟩
        · exact Or.inl h1
        · refine Or.inr ⟨h1, a', s', ha', hs', he, fun y hy => ?_⟩
          rw [mp_g (by omega), k27]
          exact hr y hy
    · rw [mp_g (by omega), mp_g (by omega), f2 0 0 12 rfl, f2 0 0 13 rfl]
      rcases c1.2.2.2.2.2.2 with h1 | ⟨a', t, ha', ht, h1, h2, h3⟩
      · exact Or.inl h1
      · refine Or.inr ⟨a', t, ha', ht, h1, h2, fun b hb => ?_⟩
        rw [mp_g (by omega), f2 33 0 b rfl]
        exact h3 b hb
    · have k27 : M2 27 i y = M1 27 i y := f2 27 i y (by
        unfold sSp
        rw [beq_n e]
        rfl)
      rw [mp_g (by omega), k27]
      exact f1 27 i y rfl
    · rw [mp_g (by omega), f2 30 0 y rfl, ← hM1, mp_g (by omega), mp_g (by omega), mp_g (by omega), mp_g (by omega)]
  · obtain rfl : s' = s := by omega
    obtain rfl : a' = a := by omega
    rw [h1, if_neg (by decide), e_X4_rowOf_50, if_pos hin, hcl, Nat.zero_add]
    exact isR_i ⟨⟨fr, hV, hL, h6, h6', hA, hC⟩, hr, fun _ _ _ => rfl, fun _ => rfl⟩
theorem x6_rowOfs {M0 : Mem} {V : Vw} {As : Nat → Nat → Int32} {n nh ns nw na : Nat} {D : Nat} (hD : 6 ≤ D) (a s : Nat) (ha : a < na) (hs : s < ns) (M : Mem) (hM : CQ M0 V As n nh ns nw na M) :
    isR (EX L xs (D) q_X6_rowOf [.inr (.inr (0, 0)), .inl (nI a), .inl (nI s)] M O) O 27 (a * 6 + s) (fun M' => CQ M0 V As n nh ns nw na M' ∧ (∀ y, y < 40 → M' 27 (a * 6 + s) y = srcF V (As a) n s y) ∧ (∀ i y, i ≠ a * 6 + s → M' 27 i y = M 27 i y) ∧ ∀ y, M' 30 0 y = M 30 0 y) := by
  have h6 := hM.2.2.2.2.1
  obtain ⟨d, rfl⟩ : ∃ d, D = d + 2 := ⟨D - 2, by omega⟩
  refine isR_e (EX_in mi_X6_rowOf rfl rfl rfl (ls := [some (.inr (.inr (0, 0))), some (.inl (nI a)), some (.inl (nI s))]) rfl) ?_
  obtain ⟨M1, q1, h1⟩ := x4_rowOfs L xs O (D := d + 1) (by omega) a s ha hs M hM
  rw [e_X6_rowOf_0, if_pos (in_6 (by omega)), hl_cl (by omega), Nat.zero_add, q1]
  simp only [xr_v, Nat.reduceAdd, Nat.add_zero]
  rw [e_X6_rowOf_19]
  exact isR_i h1
theorem x6_rowOf2 {M0 : Mem} {V : Vw} {As : Nat → Nat → Int32} {n nh ns nw na : Nat} {D : Nat} (hD : 6 ≤ D) (a s : Nat) (ha : a < na) (hs : s < ns) {M : Mem} (hr : ∀ y, y < 40 → M 27 (a * 6 + s) y = srcF V (As a) n s y) (o t : Nat) (ho : o < na) (ht : t < ns) (M' : Mem) (hM : CQ M0 V As n nh ns nw na M') (e : M' = M) :
    isR (EX L xs (D) q_X6_rowOf [.inr (.inr (0, 0)), .inl (nI o), .inl (nI t)] M' O) O 27 (o * 6 + t) (fun M' => CQ M0 V As n nh ns nw na M' ∧ (∀ y, y < 40 → M' 27 (a * 6 + s) y = srcF V (As a) n s y) ∧ ∀ y, y < 40 → M' 27 (o * 6 + t) y = srcF V (As o) n t y) := by
  have v7 : ns ≤ 6 := hM.2.1.2.2.2.2.2.2.2.1
  subst e
  obtain ⟨M1, q, h, r, k, -⟩ := x6_rowOfs L xs O hD o t ho ht M' hM
  refine ⟨M1, q, h, ?_, r⟩
  intro y hy
  by_cases c : a * 6 + s = o * 6 + t
  · obtain rfl : s = t := by omega
    obtain rfl : a = o := by omega
    exact r y hy
  · rw [k _ y c]
    exact hr y hy
end
