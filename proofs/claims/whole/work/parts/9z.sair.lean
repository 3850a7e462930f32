/-! An AIR is told: both. -/
theorem CC_a {V : Vw} {As As' : Nat → Nat → Int32} {n nh ns nw na na' : Nat} {M M' : Mem} (h : CC M V As n nh ns nw na) (hna : na ≤ na') (eA : ∀ a, a < na → As' a = As a) (e : ∀ g i k, (g = 0 ∧ (k = 12 ∨ k = 13)) ∨ g = 27 ∨ g = 28 ∨ g = 33 → M' g i k = M g i k) : CC M' V As' n nh ns nw na' := by
  obtain ⟨h1, h2⟩ := h
  refine ⟨fun i hi => ?_, ?_⟩
  · rw [e 28 0 i (by omega)]
    rcases h1 i hi with h | ⟨a, x, s, b, c, d, f⟩
    · exact Or.inl h
    · refine Or.inr ⟨a, x, s, by omega, c, d, fun y hy => ?_⟩
      rw [e 27 i y (by omega), eA x b]
      exact f y hy
  · rw [e 0 0 12 (by omega), e 0 0 13 (by omega)]
    rcases h2 with h | ⟨a, x, b, c, d, f, g⟩
    · exact Or.inl h
    · refine Or.inr ⟨a, x, by omega, c, d, f, fun y hy => ?_⟩
      rw [e 33 0 y (by omega), eA a b]
      exact g y hy
theorem MS_f {M M' : Mem} {T : Vw} {n nh ns nw : Nat} (h : MS M T n nh ns nw) (e : ∀ g i k, (g = 44 ∨ (49 ≤ g ∧ g ≤ 52) ∨ g = 56 ∨ g = 60 ∨ g = 64) → M' g i k = M g i k) : MS M' T n nh ns nw := by
  obtain ⟨m0, m1, m2, m3, m4, m5, m6, m7, m8⟩ := h
  refine ⟨(e _ _ _ (by omega)).trans m0, (e _ _ _ (by omega)).trans m1, (e _ _ _ (by omega)).trans m2, (e _ _ _ (by omega)).trans m3, fun j hj => (e _ _ _ (by omega)).trans (m4 j hj), fun j hj => (e _ _ _ (by omega)).trans (m5 j hj), fun j hj => (e _ _ _ (by omega)).trans (m6 j hj), fun s hs => ?_, fun w hw => ?_⟩
  · rw [e 60 s 0 (by omega), e 60 s 2 (by omega), e 60 s 3 (by omega)]
    exact m7 s hs
  · rw [e 64 w 0 (by omega), e 64 w 1 (by omega), e 64 w 2 (by omega), e 64 w 3 (by omega)]
    exact m8 w hw
theorem MT_f {M M' : Mem} {T : Vw} {n nh ns : Nat} (h : MT M T n nh ns) (e : ∀ g i k, (g = 44 ∨ (49 ≤ g ∧ g ≤ 52) ∨ g = 56 ∨ g = 60 ∨ g = 64) → M' g i k = M g i k) : MT M' T n nh ns := by
  obtain ⟨t1, t2, t3⟩ := h
  refine ⟨fun j hj => ?_, fun k hk => (e _ _ _ (by omega)).trans (t2 k hk), fun s hs => (e _ _ _ (by omega)).trans (t3 s hs)⟩
  rw [e 49 0 j (by omega), e 51 0 j (by omega)]
  exact t1 j hj
theorem CA_e {M M' : Mem} {i : Nat} {A : Nat → Int32} (h : CA M i A) (e : ∀ g k, g = 18 ∨ g = 19 → M' g i k = M g i k) : CA M' i A := ⟨fun j hj => (e 19 j (by omega)).trans (h.1 j hj), (e 18 1 (by omega)).trans h.2.1, (e 18 2 (by omega)).trans h.2.2.1, (e 18 3 (by omega)).trans h.2.2.2⟩
section
variable (L : Nat) (xs : Nat → Int32) (O : Int64)
theorem s_air {d : Nat} (hD : 11 ≤ d) (a1 : Int32) (M : Mem) (hI : INV M) : Stq L xs O (d + 1 + 1 + 1) q_L_air q_X7_air [.inl a1] M := by
  obtain ⟨T, As, n, nh, ns, nw, na, md, ia, ni, nt, mds, hC⟩ := hI
  obtain ⟨p1, p2, p3, p4⟩ := hC.2.2.2.2.2.2.1
  -- refused
  have ref : a1 < 0 ∨ nI nt < a1 ∨ 200 < a1 → Stq L xs O (d + 1 + 1 + 1) q_L_air q_X7_air [.inl a1] M := by
    intro hr
    refine stp_r L xs O hC 2 1 (by omega) (by omega) (w_air_2 L xs O a1 M _ ?_) (b := .inl 0) ?_
    · refine (EX_in mi_X6_air rfl rfl rfl (ls := [some (.inr (.inr (0, 0))), some (.inl (a1))]) rfl).trans ?_
      rw [e_X6_air_0, p1]
      by_cases c1 : a1 < 0
      · rw [if_pos c1, e_X6_air_26, e_X6_air_27, x6_needArg_0 L xs O (D := d + 1) (by omega) M, xr_t rfl]
      · have emin : (if (200 : Int32) < nI nt then (200 : Int32) else nI nt) < a1 := by
          by_cases c : (200 : Int32) < nI nt
          · rw [if_pos c]
            rcases hr with h | h | h
            · exact absurd h c1
            · rw [i_lt] at *
              omega
            · exact h
          · rw [if_neg c]
            rcases hr with h | h | h
            · exact absurd h c1
            · exact h
            · rw [i_lt] at *
              omega
        rw [if_neg c1, e_X6_air_19, if_pos emin, e_X6_air_26, e_X6_air_27, x6_needArg_0 L xs O (D := d + 1) (by omega) M, xr_t rfl]
    · refine (EX_in mi_X7_air rfl rfl rfl (ls := [some (.inr (.inr (40, 0))), some (.inl (a1)), none]) rfl).trans ?_
      have t1 : (mput (refC M 2) 40 0 0 0) 40 0 0 = 0 := mp_s
      have b1 : EX L xs (d + 1 + 1) q_X7_bad [.inr (.inr (40, 0)), .inl (1), .inl (1), .inl (2)] (mput (refC M 2) 40 0 0 0) O = (some (.inl (some (.inl (1))), refM (mput (refC M 2) 40 0 0 0) (nI 1) 2, O, 0, 0) : Res) := x7_bad_1 L xs O (by omega) 1 2 (by omega) (by decide) _ t1
      rw [e_X7_air_0, show (refC M 2) 40 0 1 = nI nt from p2, x7_in L xs O (D := d + 1 + 1) (by omega)]
      simp only [xr_v, Nat.reduceAdd, Nat.add_zero]
      rw [e_X7_air_15]
      by_cases c1 : a1 < 0
      · rw [if_pos c1, if_pos rfl, e_X7_air_25, e_X7_air_30, b1]
        simp only [xr_v, Nat.reduceAdd, Nat.add_zero]
        rw [e_X7_air_35, if_neg (by decide)]
      · by_cases c2 : nI nt < a1
        · rw [if_neg c1, if_pos c2, if_pos rfl, e_X7_air_25, e_X7_air_30, b1]
          simp only [xr_v, Nat.reduceAdd, Nat.add_zero]
          rw [e_X7_air_35, if_neg (by decide)]
        · have c3 : (200 : Int32) < a1 := (hr.resolve_left c1).resolve_left c2
          rw [if_neg c1, if_neg c2, if_neg (by decide), if_neg (by rw [i_le]; rw [i_lt] at c3; omega), e_X7_air_25, e_X7_air_30, b1]
          simp only [xr_v, Nat.reduceAdd, Nat.add_zero]
          rw [e_X7_air_35, if_neg (by decide)]
  by_cases c1 : a1 < 0
  · exact ref (Or.inl c1)
  by_cases c2 : nI nt < a1
  · exact ref (Or.inr (Or.inl c2))
  by_cases c3 : 200 < a1
  · exact ref (Or.inr (Or.inr c3))
  clear ref
  obtain ⟨n0, hn0, rfl⟩ := nI_of c1
  have hn : n0 ≤ nt := by
    rw [hl_lt (by omega) (by omega)] at c2
    omega
  have hn2 : n0 ≤ 200 := by
    rw [show (200 : Int32) = nI 200 from rfl, hl_lt (by omega) (by omega)] at c3
    omega
  generalize htx : (fun i => (M 41 0 i).toNatClampNeg : Nat → Nat) = tx
  have hb : ∀ i, i < n0 → M 41 0 i = nI (tx i) ∧ tx i < 256 := by
    intro i hi
    obtain ⟨b, hb, e⟩ := (p4 i (by omega)).2
    rw [← htx]
    dsimp only
    rw [e, hl_cl (by omega)]
    exact ⟨rfl, hb⟩
  have hna : na ≤ 6 := hC.2.1.2.2.2.1
  obtain ⟨M1, q1, y1, post1⟩ := c_air L xs O (D := d + 1 + 1) (by omega) n0 nt na hn p3 hn2 hna (tx := tx) M hC.2.1.2.2.1 p1 (fun i hi => ⟨(p4 i (by omega)).1.trans (hb i hi).1, (hb i hi).2⟩)
  have hin := asR_in (tx := tx) (N := n0) 21
  have fc : Fr (fun g i k => decide ((g = 1 ∧ k ≤ 5) ∨ ((g = 18 ∨ g = 19) ∧ i = na) ∨ (g = 0 ∧ k = 6))) M M1 := by
    by_cases c6 : na = 6
    · rw [if_pos c6] at post1
      exact Fr_mono (fun g i k h => decide_eq_false (by have := of_decide_eq_false h; omega)) post1.1
    · rw [if_neg c6] at post1
      cases e : (asR tx n0 21).2 with
      | inl p =>
        rw [e] at post1
        exact post1.1
      | inr x =>
        rw [e] at post1
        exact Fr_mono (fun g i k h => decide_eq_false (by have := of_decide_eq_false h; omega)) post1.1
  have ec : ∀ g i k, 30 ≤ g → M1 g i k = M g i k := fun g i k hg => fc g i k (decide_eq_false (by omega))
  obtain ⟨M2, q2, z2, y2, post2⟩ := x7_air_in L xs (if na = 6 then -1 else match (asR tx n0 21).2 with
    | .inl _ => nI na
    | .inr e => nI e.1 - 10 : Int32).toInt64 (D := d + 1 + 1 + 1) (by omega) n0 nt na hn p3 hn2 hna (tx := tx) M1 ((ec 40 0 1 (by omega)).trans p2) ((ec 40 0 26 (by omega)).trans hC.1.2.2.2.2.1) (fun i hi => ⟨(ec 41 0 i (by omega)).trans (hb i hi).1, (hb i hi).2⟩)
  refine ⟨0, M1, _, 0, 0, w_air_v L xs O (nI n0) _ M M1 q1, by omega, by omega, by omega, .inl _, M2, 0, 0, q2, by omega, by omega, z2, fun _ => rfl, ?_⟩
  clear q1 q2
  generalize asR tx n0 21 = st at *
  obtain ⟨A, ts⟩ := st
  obtain ⟨hOK, hCm, hMm⟩ := hC.2.2.2.2.1
  -- nothing taken
  have no : Fr (sCA na) M M1 → Fr sAf M1 M2 → M2 1 0 5 = M2 40 0 3 → INV M2 := by
    intro g1 g2 e5
    have a : ∀ g i k, ¬ (g = 1 ∧ k ≤ 5) → ¬ ((g = 18 ∨ g = 19) ∧ i = na) → ¬ (g = 40 ∧ k ≤ 7) → g ≠ 65 → M2 g i k = M g i k := fun g i k h1 h2 h3 h4 => (g2 g i k (decide_eq_false (by omega))).trans (g1 g i k (decide_eq_false (by omega)))
    have hMm2 : MMd M2 md := MMd_e hMm (a 40 0 29 (by omega) (by omega) (by omega) (by omega)) (a 40 0 30 (by omega) (by omega) (by omega) (by omega)) (fun g k h1 h2 => a g 0 k (by omega) (by omega) (by omega) (by omega))
    refine ⟨T, As, n, nh, ns, nw, na, md, ia, ni, 0, mds, MB_of (MB0_f (MB_0 hC.1) (a 40 0 26 (by omega) (by omega) (by omega) (by omega)) (fun g i k hg => a g i k (by omega) (by omega) (by omega) (by omega))) hOK hMm2, ⟨hC.2.1.1, fun g k hl => (a g 2 k (by have := isLand_le (lk_land hl); omega) (by have := isLand_le (lk_land hl); omega) (by have := isLand_le (lk_land hl); omega) (by have := isLand_le (lk_land hl); omega)).trans (hC.2.1.2.1 g k hl), (a 0 0 6 (by omega) (by omega) (by omega) (by omega)).trans hC.2.1.2.2.1, hna, fun x hx => CA_e (hC.2.1.2.2.2.2.1 x hx) (fun g k hg => a g x k (by omega) (by omega) (by omega) (by omega)), CC_a hC.2.1.2.2.2.2.2 (Nat.le_refl _) (fun _ _ => rfl) (fun g i k hg => a g i k (by omega) (by omega) (by omega) (by omega))⟩, hC.2.2.1, LndC_e hC.2.2.2.1 (fun k hk => a 0 0 k (by omega) (by omega) (by omega) (by omega)) (fun g i k h1 h2 h3 => a g i k (by omega) (by omega) (by omega) (by omega)), ⟨hOK, CMd_e hCm (fun g k h1 h2 => a g 0 k (by omega) (by omega) (by omega) (by omega)), hMm2⟩, ImgC_e hC.2.2.2.2.2.1 (a 0 0 9 (by omega) (by omega) (by omega) (by omega)) (a 40 0 31 (by omega) (by omega) (by omega) (by omega)) (fun g i k h1 h2 h3 => a g i k (by omega) (by omega) (by omega) (by omega)) (fun i k => a 72 i k (by omega) (by omega) (by omega) (by omega)), ⟨(g2 1 0 1 rfl).trans y1, y2, by omega, fun i hi => absurd hi (by omega)⟩, e5, fun q hq => ?_⟩
    rw [a 34 0 q (by omega) (by omega) (by omega) (by omega), a 42 0 q (by omega) (by omega) (by omega) (by omega)]
    exact hC.2.2.2.2.2.2.2.2 q hq
  by_cases c6 : na = 6
  · rw [if_pos c6] at post1 post2
    exact no post1.1 post2.1 (((post2.1 1 0 5 rfl).trans post1.2).trans post2.2.symm)
  rw [if_neg c6] at post1 post2
  cases ts with
  | inr e => exact no post1.1 post2.1 (((post2.1 1 0 5 rfl).trans post1.2).trans post2.2.symm)
  | inl p =>
    obtain ⟨g1, r1, ca, n6⟩ := post1
    obtain ⟨g2, s2, ma, b26⟩ := post2
    obtain ⟨k1, k2, k3⟩ := hin rfl
    have em : ∀ g i k, g < 40 → M2 g i k = M1 g i k := fun g i k hg => g2 g i k (decide_eq_false (by omega))
    have a : ∀ g i k, ¬ (g = 1 ∧ k ≤ 5) → ¬ ((g = 18 ∨ g = 19) ∧ i = na) → ¬ (g = 0 ∧ k = 6) → ¬ (g = 40 ∧ (k ≤ 7 ∨ k = 26)) → g ≠ 65 → ¬ (g = 67 ∧ i = na) → M2 g i k = M g i k := fun g i k h1 h2 h3 h4 h5 h6 => (g2 g i k (decide_eq_false (by omega))).trans (g1 g i k (decide_eq_false (by omega)))
    have hMm2 : MMd M2 md := MMd_e hMm (a 40 0 29 (by omega) (by omega) (by omega) (by omega) (by omega) (by omega)) (a 40 0 30 (by omega) (by omega) (by omega) (by omega) (by omega) (by omega)) (fun g k h1 h2 => a g 0 k (by omega) (by omega) (by omega) (by omega) (by omega) (by omega))
    generalize hAs : (fun x => if x = na then A else As x : Nat → Nat → Int32) = As'
    have eN : As' na = A := by
      rw [← hAs]
      exact if_pos rfl
    have eA : ∀ x, x < na → As' x = As x := by
      intro x hx
      rw [← hAs]
      exact if_neg (by omega)
    obtain ⟨hv, hms, hmt, -, -, -, hma⟩ := hC.1
    have er : ∀ g i k, (g = 44 ∨ (49 ≤ g ∧ g ≤ 52) ∨ g = 56 ∨ g = 60 ∨ g = 64) → M2 g i k = M g i k := fun g i k hg => a g i k (by omega) (by omega) (by omega) (by omega) (by omega) (by omega)
    refine ⟨T, As', n, nh, ns, nw, na + 1, md, ia, ni, 0, mds, MB_of ⟨hv, MS_f hms er, MT_f hmt er, b26, by omega, fun x hx => ?_⟩ hOK hMm2, ⟨hC.2.1.1, fun g k hl => (a g 2 k (by have := isLand_le (lk_land hl); omega) (by have := isLand_le (lk_land hl); omega) (by have := isLand_le (lk_land hl); omega) (by have := isLand_le (lk_land hl); omega) (by have := isLand_le (lk_land hl); omega) (by have := isLand_le (lk_land hl); omega)).trans (hC.2.1.2.1 g k hl), (em 0 0 6 (by omega)).trans n6, by omega, fun x hx => ?_, CC_a hC.2.1.2.2.2.2.2 (by omega) eA (fun g i k hg => a g i k (by omega) (by omega) (by omega) (by omega) (by omega) (by omega))⟩, fun x hx => ?_, LndC_e hC.2.2.2.1 (fun k hk => a 0 0 k (by omega) (by omega) (by omega) (by omega) (by omega) (by omega)) (fun g i k h1 h2 h3 => a g i k (by omega) (by omega) (by omega) (by omega) (by omega) (by omega)), ⟨hOK, CMd_e hCm (fun g k h1 h2 => a g 0 k (by omega) (by omega) (by omega) (by omega) (by omega) (by omega)), hMm2⟩, ImgC_e hC.2.2.2.2.2.1 (a 0 0 9 (by omega) (by omega) (by omega) (by omega) (by omega) (by omega)) (a 40 0 31 (by omega) (by omega) (by omega) (by omega) (by omega) (by omega)) (fun g i k h1 h2 h3 => a g i k (by omega) (by omega) (by omega) (by omega) (by omega) (by omega)) (fun i k => a 72 i k (by omega) (by omega) (by omega) (by omega) (by omega) (by omega)), ⟨(em 1 0 1 (by omega)).trans y1, y2, by omega, fun i hi => absurd hi (by omega)⟩, ((em 1 0 5 (by omega)).trans r1).trans s2.symm, fun q hq => ?_⟩
    · by_cases e : x = na
      · rw [e, eN]
        exact ma
      · rw [eA x (by omega)]
        exact fun j hj => (a 67 x j (by omega) (by omega) (by omega) (by omega) (by omega) (by omega)).trans (hma x (by omega) j hj)
    · by_cases e : x = na
      · rw [e, eN]
        exact CA_e ca (fun g k hg => em g na k (by omega))
      · rw [eA x (by omega)]
        exact CA_e (hC.2.1.2.2.2.2.1 x (by omega)) (fun g k hg => a g x k (by omega) (by omega) (by omega) (by omega) (by omega) (by omega))
    · by_cases e : x = na
      · rw [e, eN]
        exact ⟨k1.1, k2, k1.2, k3.1, k3.2⟩
      · rw [eA x (by omega)]
        exact hC.2.2.1 x (by omega)
    · rw [a 34 0 q (by omega) (by omega) (by omega) (by omega) (by omega) (by omega), a 42 0 q (by omega) (by omega) (by omega) (by omega) (by omega) (by omega)]
      exact hC.2.2.2.2.2.2.2.2 q hq
end
