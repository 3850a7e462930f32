/-! A LAND is told: both. -/
theorem MB0_f {M M' : Mem} {T : Vw} {As : Nat → Nat → Int32} {n nh ns nw na : Nat} (h : MB0 M T As n nh ns nw na) (e0 : M' 40 0 26 = M 40 0 26) (e : ∀ g i k, (g = 44 ∨ (49 ≤ g ∧ g ≤ 52) ∨ g = 56 ∨ g = 60 ∨ g = 64 ∨ g = 67) → M' g i k = M g i k) : MB0 M' T As n nh ns nw na := by
  obtain ⟨h1, ⟨m0, m1, m2, m3, m4, m5, m6, m7, m8⟩, ⟨t1, t2, t3⟩, h5, h6', h7⟩ := h
  refine ⟨h1, ⟨(e _ _ _ (by omega)).trans m0, (e _ _ _ (by omega)).trans m1, (e _ _ _ (by omega)).trans m2, (e _ _ _ (by omega)).trans m3, fun j hj => (e _ _ _ (by omega)).trans (m4 j hj), fun j hj => (e _ _ _ (by omega)).trans (m5 j hj), fun j hj => (e _ _ _ (by omega)).trans (m6 j hj), fun s hs => ?_, fun w hw => ?_⟩, ⟨fun j hj => ?_, fun k hk => (e _ _ _ (by omega)).trans (t2 k hk), fun s hs => (e _ _ _ (by omega)).trans (t3 s hs)⟩, e0.trans h5, h6', fun a ha j hj => (e _ _ _ (by omega)).trans (h7 a ha j hj)⟩
  · rw [e 60 s 0 (by omega), e 60 s 2 (by omega), e 60 s 3 (by omega)]
    exact m7 s hs
  · rw [e 64 w 0 (by omega), e 64 w 1 (by omega), e 64 w 2 (by omega), e 64 w 3 (by omega)]
    exact m8 w hw
  · rw [e 49 0 j (by omega), e 51 0 j (by omega)]
    exact t1 j hj
section
variable (L : Nat) (xs : Nat → Int32) (O : Int64)
theorem s_land {d : Nat} (hD : 11 ≤ d) (a1 : Int32) (M : Mem) (hI : INV M) : Stq L xs O (d + 1 + 1 + 1) q_L_land q_X7_land [.inl a1] M := by
  obtain ⟨T, As, n, nh, ns, nw, na, md, ia, ni, nt, mds, hC⟩ := hI
  obtain ⟨p1, p2, p3, p4⟩ := hC.2.2.2.2.2.2.1
  -- refused
  have ref : a1 < 0 ∨ nI nt < a1 → Stq L xs O (d + 1 + 1 + 1) q_L_land q_X7_land [.inl a1] M := by
    intro hr
    refine stp_r L xs O hC 2 1 (by omega) (by omega) (w_land_2 L xs O a1 M _ ?_) (b := .inl 0) ?_
    · refine (EX_in mi_X6_land rfl rfl rfl (ls := [some (.inr (.inr (0, 0))), some (.inl (a1)), none]) rfl).trans ?_
      rw [e_X6_land_0, p1]
      by_cases c1 : a1 < 0
      · rw [if_pos c1, e_X6_land_20, e_X6_land_21, x6_needArg_0 L xs O (D := d + 1) (by omega) M, xr_t rfl]
      · rw [if_neg c1, if_pos (hr.resolve_left c1), e_X6_land_20, e_X6_land_21, x6_needArg_0 L xs O (D := d + 1) (by omega) M, xr_t rfl]
    · refine (EX_in mi_X7_land rfl rfl rfl (ls := [some (.inr (.inr (40, 0))), some (.inl (a1)), none, none]) rfl).trans ?_
      have t1 : (mput (refC M 2) 40 0 0 0) 40 0 0 = 0 := mp_s
      have b1 : EX L xs (d + 1 + 1) q_X7_bad [.inr (.inr (40, 0)), .inl (1), .inl (1), .inl (2)] (mput (refC M 2) 40 0 0 0) O = (some (.inl (some (.inl (1))), refM (mput (refC M 2) 40 0 0 0) (nI 1) 2, O, 0, 0) : Res) := x7_bad_1 L xs O (by omega) 1 2 (by omega) (by decide) _ t1
      have e0 : (if a1 < 0 then (0 : Int32) else if nI nt < a1 then 0 else 1) = 0 := by
        by_cases c1 : a1 < 0
        · rw [if_pos c1]
        · rw [if_neg c1, if_pos (hr.resolve_left c1)]
      rw [e_X7_land_0, show (refC M 2) 40 0 1 = nI nt from p2, x7_in L xs O (D := d + 1 + 1) (by omega), e0]
      simp only [xr_v, Nat.reduceAdd, Nat.add_zero]
      rw [e_X7_land_15, if_pos rfl, e_X7_land_23, b1]
      simp only [xr_v, Nat.reduceAdd, Nat.add_zero]
      rw [e_X7_land_28, if_neg (by decide)]
  by_cases c1 : a1 < 0
  · exact ref (Or.inl c1)
  by_cases c2 : nI nt < a1
  · exact ref (Or.inr c2)
  clear ref
  obtain ⟨n0, hn0, rfl⟩ := nI_of c1
  have hn : n0 ≤ nt := by
    rw [hl_lt (by omega) (by omega)] at c2
    omega
  generalize htx : (fun i => (M 41 0 i).toNatClampNeg : Nat → Nat) = tx
  have hb : ∀ i, i < n0 → M 41 0 i = nI (tx i) ∧ tx i < 256 := by
    intro i hi
    obtain ⟨b, hb, e⟩ := (p4 i (by omega)).2
    rw [← htx]
    dsimp only
    rw [e, hl_cl (by omega)]
    exact ⟨rfl, hb⟩
  obtain ⟨U0, hz, M1, q1, y1, post1⟩ := c_land L xs O (D := d + 1 + 1) (by omega) n0 nt hn p3 (tx := tx) M hC.2.2.2.1 p1 (fun i hi => ⟨(p4 i (by omega)).1.trans (hb i hi).1, (hb i hi).2⟩)
  have hin := (rd_in (tx := tx) (N := n0) hz 61).1
  have fc : Fr (sCL (1 - ia)) M M1 := by
    cases e : (rd tx n0 U0 61).2 with
    | inl p =>
      rw [e] at post1
      exact post1.1
    | inr x =>
      rw [e] at post1
      exact Fr_mono (fun g i k h => decide_eq_false (by have := of_decide_eq_false h; omega)) post1.1
  have ec : ∀ g i k, 30 ≤ g → M1 g i k = M g i k := fun g i k hg => fc g i k (decide_eq_false (by omega))
  obtain ⟨M2, q2, f2, z2, y2, post2⟩ := x7_land_in L xs (match (rd tx n0 U0 61).2 with
    | .inl _ => nI (vN (rd tx n0 U0 61).1 3 4)
    | .inr e => nI e.1 - 10).toInt64 (D := d + 1 + 1 + 1) (by omega) n0 nt hn p3 (tx := tx) M1 ((ec 40 0 1 (by omega)).trans p2) (fun i hi => ⟨(ec 41 0 i (by omega)).trans (hb i hi).1, (hb i hi).2⟩) hz
  refine ⟨0, M1, _, 0, 0, w_land_v L xs O (nI n0) _ M M1 q1, by omega, by omega, by omega, .inl _, M2, 0, 0, q2, by omega, by omega, z2, fun _ => rfl, ?_⟩
  clear q1 q2
  have em : ∀ g i k, g < 40 → M2 g i k = M1 g i k := fun g i k hg => f2 g i k (decide_eq_false (by omega))
  generalize rd tx n0 U0 61 = st at *
  obtain ⟨U, ts⟩ := st
  obtain ⟨l1, l2, l3, l4⟩ := hC.2.2.2.1
  obtain ⟨hOK, hCm, hMm⟩ := hC.2.2.2.2.1
  obtain ⟨i1, i2, i3, i4⟩ := hC.2.2.2.2.2.1
  cases ts with
  | inr e =>
    obtain ⟨g1, r1⟩ := post1
    obtain ⟨s2, g2⟩ := post2
    have a : ∀ g i k, ¬ (g = 1 ∧ k ≤ 5) → ¬ (3 ≤ g ∧ g ≤ 17 ∧ i = 1 - ia) → ¬ (g = 40 ∧ k ≤ 7) → ¬ (g = 43 ∨ (45 ≤ g ∧ g ≤ 48) ∨ g = 54 ∨ g = 58 ∨ g = 62) → M2 g i k = M g i k := fun g i k h1 h2 h3 h4 => (g2 g i k (decide_eq_false (by omega))).trans (g1 g i k (decide_eq_false (by omega)))
    have hMm2 : MMd M2 md := MMd_e hMm (a 40 0 29 (by omega) (by omega) (by omega) (by omega)) (a 40 0 30 (by omega) (by omega) (by omega) (by omega)) (fun g k h1 h2 => a g 0 k (by omega) (by omega) (by omega) (by omega))
    refine ⟨T, As, n, nh, ns, nw, na, md, ia, ni, 0, mds, MB_of (MB0_f (MB_0 hC.1) (a 40 0 26 (by omega) (by omega) (by omega) (by omega)) (fun g i k hg => a g i k (by omega) (by omega) (by omega) (by omega))) hOK hMm2, CW_e hC.2.1 (fun g i k hg => a g i k (by omega) (by omega) (by omega) (by omega)), hC.2.2.1, ⟨l1, (a 0 0 1 (by omega) (by omega) (by omega) (by omega)).trans l2, (a 0 0 2 (by omega) (by omega) (by omega) (by omega)).trans l3, fun g k hl => (a g ia k (by have := isLand_le (lk_land hl); omega) (by omega) (by have := isLand_le (lk_land hl); omega) (by have := isLand_le (lk_land hl); omega)).trans (l4 g k hl)⟩, ⟨hOK, CMd_e hCm (fun g k h1 h2 => a g 0 k (by omega) (by omega) (by omega) (by omega)), hMm2⟩, ImgC_e hC.2.2.2.2.2.1 (a 0 0 9 (by omega) (by omega) (by omega) (by omega)) (a 40 0 31 (by omega) (by omega) (by omega) (by omega)) (fun g i k h1 h2 h3 => a g i k (by omega) (by omega) (by omega) (by omega)) (fun i k => a 72 i k (by omega) (by omega) (by omega) (by omega)), ⟨(em 1 0 1 (by omega)).trans y1, y2, by omega, fun i hi => absurd hi (by omega)⟩, ((em 1 0 5 (by omega)).trans r1).trans s2.symm, fun q hq => ?_⟩
    rw [a 34 0 q (by omega) (by omega) (by omega) (by omega), a 42 0 q (by omega) (by omega) (by omega) (by omega)]
    exact hC.2.2.2.2.2.2.2.2 q hq
  | inl p =>
    obtain ⟨g1, r1, lc, cm, c2', cc0, n9⟩ := post1
    obtain ⟨s2, ms2, mt2, b29, b30, b31, b69⟩ := post2
    have a : ∀ g i k, ¬ (g = 1 ∧ k ≤ 5) → ¬ (3 ≤ g ∧ g ≤ 17) → ¬ (g = 0 ∧ (k = 1 ∨ k = 2 ∨ k = 9 ∨ k = 12)) → ¬ ((g = 20 ∨ g = 22) ∧ i = 0) → g ≠ 28 → ¬ (g = 40 ∧ (k ≤ 7 ∨ k = 29 ∨ k = 30 ∨ k = 31)) → ¬ (43 ≤ g ∧ g ≤ 64) → g ≠ 69 → M2 g i k = M g i k := fun g i k h1 h2 h3 h4 h5 h6 h7 h8 => (f2 g i k (decide_eq_false (by omega))).trans (g1 g i k (decide_eq_false (by omega)))
    have hMm2 : MMd M2 md0 := ⟨b29, fun j hj => absurd hj (by show ¬ j < 0; omega), b69, b30, fun j hj => absurd hj (by show ¬ j < 0; omega)⟩
    have hok := md0_ok (vN U 3 13)
    refine ⟨U, As, vN U 3 0, vN U 3 4, vN U 3 8, vN U 3 13, na, md0, 1 - ia, 0, 0, mds, MB_of ⟨hin.1, ms2, mt2, (a 40 0 26 (by omega) (by omega) (by omega) (by omega) (by omega) (by omega) (by omega) (by omega)).trans hC.1.2.2.2.2.1, hC.1.2.2.2.2.2.1, fun x hx j hj => (a 67 x j (by omega) (by omega) (by omega) (by omega) (by omega) (by omega) (by omega) (by omega)).trans (hC.1.2.2.2.2.2.2 x hx j hj)⟩ hok hMm2, ?_, hC.2.2.1, LndC_e lc (fun k hk => em 0 0 k (by omega)) (fun g i k h1 h2 h3 => em g i k (by omega)), ⟨hok, CMd_e cm (fun g k h1 h2 => em g 0 k (by omega)), hMm2⟩, ⟨(em 0 0 9 (by omega)).trans n9, b31, by omega, fun j hj => absurd hj (by omega)⟩, ⟨(em 1 0 1 (by omega)).trans y1, y2, by omega, fun i hi => absurd hi (by omega)⟩, ((em 1 0 5 (by omega)).trans r1).trans s2.symm, fun q hq => ?_⟩
    · refine CW_0 (M := M) hin.1 (fun g k hl => ?_) ⟨fun i hi => ?_, ?_⟩ hC.2.1.2.2.1 hC.2.1.2.2.2.1 hC.2.1.2.2.2.2.1 (a 0 0 6 (by omega) (by omega) (by omega) (by omega) (by omega) (by omega) (by omega) (by omega)) (fun g i k hg => a g i k (by omega) (by omega) (by omega) (by omega) (by omega) (by omega) (by omega) (by omega))
      · rw [em g 2 k (by have := isLand_le (lk_land hl); omega)]
        exact c2' g k hl
      · rw [em 28 0 i (by omega)]
        exact cc0.1 i hi
      · rw [em 0 0 12 (by omega)]
        exact cc0.2
    · rw [a 34 0 q (by omega) (by omega) (by omega) (by omega) (by omega) (by omega) (by omega) (by omega), a 42 0 q (by omega) (by omega) (by omega) (by omega) (by omega) (by omega) (by omega) (by omega)]
      exact hC.2.2.2.2.2.2.2.2 q hq
end
