/-! A LAND is told: both. -/
theorem MB0_f {M M' : Mem} {T : Vw} {As : Nat → Nat → Int32} {n nh ns nw na : Nat} (h : MB0 M T As n nh ns nw na) (e0 : M' 40 0 26 = M 40 0 26) (e : ∀ g i k, (g = 44 ∨ (49 ≤ g ∧ g ≤ 52) ∨ g = 56 ∨ g = 60 ∨ g = 64 ∨ g = 67) → M' g i k = M g i k) : MB0 M' T As n nh ns nw na := by
  obtain ⟨h1, ⟨m0, m1, m2, m3, m4, m5, m6, m7, m8⟩, ⟨t1, t2, t3⟩, h5, h6', h7⟩ := h
  refine ⟨h1, ⟨(e _ _ _ (by omega)).trans m0, (e _ _ _ (by omega)).trans m1, (e _ _ _ (by omega)).trans m2, (e _ _ _ (by omega)).trans m3, fun j hj => (e _ _ _ (by omega)).trans (m4 j hj), fun j hj => (e _ _ _ (by omega)).trans (m5 j hj), fun j hj => (e _ _ _ (by omega)).trans (m6 j hj), fun s hs => ?_, fun w hw => ?_⟩, ⟨fun j hj => ?_, fun k hk => (e _ _ _ (by omega)).trans (t2 k hk), fun s hs => (e _ _ _ (by omega)).trans (t3 s hs)⟩, e0.trans h5, h6', fun a ha j hj => (e _ _ _ (by omega)).trans (h7 a ha j hj)⟩
  · rw [e 60 s 0 (by omega), e 60 s 2 (by omega), e 60 s 3 (by omega)]
    exact m7 s hs
  · rw [e 64 w 0 (by omega), e 64 w 1 (by omega), e 64 w 2 (by omega), e 64 w 3 (by omega)]
    exact m8 w hw
  · rw [e 49 0 j (by omega), e 51 0 j (by omega)]
    exact t1 j hj
section
variable (L : Nat) (xs : Nat → Int32) (O : Int64)
theorem s_land {d : Nat} (hD : 11 ≤ d) (a1 : Int32) (M : Mem) (hI : INV M) : Stq L xs O (d + 1 + 1 + 1) q_L_land q_X7_land [.inl a1] M := by
  obtain ⟨T, As, n, nh, ns, nw, na, md, ia, ni, nt, mds, hC⟩ := hI
  obtain ⟨p1, p2, p3, p4⟩ := hC.2.2.2.2.2.2.1
  by_cases c1 : a1 < 0
  · refine stp_r L xs O hC 2 1 (by omega) (by omega) (w_land_2 L xs O a1 M _ ?_) (b := .inl 0) ?_
    · refine (EX_in mi_X6_land rfl rfl rfl (ls := [some (.inr (.inr (0, 0))), some (.inl (a1)), none]) rfl).trans ?_
      rw [e_X6_land_0, if_pos c1, e_X6_land_20, e_X6_land_21, x6_needArg_0 L xs O (D := d + 1) (by omega) M]
      simp only [xr_t, Nat.reduceAdd, Nat.add_zero]
      sorry
    · sorry
  · sorry
end
