/-! One round of the law for each of its codes. -/
theorem nI_z : nI 0 = (0 : Int32) := rfl
theorem lg_asI (v : Int32) : lg_cmp (asL (.inl v)) v.toInt64 = 0 := lg_same _
theorem lg_asJ (v : Int64) : lg_cmp (asL (.inr (.inl v))) v = 0 := lg_same _
section
variable (L : Nat) (xs : Nat → Int32)
set_option maxHeartbeats 2000000 in
theorem r_feed {P : Res → Prop} {back : BackT} {M : Mem} {O : Int64} {a c s : Nat} {u5 u6 u7 : Option AV} (hL : L ≤ 3072) (ha : a + 6 ≤ L) (hI : INV M)
    (hb : ∀ M O c2 s2 u5 u6 u7, INV M → c2 ≤ c + 2 → s2 ≤ s + 14 → P (back 23 [some (.inr (.inr (91, 0))), some (.inr (.inr (0, 0))), some (.inr (.inr (40, 0))), some (.inr (.inr (83, 0))), some (.inl (nI a + 6)), u5, u6, u7] M O none c2 s2)) :
    P (BK L xs (EX L xs 14) mi_L_law back 2989 40 [some (.inr (.inr (91, 0))), some (.inr (.inr (0, 0))), some (.inr (.inr (40, 0))), some (.inr (.inr (83, 0))), some (.inl (nI a)), u5, u6, u7] [.inl 0] M O none c s) := by
  obtain ⟨g1, n1⟩ := lw_in (show a + 1 < L by omega) hL (nI a + 1) (nI_add a 1)
  obtain ⟨g2, n2⟩ := lw_in (show a + 2 < L by omega) hL (nI a + 2) (nI_add a 2)
  obtain ⟨g3, n3⟩ := lw_in (show a + 3 < L by omega) hL (nI a + 3) (nI_add a 3)
  obtain ⟨g4, n4⟩ := lw_in (show a + 4 < L by omega) hL (nI a + 4) (nI_add a 4)
  obtain ⟨g5, n5⟩ := lw_in (show a + 5 < L by omega) hL (nI a + 5) (nI_add a 5)
  obtain ⟨v, M1, q1, M2, q2, hI2⟩ := s_feed L xs O (d := 12) (by omega) (xs (a + 1)) (xs (a + 2)) (xs (a + 3)) (xs (a + 4)) (xs (a + 5)) M hI
  have q1 : EX L xs 14 q_X6_feed [.inr (.inr (0, 0)), .inl (xs (a + 1)), .inl (xs (a + 2)), .inl (xs (a + 3)), .inl (xs (a + 4)), .inl (xs (a + 5))] M O = some (.inl (some (.inl v)), M1, O, 0, 0) := q1
  have q2 : EX L xs 14 q_X7_feed [.inr (.inr (40, 0)), .inl (xs (a + 1)), .inl (xs (a + 2)), .inl (xs (a + 3)), .inl (xs (a + 4)), .inl (xs (a + 5))] M1 O = some (.inl (some (.inl v)), M2, O, 0, 0) := q2
  simp only [e_L_law_40_c0, e_L_law_200, if_pos g1, n1, if_pos g2, n2, if_pos g3, n3, if_pos g4, n4, if_pos g5, n5, q1, xr_v, Nat.reduceAdd, e_L_law_234, q2, e_L_law_268, if_true, e_L_law_2586]
  exact hb _ _ _ _ _ _ _ hI2 (by omega) (by omega)
set_option maxHeartbeats 2000000 in
theorem r_land {P : Res → Prop} {back : BackT} {M : Mem} {O : Int64} {a c s : Nat} {u5 u6 u7 : Option AV} (hL : L ≤ 3072) (ha : a + 6 ≤ L) (hI : INV M)
    (hb : ∀ M O c2 s2 u5 u6 u7, INV M → c2 ≤ c + 2 → s2 ≤ s + 14 → P (back 23 [some (.inr (.inr (91, 0))), some (.inr (.inr (0, 0))), some (.inr (.inr (40, 0))), some (.inr (.inr (83, 0))), some (.inl (nI a + 6)), u5, u6, u7] M O none c2 s2)) :
    P (BK L xs (EX L xs 14) mi_L_law back 2989 40 [some (.inr (.inr (91, 0))), some (.inr (.inr (0, 0))), some (.inr (.inr (40, 0))), some (.inr (.inr (83, 0))), some (.inl (nI a)), u5, u6, u7] [.inl 1] M O none c s) := by
  obtain ⟨g1, n1⟩ := lw_in (show a + 1 < L by omega) hL (nI a + 1) (nI_add a 1)
  obtain ⟨kk, M1, O1, c1, s1, q1, hk, hc1, hs1, b, M2, c2, s2, q2, hc2, hs2, e0, eO, hI2⟩ := s_land L xs O (d := 11) (by omega) (xs (a + 1)) M hI
  have q1 : EX L xs 14 q_L_land [.inr (.inr (0, 0)), .inl (xs (a + 1)), .inr (.inr (83, 0))] M O = some (.inl (some (.inl (nI kk))), M1, O1, c1, s1) := q1
  have q2 : EX L xs 14 q_X7_land [.inr (.inr (40, 0)), .inl (xs (a + 1))] M1 O1 = some (.inl (some b), M2, O1, c2, s2) := q2
  obtain ⟨v, rfl⟩ := ((EX_rt mi_X7_land rfl rfl rfl q2) b rfl).1 rfl
  have q3 := x7_thrown L xs O1 (D := 14) (by omega) M2
  rw [e0] at q3
  simp only [e_L_law_40_c1, e_L_law_273, if_pos g1, n1, q1, xr_v, Nat.reduceAdd, e_L_law_284, q2, e_L_law_296, q3, e_L_law_302, if_true]
  by_cases hz : kk = 0
  · subst hz
    have eO := eO rfl
    subst eO
    rw [if_pos nI_z, if_pos (lg_asI v), e_L_law_326, e_L_law_2586]
    exact hb _ _ _ _ _ _ _ hI2 (by omega) (by omega)
  · rw [if_neg (fun e => hz ((zeq_0 (by omega)).mp e)), e_L_law_326, e_L_law_2586]
    exact hb _ _ _ _ _ _ _ hI2 (by omega) (by omega)
set_option maxHeartbeats 2000000 in
theorem r_air {P : Res → Prop} {back : BackT} {M : Mem} {O : Int64} {a c s : Nat} {u5 u6 u7 : Option AV} (hL : L ≤ 3072) (ha : a + 6 ≤ L) (hI : INV M)
    (hb : ∀ M O c2 s2 u5 u6 u7, INV M → c2 ≤ c + 2 → s2 ≤ s + 14 → P (back 23 [some (.inr (.inr (91, 0))), some (.inr (.inr (0, 0))), some (.inr (.inr (40, 0))), some (.inr (.inr (83, 0))), some (.inl (nI a + 6)), u5, u6, u7] M O none c2 s2)) :
    P (BK L xs (EX L xs 14) mi_L_law back 2989 40 [some (.inr (.inr (91, 0))), some (.inr (.inr (0, 0))), some (.inr (.inr (40, 0))), some (.inr (.inr (83, 0))), some (.inl (nI a)), u5, u6, u7] [.inl 2] M O none c s) := by
  obtain ⟨g1, n1⟩ := lw_in (show a + 1 < L by omega) hL (nI a + 1) (nI_add a 1)
  obtain ⟨kk, M1, O1, c1, s1, q1, hk, hc1, hs1, b, M2, c2, s2, q2, hc2, hs2, e0, eO, hI2⟩ := s_air L xs O (d := 11) (by omega) (xs (a + 1)) M hI
  have q1 : EX L xs 14 q_L_air [.inr (.inr (0, 0)), .inl (xs (a + 1)), .inr (.inr (83, 0))] M O = some (.inl (some (.inl (nI kk))), M1, O1, c1, s1) := q1
  have q2 : EX L xs 14 q_X7_air [.inr (.inr (40, 0)), .inl (xs (a + 1))] M1 O1 = some (.inl (some b), M2, O1, c2, s2) := q2
  obtain ⟨v, rfl⟩ := ((EX_rt mi_X7_air rfl rfl rfl q2) b rfl).1 rfl
  have q3 := x7_thrown L xs O1 (D := 14) (by omega) M2
  rw [e0] at q3
  simp only [e_L_law_40_c2, e_L_law_329, if_pos g1, n1, q1, xr_v, Nat.reduceAdd, e_L_law_340, q2, e_L_law_352, q3, e_L_law_358, if_true]
  by_cases hz : kk = 0
  · subst hz
    have eO := eO rfl
    subst eO
    rw [if_pos nI_z, if_pos (lg_asI v), e_L_law_382, e_L_law_2586]
    exact hb _ _ _ _ _ _ _ hI2 (by omega) (by omega)
  · rw [if_neg (fun e => hz ((zeq_0 (by omega)).mp e)), e_L_law_382, e_L_law_2586]
    exact hb _ _ _ _ _ _ _ hI2 (by omega) (by omega)
set_option maxHeartbeats 2000000 in
theorem r_fault {P : Res → Prop} {back : BackT} {M : Mem} {O : Int64} {a c s : Nat} {u5 u6 u7 : Option AV} (hL : L ≤ 3072) (ha : a + 6 ≤ L) (hI : INV M)
    (hb : ∀ M O c2 s2 u5 u6 u7, INV M → c2 ≤ c + 2 → s2 ≤ s + 14 → P (back 23 [some (.inr (.inr (91, 0))), some (.inr (.inr (0, 0))), some (.inr (.inr (40, 0))), some (.inr (.inr (83, 0))), some (.inl (nI a + 6)), u5, u6, u7] M O none c2 s2)) :
    P (BK L xs (EX L xs 14) mi_L_law back 2989 40 [some (.inr (.inr (91, 0))), some (.inr (.inr (0, 0))), some (.inr (.inr (40, 0))), some (.inr (.inr (83, 0))), some (.inl (nI a)), u5, u6, u7] [.inl 3] M O none c s) := by
  obtain ⟨v, M1, q1, M2, q2, hI2⟩ := s_fault L xs O (d := 12)  M hI
  have q1 : EX L xs 14 q_X6_fault [.inr (.inr (0, 0))] M O = some (.inl (some (.inl v)), M1, O, 0, 0) := q1
  have q2 : EX L xs 14 q_X7_fault [.inr (.inr (40, 0))] M1 O = some (.inl (some (.inl v)), M2, O, 0, 0) := q2
  simp only [e_L_law_40_c3, e_L_law_385, q1, xr_v, Nat.reduceAdd, e_L_law_389, q2, e_L_law_393, if_true, e_L_law_2586]
  exact hb _ _ _ _ _ _ _ hI2 (by omega) (by omega)
set_option maxHeartbeats 2000000 in
theorem r_told {P : Res → Prop} {back : BackT} {M : Mem} {O : Int64} {a c s : Nat} {u5 u6 u7 : Option AV} (hL : L ≤ 3072) (ha : a + 6 ≤ L) (hI : INV M)
    (hb : ∀ M O c2 s2 u5 u6 u7, INV M → c2 ≤ c + 2 → s2 ≤ s + 14 → P (back 23 [some (.inr (.inr (91, 0))), some (.inr (.inr (0, 0))), some (.inr (.inr (40, 0))), some (.inr (.inr (83, 0))), some (.inl (nI a + 6)), u5, u6, u7] M O none c2 s2)) :
    P (BK L xs (EX L xs 14) mi_L_law back 2989 40 [some (.inr (.inr (91, 0))), some (.inr (.inr (0, 0))), some (.inr (.inr (40, 0))), some (.inr (.inr (83, 0))), some (.inl (nI a)), u5, u6, u7] [.inl 4] M O none c s) := by
  obtain ⟨g1, n1⟩ := lw_in (show a + 1 < L by omega) hL (nI a + 1) (nI_add a 1)
  obtain ⟨kk, M1, O1, c1, s1, q1, hk, hc1, hs1, b, M2, c2, s2, q2, hc2, hs2, e0, eO, hI2⟩ := s_told L xs O (d := 11) (by omega) (xs (a + 1)) M hI
  have q1 : EX L xs 14 q_L_told [.inr (.inr (0, 0)), .inl (xs (a + 1)), .inr (.inr (83, 0))] M O = some (.inl (some (.inl (nI kk))), M1, O1, c1, s1) := q1
  have q2 : EX L xs 14 q_X7_told [.inr (.inr (40, 0)), .inl (xs (a + 1))] M1 O1 = some (.inl (some b), M2, O1, c2, s2) := q2
  obtain ⟨v, rfl⟩ := ((EX_rt mi_X7_told rfl rfl rfl q2) b rfl).1 rfl
  have q3 := x7_thrown L xs O1 (D := 14) (by omega) M2
  rw [e0] at q3
  simp only [e_L_law_40_c4, e_L_law_398, if_pos g1, n1, q1, xr_v, Nat.reduceAdd, e_L_law_409, q2, e_L_law_421, q3, e_L_law_427, if_true]
  by_cases hz : kk = 0
  · subst hz
    have eO := eO rfl
    subst eO
    rw [if_pos nI_z, if_pos (lg_asI v), e_L_law_451, e_L_law_2586]
    exact hb _ _ _ _ _ _ _ hI2 (by omega) (by omega)
  · rw [if_neg (fun e => hz ((zeq_0 (by omega)).mp e)), e_L_law_451, e_L_law_2586]
    exact hb _ _ _ _ _ _ _ hI2 (by omega) (by omega)
set_option maxHeartbeats 2000000 in
theorem r_cell {P : Res → Prop} {back : BackT} {M : Mem} {O : Int64} {a c s : Nat} {u5 u6 u7 : Option AV} (hL : L ≤ 3072) (ha : a + 6 ≤ L) (hI : INV M)
    (hb : ∀ M O c2 s2 u5 u6 u7, INV M → c2 ≤ c + 2 → s2 ≤ s + 14 → P (back 23 [some (.inr (.inr (91, 0))), some (.inr (.inr (0, 0))), some (.inr (.inr (40, 0))), some (.inr (.inr (83, 0))), some (.inl (nI a + 6)), u5, u6, u7] M O none c2 s2)) :
    P (BK L xs (EX L xs 14) mi_L_law back 2989 40 [some (.inr (.inr (91, 0))), some (.inr (.inr (0, 0))), some (.inr (.inr (40, 0))), some (.inr (.inr (83, 0))), some (.inl (nI a)), u5, u6, u7] [.inl 5] M O none c s) := by
  obtain ⟨g1, n1⟩ := lw_in (show a + 1 < L by omega) hL (nI a + 1) (nI_add a 1)
  obtain ⟨g2, n2⟩ := lw_in (show a + 2 < L by omega) hL (nI a + 2) (nI_add a 2)
  obtain ⟨kk, M1, O1, c1, s1, q1, hk, hc1, hs1, b, M2, c2, s2, q2, hc2, hs2, e0, eO, hI2⟩ := s_cell L xs O (d := 11) (by omega) (xs (a + 1)) (xs (a + 2)) M hI
  have q1 : EX L xs 14 q_L_cell [.inr (.inr (0, 0)), .inl (xs (a + 1)), .inl (xs (a + 2)), .inr (.inr (83, 0))] M O = some (.inl (some (.inl (nI kk))), M1, O1, c1, s1) := q1
  have q2 : EX L xs 14 q_X7_cell [.inr (.inr (40, 0)), .inl (xs (a + 1)), .inl (xs (a + 2))] M1 O1 = some (.inl (some b), M2, O1, c2, s2) := q2
  obtain ⟨v, rfl⟩ := ((EX_rt mi_X7_cell rfl rfl rfl q2) b rfl).1 rfl
  have q3 := x7_thrown L xs O1 (D := 14) (by omega) M2
  rw [e0] at q3
  simp only [e_L_law_40_c5, e_L_law_454, if_pos g1, n1, if_pos g2, n2, q1, xr_v, Nat.reduceAdd, e_L_law_471, q2, e_L_law_489, q3, e_L_law_495, if_true]
  by_cases hz : kk = 0
  · subst hz
    have eO := eO rfl
    subst eO
    rw [if_pos nI_z, if_pos (lg_asI v), e_L_law_519, e_L_law_2586]
    exact hb _ _ _ _ _ _ _ hI2 (by omega) (by omega)
  · rw [if_neg (fun e => hz ((zeq_0 (by omega)).mp e)), e_L_law_519, e_L_law_2586]
    exact hb _ _ _ _ _ _ _ hI2 (by omega) (by omega)
set_option maxHeartbeats 2000000 in
theorem r_hum {P : Res → Prop} {back : BackT} {M : Mem} {O : Int64} {a c s : Nat} {u5 u6 u7 : Option AV} (hL : L ≤ 3072) (ha : a + 6 ≤ L) (hI : INV M)
    (hb : ∀ M O c2 s2 u5 u6 u7, INV M → c2 ≤ c + 2 → s2 ≤ s + 14 → P (back 23 [some (.inr (.inr (91, 0))), some (.inr (.inr (0, 0))), some (.inr (.inr (40, 0))), some (.inr (.inr (83, 0))), some (.inl (nI a + 6)), u5, u6, u7] M O none c2 s2)) :
    P (BK L xs (EX L xs 14) mi_L_law back 2989 40 [some (.inr (.inr (91, 0))), some (.inr (.inr (0, 0))), some (.inr (.inr (40, 0))), some (.inr (.inr (83, 0))), some (.inl (nI a)), u5, u6, u7] [.inl 6] M O none c s) := by
  obtain ⟨g1, n1⟩ := lw_in (show a + 1 < L by omega) hL (nI a + 1) (nI_add a 1)
  obtain ⟨kk, M1, O1, c1, s1, q1, hk, hc1, hs1, b, M2, c2, s2, q2, hc2, hs2, e0, eO, hI2⟩ := s_hum L xs O (d := 11) (by omega) (xs (a + 1)) M hI
  have q1 : EX L xs 14 q_L_hum [.inr (.inr (0, 0)), .inl (xs (a + 1)), .inr (.inr (83, 0))] M O = some (.inl (some (.inl (nI kk))), M1, O1, c1, s1) := q1
  have q2 : EX L xs 14 q_X7_hum [.inr (.inr (40, 0)), .inl (xs (a + 1))] M1 O1 = some (.inl (some b), M2, O1, c2, s2) := q2
  obtain ⟨v, rfl⟩ := ((EX_rt mi_X7_hum rfl rfl rfl q2) b rfl).1 rfl
  have q3 := x7_thrown L xs O1 (D := 14) (by omega) M2
  rw [e0] at q3
  simp only [e_L_law_40_c6, e_L_law_522, if_pos g1, n1, q1, xr_v, Nat.reduceAdd, e_L_law_533, q2, e_L_law_545, q3, e_L_law_551, if_true]
  by_cases hz : kk = 0
  · subst hz
    have eO := eO rfl
    subst eO
    rw [if_pos nI_z, if_pos (lg_asI v), e_L_law_575, e_L_law_2586]
    exact hb _ _ _ _ _ _ _ hI2 (by omega) (by omega)
  · rw [if_neg (fun e => hz ((zeq_0 (by omega)).mp e)), e_L_law_575, e_L_law_2586]
    exact hb _ _ _ _ _ _ _ hI2 (by omega) (by omega)
set_option maxHeartbeats 2000000 in
theorem r_ear {P : Res → Prop} {back : BackT} {M : Mem} {O : Int64} {a c s : Nat} {u5 u6 u7 : Option AV} (hL : L ≤ 3072) (ha : a + 6 ≤ L) (hI : INV M)
    (hb : ∀ M O c2 s2 u5 u6 u7, INV M → c2 ≤ c + 2 → s2 ≤ s + 14 → P (back 23 [some (.inr (.inr (91, 0))), some (.inr (.inr (0, 0))), some (.inr (.inr (40, 0))), some (.inr (.inr (83, 0))), some (.inl (nI a + 6)), u5, u6, u7] M O none c2 s2)) :
    P (BK L xs (EX L xs 14) mi_L_law back 2989 40 [some (.inr (.inr (91, 0))), some (.inr (.inr (0, 0))), some (.inr (.inr (40, 0))), some (.inr (.inr (83, 0))), some (.inl (nI a)), u5, u6, u7] [.inl 7] M O none c s) := by
  obtain ⟨g1, n1⟩ := lw_in (show a + 1 < L by omega) hL (nI a + 1) (nI_add a 1)
  obtain ⟨kk, M1, O1, c1, s1, q1, hk, hc1, hs1, b, M2, c2, s2, q2, hc2, hs2, e0, eO, hI2⟩ := s_ear L xs O (d := 11) (by omega) (xs (a + 1)) M hI
  have q1 : EX L xs 14 q_L_ear [.inr (.inr (0, 0)), .inl (xs (a + 1)), .inr (.inr (83, 0))] M O = some (.inl (some (.inl (nI kk))), M1, O1, c1, s1) := q1
  have q2 : EX L xs 14 q_X7_ear [.inr (.inr (40, 0)), .inl (xs (a + 1))] M1 O1 = some (.inl (some b), M2, O1, c2, s2) := q2
  obtain ⟨v, rfl⟩ := ((EX_rt mi_X7_ear rfl rfl rfl q2) b rfl).1 rfl
  have q3 := x7_thrown L xs O1 (D := 14) (by omega) M2
  rw [e0] at q3
  simp only [e_L_law_40_c7, e_L_law_578, if_pos g1, n1, q1, xr_v, Nat.reduceAdd, e_L_law_589, q2, e_L_law_601, q3, e_L_law_607, if_true]
  by_cases hz : kk = 0
  · subst hz
    have eO := eO rfl
    subst eO
    rw [if_pos nI_z, if_pos (lg_asI v), e_L_law_631, e_L_law_2586]
    exact hb _ _ _ _ _ _ _ hI2 (by omega) (by omega)
  · rw [if_neg (fun e => hz ((zeq_0 (by omega)).mp e)), e_L_law_631, e_L_law_2586]
    exact hb _ _ _ _ _ _ _ hI2 (by omega) (by omega)
set_option maxHeartbeats 2000000 in
theorem r_does {P : Res → Prop} {back : BackT} {M : Mem} {O : Int64} {a c s : Nat} {u5 u6 u7 : Option AV} (hL : L ≤ 3072) (ha : a + 6 ≤ L) (hI : INV M)
    (hb : ∀ M O c2 s2 u5 u6 u7, INV M → c2 ≤ c + 2 → s2 ≤ s + 14 → P (back 23 [some (.inr (.inr (91, 0))), some (.inr (.inr (0, 0))), some (.inr (.inr (40, 0))), some (.inr (.inr (83, 0))), some (.inl (nI a + 6)), u5, u6, u7] M O none c2 s2)) :
    P (BK L xs (EX L xs 14) mi_L_law back 2989 40 [some (.inr (.inr (91, 0))), some (.inr (.inr (0, 0))), some (.inr (.inr (40, 0))), some (.inr (.inr (83, 0))), some (.inl (nI a)), u5, u6, u7] [.inl 8] M O none c s) := by
  obtain ⟨g1, n1⟩ := lw_in (show a + 1 < L by omega) hL (nI a + 1) (nI_add a 1)
  obtain ⟨kk, M1, O1, c1, s1, q1, hk, hc1, hs1, b, M2, c2, s2, q2, hc2, hs2, e0, eO, hI2⟩ := s_does L xs O (d := 11) (by omega) (xs (a + 1)) M hI
  have q1 : EX L xs 14 q_L_does [.inr (.inr (0, 0)), .inl (xs (a + 1)), .inr (.inr (83, 0))] M O = some (.inl (some (.inl (nI kk))), M1, O1, c1, s1) := q1
  have q2 : EX L xs 14 q_X7_does [.inr (.inr (40, 0)), .inl (xs (a + 1))] M1 O1 = some (.inl (some b), M2, O1, c2, s2) := q2
  obtain ⟨v, rfl⟩ := ((EX_rt mi_X7_does rfl rfl rfl q2) b rfl).1 rfl
  have q3 := x7_thrown L xs O1 (D := 14) (by omega) M2
  rw [e0] at q3
  simp only [e_L_law_40_c8, e_L_law_634, if_pos g1, n1, q1, xr_v, Nat.reduceAdd, e_L_law_645, q2, e_L_law_657, q3, e_L_law_663, if_true]
  by_cases hz : kk = 0
  · subst hz
    have eO := eO rfl
    subst eO
    rw [if_pos nI_z, if_pos (lg_asI v), e_L_law_687, e_L_law_2586]
    exact hb _ _ _ _ _ _ _ hI2 (by omega) (by omega)
  · rw [if_neg (fun e => hz ((zeq_0 (by omega)).mp e)), e_L_law_687, e_L_law_2586]
    exact hb _ _ _ _ _ _ _ hI2 (by omega) (by omega)
set_option maxHeartbeats 2000000 in
theorem r_ray {P : Res → Prop} {back : BackT} {M : Mem} {O : Int64} {a c s : Nat} {u5 u6 u7 : Option AV} (hL : L ≤ 3072) (ha : a + 6 ≤ L) (hI : INV M)
    (hb : ∀ M O c2 s2 u5 u6 u7, INV M → c2 ≤ c + 2 → s2 ≤ s + 14 → P (back 23 [some (.inr (.inr (91, 0))), some (.inr (.inr (0, 0))), some (.inr (.inr (40, 0))), some (.inr (.inr (83, 0))), some (.inl (nI a + 6)), u5, u6, u7] M O none c2 s2)) :
    P (BK L xs (EX L xs 14) mi_L_law back 2989 40 [some (.inr (.inr (91, 0))), some (.inr (.inr (0, 0))), some (.inr (.inr (40, 0))), some (.inr (.inr (83, 0))), some (.inl (nI a)), u5, u6, u7] [.inl 9] M O none c s) := by
  obtain ⟨g1, n1⟩ := lw_in (show a + 1 < L by omega) hL (nI a + 1) (nI_add a 1)
  obtain ⟨g2, n2⟩ := lw_in (show a + 2 < L by omega) hL (nI a + 2) (nI_add a 2)
  obtain ⟨g3, n3⟩ := lw_in (show a + 3 < L by omega) hL (nI a + 3) (nI_add a 3)
  obtain ⟨g4, n4⟩ := lw_in (show a + 4 < L by omega) hL (nI a + 4) (nI_add a 4)
  obtain ⟨g5, n5⟩ := lw_in (show a + 5 < L by omega) hL (nI a + 5) (nI_add a 5)
  obtain ⟨kk, M1, O1, c1, s1, q1, hk, hc1, hs1, b, M2, c2, s2, q2, hc2, hs2, e0, eO, hI2⟩ := s_ray L xs O (d := 11) (by omega) (xs (a + 1)) (xs (a + 2)) (xs (a + 3)) (xs (a + 4)) (xs (a + 5)) M hI
  have q1 : EX L xs 14 q_L_ray [.inr (.inr (0, 0)), .inl (xs (a + 1)), .inl (xs (a + 2)), .inl (xs (a + 3)), .inl (xs (a + 4)), .inl (xs (a + 5)), .inr (.inr (83, 0))] M O = some (.inl (some (.inl (nI kk))), M1, O1, c1, s1) := q1
  have q2 : EX L xs 14 q_X7_ray [.inr (.inr (40, 0)), .inl (xs (a + 1)), .inl (xs (a + 2)), .inl (xs (a + 3)), .inl (xs (a + 4)), .inl (xs (a + 5))] M1 O1 = some (.inl (some b), M2, O1, c2, s2) := q2
  obtain ⟨v, rfl⟩ := ((EX_rt mi_X7_ray rfl rfl rfl q2) b rfl).1 rfl
  have q3 := x7_thrown L xs O1 (D := 14) (by omega) M2
  rw [e0] at q3
  simp only [e_L_law_40_c9, e_L_law_690, if_pos g1, n1, if_pos g2, n2, if_pos g3, n3, if_pos g4, n4, if_pos g5, n5, q1, xr_v, Nat.reduceAdd, e_L_law_725, q2, e_L_law_761, q3, e_L_law_767, if_true]
  by_cases hz : kk = 0
  · subst hz
    have eO := eO rfl
    subst eO
    rw [if_pos nI_z, if_pos (lg_asI v), e_L_law_791, e_L_law_2586]
    exact hb _ _ _ _ _ _ _ hI2 (by omega) (by omega)
  · rw [if_neg (fun e => hz ((zeq_0 (by omega)).mp e)), e_L_law_791, e_L_law_2586]
    exact hb _ _ _ _ _ _ _ hI2 (by omega) (by omega)
set_option maxHeartbeats 2000000 in
theorem r_left {P : Res → Prop} {back : BackT} {M : Mem} {O : Int64} {a c s : Nat} {u5 u6 u7 : Option AV} (hL : L ≤ 3072) (ha : a + 6 ≤ L) (hI : INV M)
    (hb : ∀ M O c2 s2 u5 u6 u7, INV M → c2 ≤ c + 2 → s2 ≤ s + 14 → P (back 23 [some (.inr (.inr (91, 0))), some (.inr (.inr (0, 0))), some (.inr (.inr (40, 0))), some (.inr (.inr (83, 0))), some (.inl (nI a + 6)), u5, u6, u7] M O none c2 s2)) :
    P (BK L xs (EX L xs 14) mi_L_law back 2989 40 [some (.inr (.inr (91, 0))), some (.inr (.inr (0, 0))), some (.inr (.inr (40, 0))), some (.inr (.inr (83, 0))), some (.inl (nI a)), u5, u6, u7] [.inl 10] M O none c s) := by
  obtain ⟨g1, n1⟩ := lw_in (show a + 1 < L by omega) hL (nI a + 1) (nI_add a 1)
  obtain ⟨g2, n2⟩ := lw_in (show a + 2 < L by omega) hL (nI a + 2) (nI_add a 2)
  obtain ⟨g3, n3⟩ := lw_in (show a + 3 < L by omega) hL (nI a + 3) (nI_add a 3)
  obtain ⟨g4, n4⟩ := lw_in (show a + 4 < L by omega) hL (nI a + 4) (nI_add a 4)
  obtain ⟨g5, n5⟩ := lw_in (show a + 5 < L by omega) hL (nI a + 5) (nI_add a 5)
  obtain ⟨kk, M1, O1, c1, s1, q1, hk, hc1, hs1, b, M2, c2, s2, q2, hc2, hs2, e0, eO, hI2⟩ := s_left L xs O (d := 11) (by omega) (xs (a + 1)) (xs (a + 2)) (xs (a + 3)) (xs (a + 4)) (xs (a + 5)) M hI
  have q1 : EX L xs 14 q_L_left [.inr (.inr (0, 0)), .inl (xs (a + 1)), .inl (xs (a + 2)), .inl (xs (a + 3)), .inl (xs (a + 4)), .inl (xs (a + 5)), .inr (.inr (83, 0))] M O = some (.inl (some (.inl (nI kk))), M1, O1, c1, s1) := q1
  have q2 : EX L xs 14 q_X7_left [.inr (.inr (40, 0)), .inl (xs (a + 1)), .inl (xs (a + 2)), .inl (xs (a + 3)), .inl (xs (a + 4)), .inl (xs (a + 5))] M1 O1 = some (.inl (some b), M2, O1, c2, s2) := q2
  obtain ⟨v, rfl⟩ := ((EX_rt mi_X7_left rfl rfl rfl q2) b rfl).1 rfl
  have q3 := x7_thrown L xs O1 (D := 14) (by omega) M2
  rw [e0] at q3
  simp only [e_L_law_40_c10, e_L_law_794, if_pos g1, n1, if_pos g2, n2, if_pos g3, n3, if_pos g4, n4, if_pos g5, n5, q1, xr_v, Nat.reduceAdd, e_L_law_829, q2, e_L_law_865, q3, e_L_law_871, if_true]
  by_cases hz : kk = 0
  · subst hz
    have eO := eO rfl
    subst eO
    rw [if_pos nI_z, if_pos (lg_asI v), e_L_law_895, e_L_law_2586]
    exact hb _ _ _ _ _ _ _ hI2 (by omega) (by omega)
  · rw [if_neg (fun e => hz ((zeq_0 (by omega)).mp e)), e_L_law_895, e_L_law_2586]
    exact hb _ _ _ _ _ _ _ hI2 (by omega) (by omega)
set_option maxHeartbeats 2000000 in
theorem r_loud {P : Res → Prop} {back : BackT} {M : Mem} {O : Int64} {a c s : Nat} {u5 u6 u7 : Option AV} (hL : L ≤ 3072) (ha : a + 6 ≤ L) (hI : INV M)
    (hb : ∀ M O c2 s2 u5 u6 u7, INV M → c2 ≤ c + 2 → s2 ≤ s + 14 → P (back 23 [some (.inr (.inr (91, 0))), some (.inr (.inr (0, 0))), some (.inr (.inr (40, 0))), some (.inr (.inr (83, 0))), some (.inl (nI a + 6)), u5, u6, u7] M O none c2 s2)) :
    P (BK L xs (EX L xs 14) mi_L_law back 2989 40 [some (.inr (.inr (91, 0))), some (.inr (.inr (0, 0))), some (.inr (.inr (40, 0))), some (.inr (.inr (83, 0))), some (.inl (nI a)), u5, u6, u7] [.inl 11] M O none c s) := by
  obtain ⟨g1, n1⟩ := lw_in (show a + 1 < L by omega) hL (nI a + 1) (nI_add a 1)
  obtain ⟨g2, n2⟩ := lw_in (show a + 2 < L by omega) hL (nI a + 2) (nI_add a 2)
  obtain ⟨g3, n3⟩ := lw_in (show a + 3 < L by omega) hL (nI a + 3) (nI_add a 3)
  obtain ⟨kk, M1, O1, c1, s1, q1, hk, hc1, hs1, b, M2, c2, s2, q2, hc2, hs2, e0, eO, hI2⟩ := s_loud L xs O (d := 11) (by omega) (xs (a + 1)) (xs (a + 2)) (xs (a + 3)) M hI
  have q1 : EX L xs 14 q_L_loud [.inr (.inr (0, 0)), .inl (xs (a + 1)), .inl (xs (a + 2)), .inl (xs (a + 3)), .inr (.inr (83, 0))] M O = some (.inl (some (.inl (nI kk))), M1, O1, c1, s1) := q1
  have q2 : EX L xs 14 q_X7_loud [.inr (.inr (40, 0)), .inl (xs (a + 1)), .inl (xs (a + 2)), .inl (xs (a + 3))] M1 O1 = some (.inl (some b), M2, O1, c2, s2) := q2
  obtain ⟨v, rfl⟩ := ((EX_rt mi_X7_loud rfl rfl rfl q2) b rfl).1 rfl
  have q3 := x7_thrown L xs O1 (D := 14) (by omega) M2
  rw [e0] at q3
  simp only [e_L_law_40_c11, e_L_law_898, if_pos g1, n1, if_pos g2, n2, if_pos g3, n3, q1, xr_v, Nat.reduceAdd, e_L_law_921, q2, e_L_law_945, q3, e_L_law_951, if_true]
  by_cases hz : kk = 0
  · subst hz
    have eO := eO rfl
    subst eO
    rw [if_pos nI_z, if_pos (lg_asI v), e_L_law_975, e_L_law_2586]
    exact hb _ _ _ _ _ _ _ hI2 (by omega) (by omega)
  · rw [if_neg (fun e => hz ((zeq_0 (by omega)).mp e)), e_L_law_975, e_L_law_2586]
    exact hb _ _ _ _ _ _ _ hI2 (by omega) (by omega)
set_option maxHeartbeats 2000000 in
theorem r_at {P : Res → Prop} {back : BackT} {M : Mem} {O : Int64} {a c s : Nat} {u5 u6 u7 : Option AV} (hL : L ≤ 3072) (ha : a + 6 ≤ L) (hI : INV M)
    (hb : ∀ M O c2 s2 u5 u6 u7, INV M → c2 ≤ c + 2 → s2 ≤ s + 14 → P (back 23 [some (.inr (.inr (91, 0))), some (.inr (.inr (0, 0))), some (.inr (.inr (40, 0))), some (.inr (.inr (83, 0))), some (.inl (nI a + 6)), u5, u6, u7] M O none c2 s2)) :
    P (BK L xs (EX L xs 14) mi_L_law back 2989 40 [some (.inr (.inr (91, 0))), some (.inr (.inr (0, 0))), some (.inr (.inr (40, 0))), some (.inr (.inr (83, 0))), some (.inl (nI a)), u5, u6, u7] [.inl 12] M O none c s) := by
  obtain ⟨g1, n1⟩ := lw_in (show a + 1 < L by omega) hL (nI a + 1) (nI_add a 1)
  obtain ⟨g2, n2⟩ := lw_in (show a + 2 < L by omega) hL (nI a + 2) (nI_add a 2)
  obtain ⟨g3, n3⟩ := lw_in (show a + 3 < L by omega) hL (nI a + 3) (nI_add a 3)
  obtain ⟨kk, M1, O1, c1, s1, q1, hk, hc1, hs1, b, M2, c2, s2, q2, hc2, hs2, e0, eO, hI2⟩ := s_at L xs O (d := 11) (by omega) (xs (a + 1)) (xs (a + 2)) (xs (a + 3)) M hI
  have q1 : EX L xs 14 q_L_at [.inr (.inr (0, 0)), .inl (xs (a + 1)), .inl (xs (a + 2)), .inl (xs (a + 3)), .inr (.inr (83, 0))] M O = some (.inl (some (.inl (nI kk))), M1, O1, c1, s1) := q1
  have q2 : EX L xs 14 q_X7_at [.inr (.inr (40, 0)), .inl (xs (a + 1)), .inl (xs (a + 2)), .inl (xs (a + 3))] M1 O1 = some (.inl (some b), M2, O1, c2, s2) := q2
  obtain ⟨v, rfl⟩ := ((EX_rt mi_X7_at rfl rfl rfl q2) b rfl).1 rfl
  have q3 := x7_thrown L xs O1 (D := 14) (by omega) M2
  rw [e0] at q3
  simp only [e_L_law_40_c12, e_L_law_978, if_pos g1, n1, if_pos g2, n2, if_pos g3, n3, q1, xr_v, Nat.reduceAdd, e_L_law_1001, q2, e_L_law_1025, q3, e_L_law_1031, if_true]
  by_cases hz : kk = 0
  · subst hz
    have eO := eO rfl
    subst eO
    rw [if_pos nI_z, if_pos (lg_asI v), e_L_law_1055, e_L_law_2586]
    exact hb _ _ _ _ _ _ _ hI2 (by omega) (by omega)
  · rw [if_neg (fun e => hz ((zeq_0 (by omega)).mp e)), e_L_law_1055, e_L_law_2586]
    exact hb _ _ _ _ _ _ _ hI2 (by omega) (by omega)
set_option maxHeartbeats 2000000 in
theorem r_hears {P : Res → Prop} {back : BackT} {M : Mem} {O : Int64} {a c s : Nat} {u5 u6 u7 : Option AV} (hL : L ≤ 3072) (ha : a + 6 ≤ L) (hI : INV M)
    (hb : ∀ M O c2 s2 u5 u6 u7, INV M → c2 ≤ c + 2 → s2 ≤ s + 14 → P (back 23 [some (.inr (.inr (91, 0))), some (.inr (.inr (0, 0))), some (.inr (.inr (40, 0))), some (.inr (.inr (83, 0))), some (.inl (nI a + 6)), u5, u6, u7] M O none c2 s2)) :
    P (BK L xs (EX L xs 14) mi_L_law back 2989 40 [some (.inr (.inr (91, 0))), some (.inr (.inr (0, 0))), some (.inr (.inr (40, 0))), some (.inr (.inr (83, 0))), some (.inl (nI a)), u5, u6, u7] [.inl 13] M O none c s) := by
  obtain ⟨g1, n1⟩ := lw_in (show a + 1 < L by omega) hL (nI a + 1) (nI_add a 1)
  obtain ⟨g2, n2⟩ := lw_in (show a + 2 < L by omega) hL (nI a + 2) (nI_add a 2)
  obtain ⟨kk, M1, O1, c1, s1, q1, hk, hc1, hs1, b, M2, c2, s2, q2, hc2, hs2, e0, eO, hI2⟩ := s_hears L xs O (d := 11) (by omega) (xs (a + 1)) (xs (a + 2)) M hI
  have q1 : EX L xs 14 q_L_hears [.inr (.inr (0, 0)), .inl (xs (a + 1)), .inl (xs (a + 2)), .inr (.inr (83, 0))] M O = some (.inl (some (.inl (nI kk))), M1, O1, c1, s1) := q1
  have q2 : EX L xs 14 q_X7_hears [.inr (.inr (40, 0)), .inl (xs (a + 1)), .inl (xs (a + 2))] M1 O1 = some (.inl (some b), M2, O1, c2, s2) := q2
  obtain ⟨v, rfl⟩ := ((EX_rt mi_X7_hears rfl rfl rfl q2) b rfl).1 rfl
  have q3 := x7_thrown L xs O1 (D := 14) (by omega) M2
  rw [e0] at q3
  simp only [e_L_law_40_c13, e_L_law_1058, if_pos g1, n1, if_pos g2, n2, q1, xr_v, Nat.reduceAdd, e_L_law_1075, q2, e_L_law_1093, q3, e_L_law_1099, if_true]
  by_cases hz : kk = 0
  · subst hz
    have eO := eO rfl
    subst eO
    rw [if_pos nI_z, if_pos (lg_asI v), e_L_law_1123, e_L_law_2586]
    exact hb _ _ _ _ _ _ _ hI2 (by omega) (by omega)
  · rw [if_neg (fun e => hz ((zeq_0 (by omega)).mp e)), e_L_law_1123, e_L_law_2586]
    exact hb _ _ _ _ _ _ _ hI2 (by omega) (by omega)
set_option maxHeartbeats 2000000 in
theorem r_zones {P : Res → Prop} {back : BackT} {M : Mem} {O : Int64} {a c s : Nat} {u5 u6 u7 : Option AV} (hL : L ≤ 3072) (ha : a + 6 ≤ L) (hI : INV M)
    (hb : ∀ M O c2 s2 u5 u6 u7, INV M → c2 ≤ c + 2 → s2 ≤ s + 14 → P (back 23 [some (.inr (.inr (91, 0))), some (.inr (.inr (0, 0))), some (.inr (.inr (40, 0))), some (.inr (.inr (83, 0))), some (.inl (nI a + 6)), u5, u6, u7] M O none c2 s2)) :
    P (BK L xs (EX L xs 14) mi_L_law back 2989 40 [some (.inr (.inr (91, 0))), some (.inr (.inr (0, 0))), some (.inr (.inr (40, 0))), some (.inr (.inr (83, 0))), some (.inl (nI a)), u5, u6, u7] [.inl 14] M O none c s) := by
  obtain ⟨g1, n1⟩ := lw_in (show a + 1 < L by omega) hL (nI a + 1) (nI_add a 1)
  obtain ⟨g2, n2⟩ := lw_in (show a + 2 < L by omega) hL (nI a + 2) (nI_add a 2)
  obtain ⟨g3, n3⟩ := lw_in (show a + 3 < L by omega) hL (nI a + 3) (nI_add a 3)
  obtain ⟨kk, M1, O1, c1, s1, q1, hk, hc1, hs1, b, M2, c2, s2, q2, hc2, hs2, e0, eO, hI2⟩ := s_zones L xs O (d := 11) (by omega) (xs (a + 1)) (xs (a + 2)) (xs (a + 3)) M hI
  have q1 : EX L xs 14 q_L_zones [.inr (.inr (0, 0)), .inl (xs (a + 1)), .inl (xs (a + 2)), .inl (xs (a + 3)), .inr (.inr (83, 0))] M O = some (.inl (some (.inl (nI kk))), M1, O1, c1, s1) := q1
  have q2 : EX L xs 14 q_X7_zones [.inr (.inr (40, 0)), .inl (xs (a + 1)), .inl (xs (a + 2)), .inl (xs (a + 3))] M1 O1 = some (.inl (some b), M2, O1, c2, s2) := q2
  obtain ⟨v, rfl⟩ := ((EX_rt mi_X7_zones rfl rfl rfl q2) b rfl).1 rfl
  have q3 := x7_thrown L xs O1 (D := 14) (by omega) M2
  rw [e0] at q3
  simp only [e_L_law_40_c14, e_L_law_1126, if_pos g1, n1, if_pos g2, n2, if_pos g3, n3, q1, xr_v, Nat.reduceAdd, e_L_law_1149, q2, e_L_law_1173, q3, e_L_law_1179, if_true]
  by_cases hz : kk = 0
  · subst hz
    have eO := eO rfl
    subst eO
    rw [if_pos nI_z, if_pos (lg_asI v), e_L_law_1203, e_L_law_2586]
    exact hb _ _ _ _ _ _ _ hI2 (by omega) (by omega)
  · rw [if_neg (fun e => hz ((zeq_0 (by omega)).mp e)), e_L_law_1203, e_L_law_2586]
    exact hb _ _ _ _ _ _ _ hI2 (by omega) (by omega)
set_option maxHeartbeats 2000000 in
theorem r_why {P : Res → Prop} {back : BackT} {M : Mem} {O : Int64} {a c s : Nat} {u5 u6 u7 : Option AV} (hL : L ≤ 3072) (ha : a + 6 ≤ L) (hI : INV M)
    (hb : ∀ M O c2 s2 u5 u6 u7, INV M → c2 ≤ c + 2 → s2 ≤ s + 14 → P (back 23 [some (.inr (.inr (91, 0))), some (.inr (.inr (0, 0))), some (.inr (.inr (40, 0))), some (.inr (.inr (83, 0))), some (.inl (nI a + 6)), u5, u6, u7] M O none c2 s2)) :
    P (BK L xs (EX L xs 14) mi_L_law back 2989 40 [some (.inr (.inr (91, 0))), some (.inr (.inr (0, 0))), some (.inr (.inr (40, 0))), some (.inr (.inr (83, 0))), some (.inl (nI a)), u5, u6, u7] [.inl 15] M O none c s) := by
  obtain ⟨g1, n1⟩ := lw_in (show a + 1 < L by omega) hL (nI a + 1) (nI_add a 1)
  obtain ⟨g2, n2⟩ := lw_in (show a + 2 < L by omega) hL (nI a + 2) (nI_add a 2)
  obtain ⟨g3, n3⟩ := lw_in (show a + 3 < L by omega) hL (nI a + 3) (nI_add a 3)
  obtain ⟨kk, M1, O1, c1, s1, q1, hk, hc1, hs1, b, M2, c2, s2, q2, hc2, hs2, e0, eO, hI2⟩ := s_why L xs O (d := 11) (by omega) (xs (a + 1)) (xs (a + 2)) (xs (a + 3)) M hI
  have q1 : EX L xs 14 q_L_why [.inr (.inr (0, 0)), .inl (xs (a + 1)), .inl (xs (a + 2)), .inl (xs (a + 3)), .inr (.inr (83, 0))] M O = some (.inl (some (.inl (nI kk))), M1, O1, c1, s1) := q1
  have q2 : EX L xs 14 q_X7_why [.inr (.inr (40, 0)), .inl (xs (a + 1)), .inl (xs (a + 2)), .inl (xs (a + 3))] M1 O1 = some (.inl (some b), M2, O1, c2, s2) := q2
  obtain ⟨v, rfl⟩ := ((EX_rt mi_X7_why rfl rfl rfl q2) b rfl).1 rfl
  have q3 := x7_thrown L xs O1 (D := 14) (by omega) M2
  rw [e0] at q3
  simp only [e_L_law_40_c15, e_L_law_1206, if_pos g1, n1, if_pos g2, n2, if_pos g3, n3, q1, xr_v, Nat.reduceAdd, e_L_law_1229, q2, e_L_law_1253, q3, e_L_law_1259, if_true]
  by_cases hz : kk = 0
  · subst hz
    have eO := eO rfl
    subst eO
    rw [if_pos nI_z, if_pos (lg_asI v), e_L_law_1283, e_L_law_2586]
    exact hb _ _ _ _ _ _ _ hI2 (by omega) (by omega)
  · rw [if_neg (fun e => hz ((zeq_0 (by omega)).mp e)), e_L_law_1283, e_L_law_2586]
    exact hb _ _ _ _ _ _ _ hI2 (by omega) (by omega)
set_option maxHeartbeats 2000000 in
theorem r_nights {P : Res → Prop} {back : BackT} {M : Mem} {O : Int64} {a c s : Nat} {u5 u6 u7 : Option AV} (hL : L ≤ 3072) (ha : a + 6 ≤ L) (hI : INV M)
    (hb : ∀ M O c2 s2 u5 u6 u7, INV M → c2 ≤ c + 2 → s2 ≤ s + 14 → P (back 23 [some (.inr (.inr (91, 0))), some (.inr (.inr (0, 0))), some (.inr (.inr (40, 0))), some (.inr (.inr (83, 0))), some (.inl (nI a + 6)), u5, u6, u7] M O none c2 s2)) :
    P (BK L xs (EX L xs 14) mi_L_law back 2989 40 [some (.inr (.inr (91, 0))), some (.inr (.inr (0, 0))), some (.inr (.inr (40, 0))), some (.inr (.inr (83, 0))), some (.inl (nI a)), u5, u6, u7] [.inl 16] M O none c s) := by
  obtain ⟨g1, n1⟩ := lw_in (show a + 1 < L by omega) hL (nI a + 1) (nI_add a 1)
  obtain ⟨g2, n2⟩ := lw_in (show a + 2 < L by omega) hL (nI a + 2) (nI_add a 2)
  obtain ⟨g3, n3⟩ := lw_in (show a + 3 < L by omega) hL (nI a + 3) (nI_add a 3)
  obtain ⟨kk, M1, O1, c1, s1, q1, hk, hc1, hs1, b, M2, c2, s2, q2, hc2, hs2, e0, eO, hI2⟩ := s_nights L xs O (d := 11) (by omega) (xs (a + 1)) (xs (a + 2)) (xs (a + 3)) M hI
  have q1 : EX L xs 14 q_L_nights [.inr (.inr (0, 0)), .inl (xs (a + 1)), .inl (xs (a + 2)), .inl (xs (a + 3)), .inr (.inr (83, 0))] M O = some (.inl (some (.inl (nI kk))), M1, O1, c1, s1) := q1
  have q2 : EX L xs 14 q_X7_nights [.inr (.inr (40, 0)), .inl (xs (a + 1)), .inl (xs (a + 2)), .inl (xs (a + 3))] M1 O1 = some (.inl (some b), M2, O1, c2, s2) := q2
  obtain ⟨v, rfl⟩ := ((EX_rt mi_X7_nights rfl rfl rfl q2) b rfl).1 rfl
  have q3 := x7_thrown L xs O1 (D := 14) (by omega) M2
  rw [e0] at q3
  simp only [e_L_law_40_c16, e_L_law_1286, if_pos g1, n1, if_pos g2, n2, if_pos g3, n3, q1, xr_v, Nat.reduceAdd, e_L_law_1309, q2, e_L_law_1333, q3, e_L_law_1339, if_true]
  by_cases hz : kk = 0
  · subst hz
    have eO := eO rfl
    subst eO
    rw [if_pos nI_z, if_pos (lg_asI v), e_L_law_1363, e_L_law_2586]
    exact hb _ _ _ _ _ _ _ hI2 (by omega) (by omega)
  · rw [if_neg (fun e => hz ((zeq_0 (by omega)).mp e)), e_L_law_1363, e_L_law_2586]
    exact hb _ _ _ _ _ _ _ hI2 (by omega) (by omega)
set_option maxHeartbeats 2000000 in
theorem r_wakes {P : Res → Prop} {back : BackT} {M : Mem} {O : Int64} {a c s : Nat} {u5 u6 u7 : Option AV} (hL : L ≤ 3072) (ha : a + 6 ≤ L) (hI : INV M)
    (hb : ∀ M O c2 s2 u5 u6 u7, INV M → c2 ≤ c + 2 → s2 ≤ s + 14 → P (back 23 [some (.inr (.inr (91, 0))), some (.inr (.inr (0, 0))), some (.inr (.inr (40, 0))), some (.inr (.inr (83, 0))), some (.inl (nI a + 6)), u5, u6, u7] M O none c2 s2)) :
    P (BK L xs (EX L xs 14) mi_L_law back 2989 40 [some (.inr (.inr (91, 0))), some (.inr (.inr (0, 0))), some (.inr (.inr (40, 0))), some (.inr (.inr (83, 0))), some (.inl (nI a)), u5, u6, u7] [.inl 17] M O none c s) := by
  obtain ⟨g1, n1⟩ := lw_in (show a + 1 < L by omega) hL (nI a + 1) (nI_add a 1)
  obtain ⟨g2, n2⟩ := lw_in (show a + 2 < L by omega) hL (nI a + 2) (nI_add a 2)
  obtain ⟨kk, M1, O1, c1, s1, q1, hk, hc1, hs1, b, M2, c2, s2, q2, hc2, hs2, e0, eO, hI2⟩ := s_wakes L xs O (d := 11) (by omega) (xs (a + 1)) (xs (a + 2)) M hI
  have q1 : EX L xs 14 q_L_wakes [.inr (.inr (0, 0)), .inl (xs (a + 1)), .inl (xs (a + 2)), .inr (.inr (83, 0))] M O = some (.inl (some (.inl (nI kk))), M1, O1, c1, s1) := q1
  have q2 : EX L xs 14 q_X7_wakes [.inr (.inr (40, 0)), .inl (xs (a + 1)), .inl (xs (a + 2))] M1 O1 = some (.inl (some b), M2, O1, c2, s2) := q2
  obtain ⟨v, rfl⟩ := ((EX_rt mi_X7_wakes rfl rfl rfl q2) b rfl).1 rfl
  have q3 := x7_thrown L xs O1 (D := 14) (by omega) M2
  rw [e0] at q3
  simp only [e_L_law_40_c17, e_L_law_1366, if_pos g1, n1, if_pos g2, n2, q1, xr_v, Nat.reduceAdd, e_L_law_1383, q2, e_L_law_1401, q3, e_L_law_1407, if_true]
  by_cases hz : kk = 0
  · subst hz
    have eO := eO rfl
    subst eO
    rw [if_pos nI_z, if_pos (lg_asI v), e_L_law_1431, e_L_law_2586]
    exact hb _ _ _ _ _ _ _ hI2 (by omega) (by omega)
  · rw [if_neg (fun e => hz ((zeq_0 (by omega)).mp e)), e_L_law_1431, e_L_law_2586]
    exact hb _ _ _ _ _ _ _ hI2 (by omega) (by omega)
set_option maxHeartbeats 2000000 in
theorem r_badly {P : Res → Prop} {back : BackT} {M : Mem} {O : Int64} {a c s : Nat} {u5 u6 u7 : Option AV} (hL : L ≤ 3072) (ha : a + 6 ≤ L) (hI : INV M)
    (hb : ∀ M O c2 s2 u5 u6 u7, INV M → c2 ≤ c + 2 → s2 ≤ s + 14 → P (back 23 [some (.inr (.inr (91, 0))), some (.inr (.inr (0, 0))), some (.inr (.inr (40, 0))), some (.inr (.inr (83, 0))), some (.inl (nI a + 6)), u5, u6, u7] M O none c2 s2)) :
    P (BK L xs (EX L xs 14) mi_L_law back 2989 40 [some (.inr (.inr (91, 0))), some (.inr (.inr (0, 0))), some (.inr (.inr (40, 0))), some (.inr (.inr (83, 0))), some (.inl (nI a)), u5, u6, u7] [.inl 18] M O none c s) := by
  obtain ⟨g1, n1⟩ := lw_in (show a + 1 < L by omega) hL (nI a + 1) (nI_add a 1)
  obtain ⟨kk, M1, O1, c1, s1, q1, hk, hc1, hs1, b, M2, c2, s2, q2, hc2, hs2, e0, eO, hI2⟩ := s_badly L xs O (d := 11) (by omega) (xs (a + 1)) M hI
  have q1 : EX L xs 14 q_L_badly [.inr (.inr (0, 0)), .inl (xs (a + 1)), .inr (.inr (83, 0))] M O = some (.inl (some (.inl (nI kk))), M1, O1, c1, s1) := q1
  have q2 : EX L xs 14 q_X7_badly [.inr (.inr (40, 0)), .inl (xs (a + 1))] M1 O1 = some (.inl (some b), M2, O1, c2, s2) := q2
  obtain ⟨v, rfl⟩ := ((EX_rt mi_X7_badly rfl rfl rfl q2) b rfl).1 rfl
  have q3 := x7_thrown L xs O1 (D := 14) (by omega) M2
  rw [e0] at q3
  simp only [e_L_law_40_c18, e_L_law_1434, if_pos g1, n1, q1, xr_v, Nat.reduceAdd, e_L_law_1445, q2, e_L_law_1457, q3, e_L_law_1463, if_true]
  by_cases hz : kk = 0
  · subst hz
    have eO := eO rfl
    subst eO
    rw [if_pos nI_z, if_pos (lg_asI v), e_L_law_1487, e_L_law_2586]
    exact hb _ _ _ _ _ _ _ hI2 (by omega) (by omega)
  · rw [if_neg (fun e => hz ((zeq_0 (by omega)).mp e)), e_L_law_1487, e_L_law_2586]
    exact hb _ _ _ _ _ _ _ hI2 (by omega) (by omega)
set_option maxHeartbeats 2000000 in
theorem r_mean {P : Res → Prop} {back : BackT} {M : Mem} {O : Int64} {a c s : Nat} {u5 u6 u7 : Option AV} (hL : L ≤ 3072) (ha : a + 6 ≤ L) (hI : INV M)
    (hb : ∀ M O c2 s2 u5 u6 u7, INV M → c2 ≤ c + 2 → s2 ≤ s + 14 → P (back 23 [some (.inr (.inr (91, 0))), some (.inr (.inr (0, 0))), some (.inr (.inr (40, 0))), some (.inr (.inr (83, 0))), some (.inl (nI a + 6)), u5, u6, u7] M O none c2 s2)) :
    P (BK L xs (EX L xs 14) mi_L_law back 2989 40 [some (.inr (.inr (91, 0))), some (.inr (.inr (0, 0))), some (.inr (.inr (40, 0))), some (.inr (.inr (83, 0))), some (.inl (nI a)), u5, u6, u7] [.inl 19] M O none c s) := by
  obtain ⟨g1, n1⟩ := lw_in (show a + 1 < L by omega) hL (nI a + 1) (nI_add a 1)
  obtain ⟨g2, n2⟩ := lw_in (show a + 2 < L by omega) hL (nI a + 2) (nI_add a 2)
  obtain ⟨kk, M1, O1, c1, s1, q1, hk, hc1, hs1, b, M2, c2, s2, q2, hc2, hs2, e0, eO, hI2⟩ := s_mean L xs O (d := 11) (by omega) (xs (a + 1)) (xs (a + 2)) M hI
  have q1 : EX L xs 14 q_L_mean [.inr (.inr (0, 0)), .inl (xs (a + 1)), .inl (xs (a + 2)), .inr (.inr (83, 0))] M O = some (.inl (some (.inl (nI kk))), M1, O1, c1, s1) := q1
  have q2 : EX L xs 14 q_X7_mean [.inr (.inr (40, 0)), .inl (xs (a + 1)), .inl (xs (a + 2))] M1 O1 = some (.inl (some b), M2, O1, c2, s2) := q2
  obtain ⟨v, rfl⟩ := ((EX_rt mi_X7_mean rfl rfl rfl q2) b rfl).1 rfl
  have q3 := x7_thrown L xs O1 (D := 14) (by omega) M2
  rw [e0] at q3
  simp only [e_L_law_40_c19, e_L_law_1490, if_pos g1, n1, if_pos g2, n2, q1, xr_v, Nat.reduceAdd, e_L_law_1507, q2, e_L_law_1525, q3, e_L_law_1531, if_true]
  by_cases hz : kk = 0
  · subst hz
    have eO := eO rfl
    subst eO
    rw [if_pos nI_z, if_pos (lg_asI v), e_L_law_1555, e_L_law_2586]
    exact hb _ _ _ _ _ _ _ hI2 (by omega) (by omega)
  · rw [if_neg (fun e => hz ((zeq_0 (by omega)).mp e)), e_L_law_1555, e_L_law_2586]
    exact hb _ _ _ _ _ _ _ hI2 (by omega) (by omega)
set_option maxHeartbeats 2000000 in
theorem r_hides {P : Res → Prop} {back : BackT} {M : Mem} {O : Int64} {a c s : Nat} {u5 u6 u7 : Option AV} (hL : L ≤ 3072) (ha : a + 6 ≤ L) (hI : INV M)
    (hb : ∀ M O c2 s2 u5 u6 u7, INV M → c2 ≤ c + 2 → s2 ≤ s + 14 → P (back 23 [some (.inr (.inr (91, 0))), some (.inr (.inr (0, 0))), some (.inr (.inr (40, 0))), some (.inr (.inr (83, 0))), some (.inl (nI a + 6)), u5, u6, u7] M O none c2 s2)) :
    P (BK L xs (EX L xs 14) mi_L_law back 2989 40 [some (.inr (.inr (91, 0))), some (.inr (.inr (0, 0))), some (.inr (.inr (40, 0))), some (.inr (.inr (83, 0))), some (.inl (nI a)), u5, u6, u7] [.inl 20] M O none c s) := by
  obtain ⟨g1, n1⟩ := lw_in (show a + 1 < L by omega) hL (nI a + 1) (nI_add a 1)
  obtain ⟨g2, n2⟩ := lw_in (show a + 2 < L by omega) hL (nI a + 2) (nI_add a 2)
  obtain ⟨g3, n3⟩ := lw_in (show a + 3 < L by omega) hL (nI a + 3) (nI_add a 3)
  obtain ⟨kk, M1, O1, c1, s1, q1, hk, hc1, hs1, b, M2, c2, s2, q2, hc2, hs2, e0, eO, hI2⟩ := s_hides L xs O (d := 11) (by omega) (xs (a + 1)) (xs (a + 2)) (xs (a + 3)) M hI
  have q1 : EX L xs 14 q_L_hides [.inr (.inr (0, 0)), .inl (xs (a + 1)), .inl (xs (a + 2)), .inl (xs (a + 3)), .inr (.inr (83, 0))] M O = some (.inl (some (.inl (nI kk))), M1, O1, c1, s1) := q1
  have q2 : EX L xs 14 q_X7_hides [.inr (.inr (40, 0)), .inl (xs (a + 1)), .inl (xs (a + 2)), .inl (xs (a + 3))] M1 O1 = some (.inl (some b), M2, O1, c2, s2) := q2
  obtain ⟨v, rfl⟩ := ((EX_rt mi_X7_hides rfl rfl rfl q2) b rfl).1 rfl
  have q3 := x7_thrown L xs O1 (D := 14) (by omega) M2
  rw [e0] at q3
  simp only [e_L_law_40_c20, e_L_law_1558, if_pos g1, n1, if_pos g2, n2, if_pos g3, n3, q1, xr_v, Nat.reduceAdd, e_L_law_1581, q2, e_L_law_1605, q3, e_L_law_1611, if_true]
  by_cases hz : kk = 0
  · subst hz
    have eO := eO rfl
    subst eO
    rw [if_pos nI_z, if_pos (lg_asI v), e_L_law_1635, e_L_law_2586]
    exact hb _ _ _ _ _ _ _ hI2 (by omega) (by omega)
  · rw [if_neg (fun e => hz ((zeq_0 (by omega)).mp e)), e_L_law_1635, e_L_law_2586]
    exact hb _ _ _ _ _ _ _ hI2 (by omega) (by omega)
set_option maxHeartbeats 2000000 in
theorem r_least {P : Res → Prop} {back : BackT} {M : Mem} {O : Int64} {a c s : Nat} {u5 u6 u7 : Option AV} (hL : L ≤ 3072) (ha : a + 6 ≤ L) (hI : INV M)
    (hb : ∀ M O c2 s2 u5 u6 u7, INV M → c2 ≤ c + 2 → s2 ≤ s + 14 → P (back 23 [some (.inr (.inr (91, 0))), some (.inr (.inr (0, 0))), some (.inr (.inr (40, 0))), some (.inr (.inr (83, 0))), some (.inl (nI a + 6)), u5, u6, u7] M O none c2 s2)) :
    P (BK L xs (EX L xs 14) mi_L_law back 2989 40 [some (.inr (.inr (91, 0))), some (.inr (.inr (0, 0))), some (.inr (.inr (40, 0))), some (.inr (.inr (83, 0))), some (.inl (nI a)), u5, u6, u7] [.inl 21] M O none c s) := by
  obtain ⟨g1, n1⟩ := lw_in (show a + 1 < L by omega) hL (nI a + 1) (nI_add a 1)
  obtain ⟨g2, n2⟩ := lw_in (show a + 2 < L by omega) hL (nI a + 2) (nI_add a 2)
  obtain ⟨g3, n3⟩ := lw_in (show a + 3 < L by omega) hL (nI a + 3) (nI_add a 3)
  obtain ⟨g4, n4⟩ := lw_in (show a + 4 < L by omega) hL (nI a + 4) (nI_add a 4)
  obtain ⟨kk, M1, O1, c1, s1, q1, hk, hc1, hs1, b, M2, c2, s2, q2, hc2, hs2, e0, eO, hI2⟩ := s_least L xs O (d := 11) (by omega) (xs (a + 1)) (xs (a + 2)) (xs (a + 3)) (xs (a + 4)) M hI
  have q1 : EX L xs 14 q_L_least [.inr (.inr (0, 0)), .inl (xs (a + 1)), .inl (xs (a + 2)), .inl (xs (a + 3)), .inl (xs (a + 4)), .inr (.inr (83, 0))] M O = some (.inl (some (.inl (nI kk))), M1, O1, c1, s1) := q1
  have q2 : EX L xs 14 q_X7_least [.inr (.inr (40, 0)), .inl (xs (a + 1)), .inl (xs (a + 2)), .inl (xs (a + 3)), .inl (xs (a + 4))] M1 O1 = some (.inl (some b), M2, O1, c2, s2) := q2
  obtain ⟨v, rfl⟩ := ((EX_rt mi_X7_least rfl rfl rfl q2) b rfl).1 rfl
  have q3 := x7_thrown L xs O1 (D := 14) (by omega) M2
  rw [e0] at q3
  simp only [e_L_law_40_c21, e_L_law_1638, if_pos g1, n1, if_pos g2, n2, if_pos g3, n3, if_pos g4, n4, q1, xr_v, Nat.reduceAdd, e_L_law_1667, q2, e_L_law_1697, q3, e_L_law_1703, if_true]
  by_cases hz : kk = 0
  · subst hz
    have eO := eO rfl
    subst eO
    rw [if_pos nI_z, if_pos (lg_asI v), e_L_law_1727, e_L_law_2586]
    exact hb _ _ _ _ _ _ _ hI2 (by omega) (by omega)
  · rw [if_neg (fun e => hz ((zeq_0 (by omega)).mp e)), e_L_law_1727, e_L_law_2586]
    exact hb _ _ _ _ _ _ _ hI2 (by omega) (by omega)
set_option maxHeartbeats 2000000 in
theorem r_bound {P : Res → Prop} {back : BackT} {M : Mem} {O : Int64} {a c s : Nat} {u5 u6 u7 : Option AV} (hL : L ≤ 3072) (ha : a + 6 ≤ L) (hI : INV M)
    (hb : ∀ M O c2 s2 u5 u6 u7, INV M → c2 ≤ c + 2 → s2 ≤ s + 14 → P (back 23 [some (.inr (.inr (91, 0))), some (.inr (.inr (0, 0))), some (.inr (.inr (40, 0))), some (.inr (.inr (83, 0))), some (.inl (nI a + 6)), u5, u6, u7] M O none c2 s2)) :
    P (BK L xs (EX L xs 14) mi_L_law back 2989 40 [some (.inr (.inr (91, 0))), some (.inr (.inr (0, 0))), some (.inr (.inr (40, 0))), some (.inr (.inr (83, 0))), some (.inl (nI a)), u5, u6, u7] [.inl 22] M O none c s) := by
  obtain ⟨g1, n1⟩ := lw_in (show a + 1 < L by omega) hL (nI a + 1) (nI_add a 1)
  obtain ⟨g2, n2⟩ := lw_in (show a + 2 < L by omega) hL (nI a + 2) (nI_add a 2)
  obtain ⟨g3, n3⟩ := lw_in (show a + 3 < L by omega) hL (nI a + 3) (nI_add a 3)
  obtain ⟨kk, M1, O1, c1, s1, q1, hk, hc1, hs1, b, M2, c2, s2, q2, hc2, hs2, e0, eO, hI2⟩ := s_bound L xs O (d := 11) (by omega) (xs (a + 1)) (xs (a + 2)) (xs (a + 3)) M hI
  have q1 : EX L xs 14 q_L_bound [.inr (.inr (0, 0)), .inl (xs (a + 1)), .inl (xs (a + 2)), .inl (xs (a + 3)), .inr (.inr (83, 0))] M O = some (.inl (some (.inl (nI kk))), M1, O1, c1, s1) := q1
  have q2 : EX L xs 14 q_X7_bound [.inr (.inr (40, 0)), .inl (xs (a + 1)), .inl (xs (a + 2)), .inl (xs (a + 3))] M1 O1 = some (.inl (some b), M2, O1, c2, s2) := q2
  obtain ⟨v, rfl⟩ := ((EX_rt mi_X7_bound rfl rfl rfl q2) b rfl).1 rfl
  have q3 := x7_thrown L xs O1 (D := 14) (by omega) M2
  rw [e0] at q3
  simp only [e_L_law_40_c22, e_L_law_1730, if_pos g1, n1, if_pos g2, n2, if_pos g3, n3, q1, xr_v, Nat.reduceAdd, e_L_law_1753, q2, e_L_law_1777, q3, e_L_law_1783, if_true]
  by_cases hz : kk = 0
  · subst hz
    have eO := eO rfl
    subst eO
    rw [if_pos nI_z, if_pos (lg_asI v), e_L_law_1807, e_L_law_2586]
    exact hb _ _ _ _ _ _ _ hI2 (by omega) (by omega)
  · rw [if_neg (fun e => hz ((zeq_0 (by omega)).mp e)), e_L_law_1807, e_L_law_2586]
    exact hb _ _ _ _ _ _ _ hI2 (by omega) (by omega)
set_option maxHeartbeats 2000000 in
theorem r_helps {P : Res → Prop} {back : BackT} {M : Mem} {O : Int64} {a c s : Nat} {u5 u6 u7 : Option AV} (hL : L ≤ 3072) (ha : a + 6 ≤ L) (hI : INV M)
    (hb : ∀ M O c2 s2 u5 u6 u7, INV M → c2 ≤ c + 2 → s2 ≤ s + 14 → P (back 23 [some (.inr (.inr (91, 0))), some (.inr (.inr (0, 0))), some (.inr (.inr (40, 0))), some (.inr (.inr (83, 0))), some (.inl (nI a + 6)), u5, u6, u7] M O none c2 s2)) :
    P (BK L xs (EX L xs 14) mi_L_law back 2989 40 [some (.inr (.inr (91, 0))), some (.inr (.inr (0, 0))), some (.inr (.inr (40, 0))), some (.inr (.inr (83, 0))), some (.inl (nI a)), u5, u6, u7] [.inl 23] M O none c s) := by
  obtain ⟨g1, n1⟩ := lw_in (show a + 1 < L by omega) hL (nI a + 1) (nI_add a 1)
  obtain ⟨g2, n2⟩ := lw_in (show a + 2 < L by omega) hL (nI a + 2) (nI_add a 2)
  obtain ⟨g3, n3⟩ := lw_in (show a + 3 < L by omega) hL (nI a + 3) (nI_add a 3)
  obtain ⟨g4, n4⟩ := lw_in (show a + 4 < L by omega) hL (nI a + 4) (nI_add a 4)
  obtain ⟨g5, n5⟩ := lw_in (show a + 5 < L by omega) hL (nI a + 5) (nI_add a 5)
  obtain ⟨kk, M1, O1, c1, s1, q1, hk, hc1, hs1, b, M2, c2, s2, q2, hc2, hs2, e0, eO, hI2⟩ := s_helps L xs O (d := 11) (by omega) (xs (a + 1)) (xs (a + 2)) (xs (a + 3)) (xs (a + 4)) (xs (a + 5)) M hI
  have q1 : EX L xs 14 q_L_helps [.inr (.inr (0, 0)), .inl (xs (a + 1)), .inl (xs (a + 2)), .inl (xs (a + 3)), .inl (xs (a + 4)), .inl (xs (a + 5)), .inr (.inr (83, 0))] M O = some (.inl (some (.inl (nI kk))), M1, O1, c1, s1) := q1
  have q2 : EX L xs 14 q_X7_helps [.inr (.inr (40, 0)), .inl (xs (a + 1)), .inl (xs (a + 2)), .inl (xs (a + 3)), .inl (xs (a + 4)), .inl (xs (a + 5))] M1 O1 = some (.inl (some b), M2, O1, c2, s2) := q2
  obtain ⟨v, rfl⟩ := ((EX_rt mi_X7_helps rfl rfl rfl q2) b rfl).1 rfl
  have q3 := x7_thrown L xs O1 (D := 14) (by omega) M2
  rw [e0] at q3
  simp only [e_L_law_40_c23, e_L_law_1810, if_pos g1, n1, if_pos g2, n2, if_pos g3, n3, if_pos g4, n4, if_pos g5, n5, q1, xr_v, Nat.reduceAdd, e_L_law_1845, q2, e_L_law_1881, q3, e_L_law_1887, if_true]
  by_cases hz : kk = 0
  · subst hz
    have eO := eO rfl
    subst eO
    rw [if_pos nI_z, if_pos (lg_asI v), e_L_law_1911, e_L_law_2586]
    exact hb _ _ _ _ _ _ _ hI2 (by omega) (by omega)
  · rw [if_neg (fun e => hz ((zeq_0 (by omega)).mp e)), e_L_law_1911, e_L_law_2586]
    exact hb _ _ _ _ _ _ _ hI2 (by omega) (by omega)
set_option maxHeartbeats 2000000 in
theorem r_bell {P : Res → Prop} {back : BackT} {M : Mem} {O : Int64} {a c s : Nat} {u5 u6 u7 : Option AV} (hL : L ≤ 3072) (ha : a + 6 ≤ L) (hI : INV M)
    (hb : ∀ M O c2 s2 u5 u6 u7, INV M → c2 ≤ c + 2 → s2 ≤ s + 14 → P (back 23 [some (.inr (.inr (91, 0))), some (.inr (.inr (0, 0))), some (.inr (.inr (40, 0))), some (.inr (.inr (83, 0))), some (.inl (nI a + 6)), u5, u6, u7] M O none c2 s2)) :
    P (BK L xs (EX L xs 14) mi_L_law back 2989 40 [some (.inr (.inr (91, 0))), some (.inr (.inr (0, 0))), some (.inr (.inr (40, 0))), some (.inr (.inr (83, 0))), some (.inl (nI a)), u5, u6, u7] [.inl 24] M O none c s) := by
  obtain ⟨g1, n1⟩ := lw_in (show a + 1 < L by omega) hL (nI a + 1) (nI_add a 1)
  obtain ⟨g2, n2⟩ := lw_in (show a + 2 < L by omega) hL (nI a + 2) (nI_add a 2)
  obtain ⟨g3, n3⟩ := lw_in (show a + 3 < L by omega) hL (nI a + 3) (nI_add a 3)
  obtain ⟨g4, n4⟩ := lw_in (show a + 4 < L by omega) hL (nI a + 4) (nI_add a 4)
  obtain ⟨g5, n5⟩ := lw_in (show a + 5 < L by omega) hL (nI a + 5) (nI_add a 5)
  obtain ⟨kk, M1, O1, c1, s1, q1, hk, hc1, hs1, b, M2, c2, s2, q2, hc2, hs2, e0, eO, hI2⟩ := s_bell L xs O (d := 11) (by omega) (xs (a + 1)) (xs (a + 2)) (xs (a + 3)) (xs (a + 4)) (xs (a + 5)) M hI
  have q1 : EX L xs 14 q_L_bell [.inr (.inr (0, 0)), .inl (xs (a + 1)), .inl (xs (a + 2)), .inl (xs (a + 3)), .inl (xs (a + 4)), .inl (xs (a + 5)), .inr (.inr (83, 0))] M O = some (.inl (some (.inl (nI kk))), M1, O1, c1, s1) := q1
  have q2 : EX L xs 14 q_X7_bell [.inr (.inr (40, 0)), .inl (xs (a + 1)), .inl (xs (a + 2)), .inl (xs (a + 3)), .inl (xs (a + 4)), .inl (xs (a + 5))] M1 O1 = some (.inl (some b), M2, O1, c2, s2) := q2
  obtain ⟨v, rfl⟩ := ((EX_rt mi_X7_bell rfl rfl rfl q2) b rfl).1 rfl
  have q3 := x7_thrown L xs O1 (D := 14) (by omega) M2
  rw [e0] at q3
  simp only [e_L_law_40_c24, e_L_law_1914, if_pos g1, n1, if_pos g2, n2, if_pos g3, n3, if_pos g4, n4, if_pos g5, n5, q1, xr_v, Nat.reduceAdd, e_L_law_1949, q2, e_L_law_1985, q3, e_L_law_1991, if_true]
  by_cases hz : kk = 0
  · subst hz
    have eO := eO rfl
    subst eO
    rw [if_pos nI_z, if_pos (lg_asI v), e_L_law_2015, e_L_law_2586]
    exact hb _ _ _ _ _ _ _ hI2 (by omega) (by omega)
  · rw [if_neg (fun e => hz ((zeq_0 (by omega)).mp e)), e_L_law_2015, e_L_law_2586]
    exact hb _ _ _ _ _ _ _ hI2 (by omega) (by omega)
set_option maxHeartbeats 2000000 in
theorem r_which {P : Res → Prop} {back : BackT} {M : Mem} {O : Int64} {a c s : Nat} {u5 u6 u7 : Option AV} (hL : L ≤ 3072) (ha : a + 6 ≤ L) (hI : INV M)
    (hb : ∀ M O c2 s2 u5 u6 u7, INV M → c2 ≤ c + 2 → s2 ≤ s + 14 → P (back 23 [some (.inr (.inr (91, 0))), some (.inr (.inr (0, 0))), some (.inr (.inr (40, 0))), some (.inr (.inr (83, 0))), some (.inl (nI a + 6)), u5, u6, u7] M O none c2 s2)) :
    P (BK L xs (EX L xs 14) mi_L_law back 2989 40 [some (.inr (.inr (91, 0))), some (.inr (.inr (0, 0))), some (.inr (.inr (40, 0))), some (.inr (.inr (83, 0))), some (.inl (nI a)), u5, u6, u7] [.inl 25] M O none c s) := by
  obtain ⟨g1, n1⟩ := lw_in (show a + 1 < L by omega) hL (nI a + 1) (nI_add a 1)
  obtain ⟨g2, n2⟩ := lw_in (show a + 2 < L by omega) hL (nI a + 2) (nI_add a 2)
  obtain ⟨g3, n3⟩ := lw_in (show a + 3 < L by omega) hL (nI a + 3) (nI_add a 3)
  obtain ⟨g4, n4⟩ := lw_in (show a + 4 < L by omega) hL (nI a + 4) (nI_add a 4)
  obtain ⟨kk, M1, O1, c1, s1, q1, hk, hc1, hs1, b, M2, c2, s2, q2, hc2, hs2, e0, eO, hI2⟩ := s_which L xs O (d := 11) (by omega) (xs (a + 1)) (xs (a + 2)) (xs (a + 3)) (xs (a + 4)) M hI
  have q1 : EX L xs 14 q_L_which [.inr (.inr (0, 0)), .inl (xs (a + 1)), .inl (xs (a + 2)), .inl (xs (a + 3)), .inl (xs (a + 4)), .inr (.inr (83, 0))] M O = some (.inl (some (.inl (nI kk))), M1, O1, c1, s1) := q1
  have q2 : EX L xs 14 q_X7_which [.inr (.inr (40, 0)), .inl (xs (a + 1)), .inl (xs (a + 2)), .inl (xs (a + 3)), .inl (xs (a + 4))] M1 O1 = some (.inl (some b), M2, O1, c2, s2) := q2
  obtain ⟨v, rfl⟩ := ((EX_rt mi_X7_which rfl rfl rfl q2) b rfl).1 rfl
  have q3 := x7_thrown L xs O1 (D := 14) (by omega) M2
  rw [e0] at q3
  simp only [e_L_law_40_c25, e_L_law_2018, if_pos g1, n1, if_pos g2, n2, if_pos g3, n3, if_pos g4, n4, q1, xr_v, Nat.reduceAdd, e_L_law_2047, q2, e_L_law_2077, q3, e_L_law_2083, if_true]
  by_cases hz : kk = 0
  · subst hz
    have eO := eO rfl
    subst eO
    rw [if_pos nI_z, if_pos (lg_asI v), e_L_law_2107, e_L_law_2586]
    exact hb _ _ _ _ _ _ _ hI2 (by omega) (by omega)
  · rw [if_neg (fun e => hz ((zeq_0 (by omega)).mp e)), e_L_law_2107, e_L_law_2586]
    exact hb _ _ _ _ _ _ _ hI2 (by omega) (by omega)
set_option maxHeartbeats 2000000 in
theorem r_saying {P : Res → Prop} {back : BackT} {M : Mem} {O : Int64} {a c s : Nat} {u5 u6 u7 : Option AV} (hL : L ≤ 3072) (ha : a + 6 ≤ L) (hI : INV M)
    (hb : ∀ M O c2 s2 u5 u6 u7, INV M → c2 ≤ c + 2 → s2 ≤ s + 14 → P (back 23 [some (.inr (.inr (91, 0))), some (.inr (.inr (0, 0))), some (.inr (.inr (40, 0))), some (.inr (.inr (83, 0))), some (.inl (nI a + 6)), u5, u6, u7] M O none c2 s2)) :
    P (BK L xs (EX L xs 14) mi_L_law back 2989 40 [some (.inr (.inr (91, 0))), some (.inr (.inr (0, 0))), some (.inr (.inr (40, 0))), some (.inr (.inr (83, 0))), some (.inl (nI a)), u5, u6, u7] [.inl 26] M O none c s) := by
  obtain ⟨g1, n1⟩ := lw_in (show a + 1 < L by omega) hL (nI a + 1) (nI_add a 1)
  obtain ⟨g2, n2⟩ := lw_in (show a + 2 < L by omega) hL (nI a + 2) (nI_add a 2)
  obtain ⟨g3, n3⟩ := lw_in (show a + 3 < L by omega) hL (nI a + 3) (nI_add a 3)
  obtain ⟨g4, n4⟩ := lw_in (show a + 4 < L by omega) hL (nI a + 4) (nI_add a 4)
  obtain ⟨kk, M1, O1, c1, s1, q1, hk, hc1, hs1, b, M2, c2, s2, q2, hc2, hs2, e0, eO, hI2⟩ := s_saying L xs O (d := 11) (by omega) (xs (a + 1)) (xs (a + 2)) (xs (a + 3)) (xs (a + 4)) M hI
  have q1 : EX L xs 14 q_L_saying [.inr (.inr (0, 0)), .inl (xs (a + 1)), .inl (xs (a + 2)), .inl (xs (a + 3)), .inl (xs (a + 4)), .inr (.inr (83, 0))] M O = some (.inl (some (.inl (nI kk))), M1, O1, c1, s1) := q1
  have q2 : EX L xs 14 q_X7_saying [.inr (.inr (40, 0)), .inl (xs (a + 1)), .inl (xs (a + 2)), .inl (xs (a + 3)), .inl (xs (a + 4))] M1 O1 = some (.inl (some b), M2, O1, c2, s2) := q2
  obtain ⟨v, rfl⟩ := ((EX_rt mi_X7_saying rfl rfl rfl q2) b rfl).1 rfl
  have q3 := x7_thrown L xs O1 (D := 14) (by omega) M2
  rw [e0] at q3
  simp only [e_L_law_40_c26, e_L_law_2110, if_pos g1, n1, if_pos g2, n2, if_pos g3, n3, if_pos g4, n4, q1, xr_v, Nat.reduceAdd, e_L_law_2139, q2, e_L_law_2169, q3, e_L_law_2175, if_true]
  by_cases hz : kk = 0
  · subst hz
    have eO := eO rfl
    subst eO
    rw [if_pos nI_z, if_pos (lg_asI v), e_L_law_2199, e_L_law_2586]
    exact hb _ _ _ _ _ _ _ hI2 (by omega) (by omega)
  · rw [if_neg (fun e => hz ((zeq_0 (by omega)).mp e)), e_L_law_2199, e_L_law_2586]
    exact hb _ _ _ _ _ _ _ hI2 (by omega) (by omega)
set_option maxHeartbeats 2000000 in
theorem r_tell {P : Res → Prop} {back : BackT} {M : Mem} {O : Int64} {a c s : Nat} {u5 u6 u7 : Option AV} (hL : L ≤ 3072) (ha : a + 6 ≤ L) (hI : INV M)
    (hb : ∀ M O c2 s2 u5 u6 u7, INV M → c2 ≤ c + 2 → s2 ≤ s + 14 → P (back 23 [some (.inr (.inr (91, 0))), some (.inr (.inr (0, 0))), some (.inr (.inr (40, 0))), some (.inr (.inr (83, 0))), some (.inl (nI a + 6)), u5, u6, u7] M O none c2 s2)) :
    P (BK L xs (EX L xs 14) mi_L_law back 2989 40 [some (.inr (.inr (91, 0))), some (.inr (.inr (0, 0))), some (.inr (.inr (40, 0))), some (.inr (.inr (83, 0))), some (.inl (nI a)), u5, u6, u7] [.inl 27] M O none c s) := by
  obtain ⟨g1, n1⟩ := lw_in (show a + 1 < L by omega) hL (nI a + 1) (nI_add a 1)
  obtain ⟨g2, n2⟩ := lw_in (show a + 2 < L by omega) hL (nI a + 2) (nI_add a 2)
  obtain ⟨kk, M1, O1, c1, s1, q1, hk, hc1, hs1, b, M2, c2, s2, q2, hc2, hs2, e0, eO, hI2⟩ := s_tell L xs O (d := 11) (by omega) (xs (a + 1)) (xs (a + 2)) M hI
  have q1 : EX L xs 14 q_L_tell [.inr (.inr (0, 0)), .inl (xs (a + 1)), .inl (xs (a + 2)), .inr (.inr (83, 0))] M O = some (.inl (some (.inl (nI kk))), M1, O1, c1, s1) := q1
  have q2 : EX L xs 14 q_X7_tell [.inr (.inr (40, 0)), .inl (xs (a + 1)), .inl (xs (a + 2))] M1 O1 = some (.inl (some b), M2, O1, c2, s2) := q2
  obtain ⟨v, rfl⟩ := ((EX_rt mi_X7_tell rfl rfl rfl q2) b rfl).1 rfl
  have q3 := x7_thrown L xs O1 (D := 14) (by omega) M2
  rw [e0] at q3
  simp only [e_L_law_40_c27, e_L_law_2202, if_pos g1, n1, if_pos g2, n2, q1, xr_v, Nat.reduceAdd, e_L_law_2219, q2, e_L_law_2237, q3, e_L_law_2243, if_true]
  by_cases hz : kk = 0
  · subst hz
    have eO := eO rfl
    subst eO
    rw [if_pos nI_z, if_pos (lg_asI v), e_L_law_2267, e_L_law_2586]
    exact hb _ _ _ _ _ _ _ hI2 (by omega) (by omega)
  · rw [if_neg (fun e => hz ((zeq_0 (by omega)).mp e)), e_L_law_2267, e_L_law_2586]
    exact hb _ _ _ _ _ _ _ hI2 (by omega) (by omega)
set_option maxHeartbeats 2000000 in
theorem r_bang {P : Res → Prop} {back : BackT} {M : Mem} {O : Int64} {a c s : Nat} {u5 u6 u7 : Option AV} (hL : L ≤ 3072) (ha : a + 6 ≤ L) (hI : INV M)
    (hb : ∀ M O c2 s2 u5 u6 u7, INV M → c2 ≤ c + 2 → s2 ≤ s + 14 → P (back 23 [some (.inr (.inr (91, 0))), some (.inr (.inr (0, 0))), some (.inr (.inr (40, 0))), some (.inr (.inr (83, 0))), some (.inl (nI a + 6)), u5, u6, u7] M O none c2 s2)) :
    P (BK L xs (EX L xs 14) mi_L_law back 2989 40 [some (.inr (.inr (91, 0))), some (.inr (.inr (0, 0))), some (.inr (.inr (40, 0))), some (.inr (.inr (83, 0))), some (.inl (nI a)), u5, u6, u7] [.inl 28] M O none c s) := by
  obtain ⟨g1, n1⟩ := lw_in (show a + 1 < L by omega) hL (nI a + 1) (nI_add a 1)
  obtain ⟨g2, n2⟩ := lw_in (show a + 2 < L by omega) hL (nI a + 2) (nI_add a 2)
  obtain ⟨g3, n3⟩ := lw_in (show a + 3 < L by omega) hL (nI a + 3) (nI_add a 3)
  obtain ⟨g4, n4⟩ := lw_in (show a + 4 < L by omega) hL (nI a + 4) (nI_add a 4)
  obtain ⟨g5, n5⟩ := lw_in (show a + 5 < L by omega) hL (nI a + 5) (nI_add a 5)
  obtain ⟨kk, M1, O1, c1, s1, q1, hk, hc1, hs1, b, M2, c2, s2, q2, hc2, hs2, e0, eO, hI2⟩ := s_bang L xs O (d := 11) (by omega) (xs (a + 1)) (xs (a + 2)) (xs (a + 3)) (xs (a + 4)) (xs (a + 5)) M hI
  have q1 : EX L xs 14 q_L_bang [.inr (.inr (0, 0)), .inl (xs (a + 1)), .inl (xs (a + 2)), .inl (xs (a + 3)), .inl (xs (a + 4)), .inl (xs (a + 5)), .inr (.inr (83, 0))] M O = some (.inl (some (.inl (nI kk))), M1, O1, c1, s1) := q1
  have q2 : EX L xs 14 q_X7_bang [.inr (.inr (40, 0)), .inl (xs (a + 1)), .inl (xs (a + 2)), .inl (xs (a + 3)), .inl (xs (a + 4)), .inl (xs (a + 5))] M1 O1 = some (.inl (some b), M2, O1, c2, s2) := q2
  obtain ⟨v, rfl⟩ := ((EX_rt mi_X7_bang rfl rfl rfl q2) b rfl).2 rfl
  have q3 := x7_thrown L xs O1 (D := 14) (by omega) M2
  rw [e0] at q3
  simp only [e_L_law_40_c28, e_L_law_2270, if_pos g1, n1, if_pos g2, n2, if_pos g3, n3, if_pos g4, n4, if_pos g5, n5, q1, xr_v, Nat.reduceAdd, e_L_law_2305, q2, e_L_law_2341, q3, e_L_law_2347, if_true]
  by_cases hz : kk = 0
  · subst hz
    have eO := eO rfl
    subst eO
    rw [if_pos nI_z, if_pos (lg_same _), e_L_law_2370, e_L_law_2586]
    exact hb _ _ _ _ _ _ _ hI2 (by omega) (by omega)
  · rw [if_neg (fun e => hz ((zeq_0 (by omega)).mp e)), e_L_law_2370, e_L_law_2586]
    exact hb _ _ _ _ _ _ _ hI2 (by omega) (by omega)
set_option maxHeartbeats 2000000 in
theorem r_click {P : Res → Prop} {back : BackT} {M : Mem} {O : Int64} {a c s : Nat} {u5 u6 u7 : Option AV} (hL : L ≤ 3072) (ha : a + 6 ≤ L) (hI : INV M)
    (hb : ∀ M O c2 s2 u5 u6 u7, INV M → c2 ≤ c + 2 → s2 ≤ s + 14 → P (back 23 [some (.inr (.inr (91, 0))), some (.inr (.inr (0, 0))), some (.inr (.inr (40, 0))), some (.inr (.inr (83, 0))), some (.inl (nI a + 6)), u5, u6, u7] M O none c2 s2)) :
    P (BK L xs (EX L xs 14) mi_L_law back 2989 40 [some (.inr (.inr (91, 0))), some (.inr (.inr (0, 0))), some (.inr (.inr (40, 0))), some (.inr (.inr (83, 0))), some (.inl (nI a)), u5, u6, u7] [.inl 29] M O none c s) := by
  obtain ⟨g1, n1⟩ := lw_in (show a + 1 < L by omega) hL (nI a + 1) (nI_add a 1)
  obtain ⟨kk, M1, O1, c1, s1, q1, hk, hc1, hs1, b, M2, c2, s2, q2, hc2, hs2, e0, eO, hI2⟩ := s_click L xs O (d := 11) (by omega) (xs (a + 1)) M hI
  have q1 : EX L xs 14 q_L_click [.inr (.inr (0, 0)), .inl (xs (a + 1)), .inr (.inr (83, 0))] M O = some (.inl (some (.inl (nI kk))), M1, O1, c1, s1) := q1
  have q2 : EX L xs 14 q_X7_click [.inr (.inr (40, 0)), .inl (xs (a + 1))] M1 O1 = some (.inl (some b), M2, O1, c2, s2) := q2
  obtain ⟨v, rfl⟩ := ((EX_rt mi_X7_click rfl rfl rfl q2) b rfl).1 rfl
  have q3 := x7_thrown L xs O1 (D := 14) (by omega) M2
  rw [e0] at q3
  simp only [e_L_law_40_c29, e_L_law_2373, if_pos g1, n1, q1, xr_v, Nat.reduceAdd, e_L_law_2384, q2, e_L_law_2396, q3, e_L_law_2402, if_true]
  by_cases hz : kk = 0
  · subst hz
    have eO := eO rfl
    subst eO
    rw [if_pos nI_z, if_pos (lg_asI v), e_L_law_2426, e_L_law_2586]
    exact hb _ _ _ _ _ _ _ hI2 (by omega) (by omega)
  · rw [if_neg (fun e => hz ((zeq_0 (by omega)).mp e)), e_L_law_2426, e_L_law_2586]
    exact hb _ _ _ _ _ _ _ hI2 (by omega) (by omega)
set_option maxHeartbeats 2000000 in
theorem r_wagons {P : Res → Prop} {back : BackT} {M : Mem} {O : Int64} {a c s : Nat} {u5 u6 u7 : Option AV} (hL : L ≤ 3072) (ha : a + 6 ≤ L) (hI : INV M)
    (hb : ∀ M O c2 s2 u5 u6 u7, INV M → c2 ≤ c + 2 → s2 ≤ s + 14 → P (back 23 [some (.inr (.inr (91, 0))), some (.inr (.inr (0, 0))), some (.inr (.inr (40, 0))), some (.inr (.inr (83, 0))), some (.inl (nI a + 6)), u5, u6, u7] M O none c2 s2)) :
    P (BK L xs (EX L xs 14) mi_L_law back 2989 40 [some (.inr (.inr (91, 0))), some (.inr (.inr (0, 0))), some (.inr (.inr (40, 0))), some (.inr (.inr (83, 0))), some (.inl (nI a)), u5, u6, u7] [.inl 30] M O none c s) := by
  obtain ⟨g1, n1⟩ := lw_in (show a + 1 < L by omega) hL (nI a + 1) (nI_add a 1)
  obtain ⟨g2, n2⟩ := lw_in (show a + 2 < L by omega) hL (nI a + 2) (nI_add a 2)
  obtain ⟨kk, M1, O1, c1, s1, q1, hk, hc1, hs1, b, M2, c2, s2, q2, hc2, hs2, e0, eO, hI2⟩ := s_wagons L xs O (d := 11) (by omega) (xs (a + 1)) (xs (a + 2)) M hI
  have q1 : EX L xs 14 q_L_wagons [.inr (.inr (0, 0)), .inl (xs (a + 1)), .inl (xs (a + 2)), .inr (.inr (83, 0))] M O = some (.inl (some (.inl (nI kk))), M1, O1, c1, s1) := q1
  have q2 : EX L xs 14 q_X7_wagons [.inr (.inr (40, 0)), .inl (xs (a + 1)), .inl (xs (a + 2))] M1 O1 = some (.inl (some b), M2, O1, c2, s2) := q2
  obtain ⟨v, rfl⟩ := ((EX_rt mi_X7_wagons rfl rfl rfl q2) b rfl).1 rfl
  have q3 := x7_thrown L xs O1 (D := 14) (by omega) M2
  rw [e0] at q3
  simp only [e_L_law_40_c30, e_L_law_2429, if_pos g1, n1, if_pos g2, n2, q1, xr_v, Nat.reduceAdd, e_L_law_2446, q2, e_L_law_2464, q3, e_L_law_2470, if_true]
  by_cases hz : kk = 0
  · subst hz
    have eO := eO rfl
    subst eO
    rw [if_pos nI_z, if_pos (lg_asI v), e_L_law_2494, e_L_law_2586]
    exact hb _ _ _ _ _ _ _ hI2 (by omega) (by omega)
  · rw [if_neg (fun e => hz ((zeq_0 (by omega)).mp e)), e_L_law_2494, e_L_law_2586]
    exact hb _ _ _ _ _ _ _ hI2 (by omega) (by omega)
set_option maxHeartbeats 2000000 in
theorem r_forget {P : Res → Prop} {back : BackT} {M : Mem} {O : Int64} {a c s : Nat} {u5 u6 u7 : Option AV} (hL : L ≤ 3072) (ha : a + 6 ≤ L) (hI : INV M)
    (hb : ∀ M O c2 s2 u5 u6 u7, INV M → c2 ≤ c + 2 → s2 ≤ s + 14 → P (back 23 [some (.inr (.inr (91, 0))), some (.inr (.inr (0, 0))), some (.inr (.inr (40, 0))), some (.inr (.inr (83, 0))), some (.inl (nI a + 6)), u5, u6, u7] M O none c2 s2)) :
    P (BK L xs (EX L xs 14) mi_L_law back 2989 40 [some (.inr (.inr (91, 0))), some (.inr (.inr (0, 0))), some (.inr (.inr (40, 0))), some (.inr (.inr (83, 0))), some (.inl (nI a)), u5, u6, u7] [.inl 31] M O none c s) := by
  obtain ⟨v, M1, q1, M2, q2, hI2⟩ := s_forget L xs O (d := 12)  M hI
  have q1 : EX L xs 14 q_X6_forget [.inr (.inr (0, 0))] M O = some (.inl (some (.inl v)), M1, O, 0, 0) := q1
  have q2 : EX L xs 14 q_X7_forget [.inr (.inr (40, 0))] M1 O = some (.inl (some (.inl v)), M2, O, 0, 0) := q2
  simp only [e_L_law_40_c31, e_L_law_2497, q1, xr_v, Nat.reduceAdd, e_L_law_2501, q2, e_L_law_2505, if_true, e_L_law_2586]
  exact hb _ _ _ _ _ _ _ hI2 (by omega) (by omega)
set_option maxHeartbeats 2000000 in
theorem r_image {P : Res → Prop} {back : BackT} {M : Mem} {O : Int64} {a c s : Nat} {u5 u6 u7 : Option AV} (hL : L ≤ 3072) (ha : a + 6 ≤ L) (hI : INV M)
    (hb : ∀ M O c2 s2 u5 u6 u7, INV M → c2 ≤ c + 2 → s2 ≤ s + 14 → P (back 23 [some (.inr (.inr (91, 0))), some (.inr (.inr (0, 0))), some (.inr (.inr (40, 0))), some (.inr (.inr (83, 0))), some (.inl (nI a + 6)), u5, u6, u7] M O none c2 s2)) :
    P (BK L xs (EX L xs 14) mi_L_law back 2989 40 [some (.inr (.inr (91, 0))), some (.inr (.inr (0, 0))), some (.inr (.inr (40, 0))), some (.inr (.inr (83, 0))), some (.inl (nI a)), u5, u6, u7] [.inl 32] M O none c s) := by
  obtain ⟨v, M1, q1, M2, q2, hI2⟩ := s_image L xs O (d := 12) (by omega)  M hI
  have q1 : EX L xs 14 q_X6_image [.inr (.inr (0, 0))] M O = some (.inl (some (.inl v)), M1, O, 0, 0) := q1
  have q2 : EX L xs 14 q_X7_image [.inr (.inr (40, 0))] M1 O = some (.inl (some (.inl v)), M2, O, 0, 0) := q2
  simp only [e_L_law_40_c32, e_L_law_2510, q1, xr_v, Nat.reduceAdd, e_L_law_2514, q2, e_L_law_2518, if_true, e_L_law_2586]
  exact hb _ _ _ _ _ _ _ hI2 (by omega) (by omega)
set_option maxHeartbeats 2000000 in
theorem r_restore {P : Res → Prop} {back : BackT} {M : Mem} {O : Int64} {a c s : Nat} {u5 u6 u7 : Option AV} (hL : L ≤ 3072) (ha : a + 6 ≤ L) (hI : INV M)
    (hb : ∀ M O c2 s2 u5 u6 u7, INV M → c2 ≤ c + 2 → s2 ≤ s + 14 → P (back 23 [some (.inr (.inr (91, 0))), some (.inr (.inr (0, 0))), some (.inr (.inr (40, 0))), some (.inr (.inr (83, 0))), some (.inl (nI a + 6)), u5, u6, u7] M O none c2 s2)) :
    P (BK L xs (EX L xs 14) mi_L_law back 2989 40 [some (.inr (.inr (91, 0))), some (.inr (.inr (0, 0))), some (.inr (.inr (40, 0))), some (.inr (.inr (83, 0))), some (.inl (nI a)), u5, u6, u7] [.inl 33] M O none c s) := by
  obtain ⟨v, M1, q1, M2, q2, hI2⟩ := s_restore L xs O (d := 12) (by omega)  M hI
  have q1 : EX L xs 14 q_X6_restore [.inr (.inr (0, 0))] M O = some (.inl (some (.inl v)), M1, O, 0, 0) := q1
  have q2 : EX L xs 14 q_X7_restore [.inr (.inr (40, 0))] M1 O = some (.inl (some (.inl v)), M2, O, 0, 0) := q2
  simp only [e_L_law_40_c33, e_L_law_2523, q1, xr_v, Nat.reduceAdd, e_L_law_2527, q2, e_L_law_2531, if_true, e_L_law_2586]
  exact hb _ _ _ _ _ _ _ hI2 (by omega) (by omega)
set_option maxHeartbeats 2000000 in
theorem r_status {P : Res → Prop} {back : BackT} {M : Mem} {O : Int64} {a c s : Nat} {u5 u6 u7 : Option AV} (hL : L ≤ 3072) (ha : a + 6 ≤ L) (hI : INV M)
    (hb : ∀ M O c2 s2 u5 u6 u7, INV M → c2 ≤ c + 2 → s2 ≤ s + 14 → P (back 23 [some (.inr (.inr (91, 0))), some (.inr (.inr (0, 0))), some (.inr (.inr (40, 0))), some (.inr (.inr (83, 0))), some (.inl (nI a + 6)), u5, u6, u7] M O none c2 s2)) :
    P (BK L xs (EX L xs 14) mi_L_law back 2989 40 [some (.inr (.inr (91, 0))), some (.inr (.inr (0, 0))), some (.inr (.inr (40, 0))), some (.inr (.inr (83, 0))), some (.inl (nI a)), u5, u6, u7] [.inl 34] M O none c s) := by
  obtain ⟨g1, n1⟩ := lw_in (show a + 1 < L by omega) hL (nI a + 1) (nI_add a 1)
  obtain ⟨v, M1, q1, M2, q2, hI2⟩ := s_status L xs O (d := 12) (by omega) (xs (a + 1)) M hI
  have q1 : EX L xs 14 q_X6_status [.inr (.inr (0, 0)), .inl (xs (a + 1))] M O = some (.inl (some (.inl v)), M1, O, 0, 0) := q1
  have q2 : EX L xs 14 q_X7_status [.inr (.inr (40, 0)), .inl (xs (a + 1))] M1 O = some (.inl (some (.inl v)), M2, O, 0, 0) := q2
  simp only [e_L_law_40_c34, e_L_law_2536, if_pos g1, n1, q1, xr_v, Nat.reduceAdd, e_L_law_2546, q2, e_L_law_2556, if_true, e_L_law_2586]
  exact hb _ _ _ _ _ _ _ hI2 (by omega) (by omega)
set_option maxHeartbeats 2000000 in
theorem r_count {P : Res → Prop} {back : BackT} {M : Mem} {O : Int64} {a c s : Nat} {u5 u6 u7 : Option AV} (hL : L ≤ 3072) (ha : a + 6 ≤ L) (hI : INV M)
    (hb : ∀ M O c2 s2 u5 u6 u7, INV M → c2 ≤ c + 2 → s2 ≤ s + 14 → P (back 23 [some (.inr (.inr (91, 0))), some (.inr (.inr (0, 0))), some (.inr (.inr (40, 0))), some (.inr (.inr (83, 0))), some (.inl (nI a + 6)), u5, u6, u7] M O none c2 s2)) :
    P (BK L xs (EX L xs 14) mi_L_law back 2989 40 [some (.inr (.inr (91, 0))), some (.inr (.inr (0, 0))), some (.inr (.inr (40, 0))), some (.inr (.inr (83, 0))), some (.inl (nI a)), u5, u6, u7] [.inl 35] M O none c s) := by
  obtain ⟨g1, n1⟩ := lw_in (show a + 1 < L by omega) hL (nI a + 1) (nI_add a 1)
  obtain ⟨v, M1, q1, M2, q2, hI2⟩ := s_count L xs O (d := 12) (xs (a + 1)) M hI
  have q1 : EX L xs 14 q_X6_count [.inr (.inr (0, 0)), .inl (xs (a + 1))] M O = some (.inl (some (.inl v)), M1, O, 0, 0) := q1
  have q2 : EX L xs 14 q_X7_count [.inr (.inr (40, 0)), .inl (xs (a + 1))] M1 O = some (.inl (some (.inl v)), M2, O, 0, 0) := q2
  simp only [e_L_law_40_c35, e_L_law_2561, if_pos g1, n1, q1, xr_v, Nat.reduceAdd, e_L_law_2571, q2, e_L_law_2581, if_true, e_L_law_2586]
  exact hb _ _ _ _ _ _ _ hI2 (by omega) (by omega)
end
