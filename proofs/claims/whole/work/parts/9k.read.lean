/-! A LAND's text, clause by clause, to its end: the class. -/
section
variable {tx : Nat → Nat} {N : Nat}
theorem RK_cz {c p : Nat} {U : Vw} (hU : RK U) (h0 : c = 0 → vN U 3 4 = 0 ∧ vN U 3 8 = 0 ∧ vN U 3 13 = 0) : RK (czU tx N c U p) := by
  unfold czU
  have eT : czT tx N c U p = match kwC tx N p with
    | none => .inr (1, p)
    | some K => if 60 ≤ c ∨ fullB U K = true then .inr (3, p) else if K = 0 ∧ 0 < c then .inr (4, p) else ctF tx N U K (.inl (scn tx N isA p)) := rfl
  cases ek : kwC tx N p with
  | none => exact hU
  | some K =>
    have hK := (kwC_s ek).1
    rw [ek] at eT
    dsimp only at eT ⊢
    obtain ⟨⟨v0, v1, v2, v3, v4, v5, v6, v7, v8, -⟩, -⟩ := id hU
    generalize hts : (Sum.inl (scn tx N isA p) : TS) = ts at *
    by_cases cl1 : (czT tx N c U p).isLeft = true
    · rw [if_pos cl1]
      rw [eT] at cl1
      by_cases c1 : 60 ≤ c ∨ fullB U K = true
      · rw [if_pos c1] at cl1
        cases cl1
      rw [if_neg c1] at cl1
      by_cases c2 : K = 0 ∧ 0 < c
      · rw [if_pos c2] at cl1
        cases cl1
      rw [if_neg c2] at cl1
      have hfu := of_decide_eq_false (Bool.eq_false_iff.2 (fun e => c1 (Or.inr e)))
      have w0 : (0 : Int32).toInt = 0 := by decide
      have w1 : (1 : Int32).toInt = 1 := by decide
      have w3 : (3 : Int32).toInt = 3 := by decide
      have w8 : (8 : Int32).toInt = 8 := by decide
      have w9 : (9 : Int32).toInt = 9 := by decide
      have w30 : (30 : Int32).toInt = 30 := by decide
      have w40 : (40 : Int32).toInt = 40 := by decide
      have w99 : (99 : Int32).toInt = 99 := by decide
      have w120 : (120 : Int32).toInt = 120 := by decide
      have m0 := hi_m1 (vN U 3 0) (by omega)
      have m4 := hi_m1 (vN U 3 4) (by omega)
      have m8 := hi_m1 (vN U 3 8) (by omega)
      have hl0 : (nI (vN U 3 0) - 1).toInt < 99999999 := by omega
      have hl4 : (nI (vN U 3 4) - 1).toInt < 99999999 := by omega
      have hl8 : (nI (vN U 3 8) - 1).toInt < 99999999 := by omega
      rcases (by omega : K = 0 ∨ K = 1 ∨ K = 2 ∨ K = 3 ∨ K = 4 ∨ K = 5 ∨ K = 6 ∨ K = 7 ∨ K = 8 ∨ K = 9) with rfl | rfl | rfl | rfl | rfl | rfl | rfl | rfl | rfl | rfl
      · have l1 := cl_l cl1
        obtain ⟨a1, b1⟩ := nb_in (by decide) l1
        obtain ⟨z1, z2, z3⟩ := h0 (by omega)
        exact RK_cells hU (by omega) (by omega) z1 z2 z3
      · have l4 := cl_l cl1
        have l3 := nb_ll l4
        have l2 := nb_ll l3
        obtain ⟨a4, b4⟩ := nb_in (by decide) l4
        obtain ⟨a3, b3⟩ := nb_in (by decide) l3
        exact RK_ground hU (by omega) (by omega)
      · have l2 := cl_l cl1
        obtain ⟨a2, b2⟩ := nb_in (by decide) l2
        exact RK_wall hU (by omega)
      · have l2 := cl_l cl1
        have l1 := nb_ll l2
        obtain ⟨a1, b1⟩ := nb_in hl0 l1
        exact RK_house hU (by omega) (by omega)
      · exact RK_hum hU
      · have l4 := cl_l cl1
        have l3 := nb_ll l4
        have l2 := nb_ll l3
        have l1 := nb_ll l2
        obtain ⟨a1, b1⟩ := nb_in hl0 l1
        obtain ⟨a2, b2⟩ := nb_in (by decide) l2
        exact RK_source hU (by omega) (by omega) (by omega)
      · have l3 := cl_l cl1
        have l2 := nb_ll l3
        have l1 := nb_ll l2
        obtain ⟨a1, b1⟩ := nb_in hl0 l1
        obtain ⟨a2, b2⟩ := nb_in (by decide) l2
        obtain ⟨a3, b3⟩ := nb_in (by decide) l3
        exact RK_work hU (by omega) (by omega) (by omega) (by omega) (Or.inl ⟨rfl, by omega, by omega⟩)
      · have l3 := cl_l cl1
        have l2 := nb_ll l3
        have l1 := nb_ll l2
        obtain ⟨a1, b1⟩ := nb_in hl0 l1
        obtain ⟨a2, b2⟩ := nb_in hl0 l2
        obtain ⟨a3, b3⟩ := nb_in (by decide) l3
        rw [nv_N, hl_toInt (by omega)] at a2
        exact RK_work hU (by omega) (by omega) (by omega) (by omega) (Or.inr (Or.inl ⟨rfl, by omega, by omega⟩))
      · have l3 := cl_l cl1
        have l2 := nb_ll l3
        have l1 := nb_ll l2
        obtain ⟨a1, b1⟩ := nb_in hl8 l1
        obtain ⟨a2, b2⟩ := nb_in (by decide) l2
        obtain ⟨a3, b3⟩ := nb_in (by decide) l3
        exact RK_work hU (by omega) (by omega) (by omega) (by omega) (Or.inr (Or.inr (Or.inl ⟨rfl, by omega, by omega⟩)))
      · have l3 := cl_l cl1
        have l2 := nb_ll l3
        have l1 := nb_ll l2
        obtain ⟨a1, b1⟩ := nb_in hl4 l1
        obtain ⟨a2, b2⟩ := nb_in (by decide) l2
        obtain ⟨a3, b3⟩ := nb_in (by decide) l3
        exact RK_work hU (by omega) (by omega) (by omega) (by omega) (Or.inr (Or.inr (Or.inr ⟨rfl, by omega, by omega⟩)))
    · rw [if_neg cl1]
      exact hU
/-- one round of reading -/
def rdS (tx : Nat → Nat) (N c : Nat) (st : Vw × TS) : Vw × TS := match st.2 with
  | .inl p => if scn tx N isB p < N then (czU tx N c st.1 (scn tx N isB p), czT tx N c st.1 (scn tx N isB p)) else (st.1, .inl (scn tx N isB p))
  | .inr _ => st
def rd (tx : Nat → Nat) (N : Nat) (U0 : Vw) : Nat → Vw × TS
  | 0 => (U0, .inl 0)
  | c + 1 => rdS tx N c (rd tx N U0 c)
def Z0 (U : Vw) : Prop := U 3 0 = nI 20 ∧ U 3 4 = nI 0 ∧ U 3 8 = nI 0 ∧ U 3 13 = nI 0 ∧ (∀ j, j < 40 → U 4 j = nI 0 ∧ U 5 j = nI 0 ∧ U 6 j = nI 0) ∧ ∀ h, h < 24 → U 9 h = -1
theorem RK_Z0 {U : Vw} (h : Z0 U) : RK U := by
  obtain ⟨h0, h1, h2, h3, h4, h5⟩ := h
  have ha : ∀ j, j < 40 → (qB 4 (U 4 j)) ∧ (qL 9 (U 5 j)) ∧ (qL 9 (U 6 j)) := fun j hj => ⟨q_eq (h4 j hj).1 (qB_n (by omega) (by omega)), q_eq (h4 j hj).2.1 (qL_n (by omega) (by omega)), q_eq (h4 j hj).2.2 (qL_n (by omega) (by omega))⟩
  exact RK_mk (n := 20) (nh := 0) (ns := 0) (nw := 0) ⟨h0, h1, h2, h3, by omega, by omega, by omega, by omega, by omega, fun j hj => (ha j (by omega)).1, fun j hj => (ha j (by omega)).2.1, fun j hj => (ha j (by omega)).2.2, fun k hk => absurd hk (by omega), fun k hk => absurd hk (by omega), fun k hk => absurd hk (by omega), fun k hk => absurd hk (by omega), fun k hk => absurd hk (by omega)⟩ ha
theorem rd_in {U0 : Vw} (h : Z0 U0) : ∀ c, RK (rd tx N U0 c).1 ∧ (c = 0 → vN (rd tx N U0 c).1 3 4 = 0 ∧ vN (rd tx N U0 c).1 3 8 = 0 ∧ vN (rd tx N U0 c).1 3 13 = 0) := by
  intro c
  induction c with
  | zero => exact ⟨RK_Z0 h, fun _ => ⟨vN_of h.2.1 (by omega), vN_of h.2.2.1 (by omega), vN_of h.2.2.2.1 (by omega)⟩⟩
  | succ c ih =>
    refine ⟨?_, fun e => absurd e (by omega)⟩
    show RK (rdS tx N c (rd tx N U0 c)).1
    unfold rdS
    cases e : (rd tx N U0 c).2 with
    | inr x => exact ih.1
    | inl p =>
      dsimp only
      by_cases c1 : scn tx N isB p < N
      · rw [if_pos c1]
        exact RK_cz ih.1 ih.2
      · rw [if_neg c1]
        exact ih.1
def rdE (tx : Nat → Nat) (N : Nat) (ts : TS) : Bool := match ts with
  | .inl p => decide (scn tx N isB p = p ∧ ¬ p < N)
  | .inr _ => true
theorem rdS_E {c : Nat} {st : Vw × TS} (h : rdE tx N st.2 = true) : rdS tx N c st = st := by
  obtain ⟨U, ts⟩ := st
  cases ts with
  | inr e => rfl
  | inl p =>
    have h' : scn tx N isB p = p ∧ ¬ p < N := of_decide_eq_true h
    unfold rdS
    dsimp only
    rw [h'.1, if_neg h'.2]
theorem rd_E {U0 : Vw} {c : Nat} (h : rdE tx N (rd tx N U0 c).2 = true) : ∀ r, rd tx N U0 (c + r) = rd tx N U0 c := by
  intro r
  induction r with
  | zero => rfl
  | succ r ih =>
    show rdS tx N (c + r) (rd tx N U0 (c + r)) = _
    rw [ih]
    exact rdS_E h
end
section
variable (L : Nat) (xs : Nat → Int32) (O : Int64) {tx : Nat → Nat} {N : Nat}
theorem sR_L {i0 : Nat} (g i k : Nat) (h : sR i0 g i k = false) : sLd i0 g i k = false := by
  have h1 := of_decide_eq_false h
  cases e : sLd i0 g i k with
  | false => rfl
  | true =>
    unfold sLd isLand at e
    rw [Bool.and_eq_true, Bool.and_eq_true] at e
    have a := Nat.le_of_ble_eq_true e.1.1
    have b := Nat.le_of_ble_eq_true e.1.2
    have c := Nat.eq_of_beq_eq_true e.2
    omega
theorem TX_R {i : Nat} {M M' : Mem} (h : TX M tx N) (fr : Fr (sR i) M M') : TX M' tx N := ⟨h.1, (fr 1 0 2 (decide_eq_false (by omega))).trans h.2.1, fun j hj => ⟨(fr 2 0 j (decide_eq_false (by omega))).trans (h.2.2 j hj).1, (h.2.2 j hj).2⟩⟩
theorem sLd_R {i0 g0 : Nat} (h0 : isLand g0 = true) (g i k : Nat) (h : sLd i0 g i k = false) : sRow g0 i0 g i k = false := by
  cases e : sRow g0 i0 g i k with
  | false => rfl
  | true =>
    unfold sRow at e
    rw [Bool.and_eq_true] at e
    unfold sLd at h
    rw [Nat.eq_of_beq_eq_true e.1, h0, e.2] at h
    cases h
theorem x1_clear {D : Nat} (hD : 3 ≤ D) (i : Nat) (M : Mem) : isV (EX L xs (D) q_X1_clear [.inr (.inr (3, i))] M O) O (fun M' => Fr (sLd i) M M' ∧ Z0 (fun g k => M' g i k)) := by
  obtain ⟨d, rfl⟩ : ∃ d, D = d + 2 := ⟨D - 2, by omega⟩
  refine isV_e (EX_in mi_X1_clear rfl rfl rfl (ls := [some (.inr (.inr (3, i)))]) rfl) ?_
  obtain ⟨M1, q1, f1, r1⟩ := x_fill2 L xs O (D := d + 1) (by omega) i 0 (mput M 3 i 0 20)
  obtain ⟨M2, q2, f2, r2⟩ := x_fill3 L xs O (D := d + 1) (by omega) i 0 M1
  obtain ⟨M3, q3, f3, r3⟩ := x_fill4 L xs O (D := d + 1) (by omega) i 0 M2
  obtain ⟨M4, q4, f4, r4⟩ := x_fill5 L xs O (D := d + 1) (by omega) i (-1) M3
  rw [e_X1_clear_0, q1]
  simp only [xr_n, Nat.reduceAdd, Nat.add_zero]
  rw [e_X1_clear_14, q2]
  simp only [xr_n, Nat.reduceAdd, Nat.add_zero]
  rw [e_X1_clear_22, q3]
  simp only [xr_n, Nat.reduceAdd, Nat.add_zero]
  rw [e_X1_clear_30, q4]
  simp only [xr_n, Nat.reduceAdd, Nat.add_zero]
  rw [e_X1_clear_38]
  have fr : Fr (sLd i) M M4 := Fr_trans (Fr_trans (Fr_trans (Fr_trans (Fr_put Fr_refl (sLd_s rfl)) (Fr_mono (sLd_R rfl) f1)) (Fr_mono (sLd_R rfl) f2)) (Fr_mono (sLd_R rfl) f3)) (Fr_mono (sLd_R rfl) f4)
  refine isV_i ⟨Fr_put (Fr_put (Fr_put fr (sLd_s rfl)) (sLd_s rfl)) (sLd_s rfl), ?_, ?_, ?_, mp_s, fun j hj => ⟨?_, ?_, ?_⟩, fun h hh => ?_⟩ <;> dsimp only
  · rw [mp_k (by omega), mp_k (by omega), mp_k (by omega), f4 3 i 0 (sRow_g (by omega)), f3 3 i 0 (sRow_g (by omega)), f2 3 i 0 (sRow_g (by omega)), f1 3 i 0 (sRow_g (by omega)), mp_s]
    rfl
  · rw [mp_k (by omega), mp_k (by omega), mp_s]
    rfl
  · rw [mp_k (by omega), mp_s]
    rfl
  · rw [mp_g (by omega), mp_g (by omega), mp_g (by omega), f4 4 i j (sRow_g (by omega)), f3 4 i j (sRow_g (by omega)), f2 4 i j (sRow_g (by omega)), r1 j hj]
    rfl
  · rw [mp_g (by omega), mp_g (by omega), mp_g (by omega), f4 5 i j (sRow_g (by omega)), f3 5 i j (sRow_g (by omega)), r2 j hj]
    rfl
  · rw [mp_g (by omega), mp_g (by omega), mp_g (by omega), f4 6 i j (sRow_g (by omega)), r3 j hj]
    rfl
  · rw [mp_g (by omega), mp_g (by omega), mp_g (by omega), r4 h hh]
theorem x1_read {D : Nat} (hD : 8 ≤ D) (i : Nat) (M : Mem) (hX : TX M tx N) (hT : TP M N 0 (.inl 0)) : isV (EX L xs (D) q_X1_read [.inr (.inr (3, i)), .inr (.inr (1, 0))] M O) O (fun M' => ∃ U0, Z0 U0 ∧ Fr (sR i) M M' ∧ TP M' N 1 (rd tx N U0 61).2 ∧ CL M' i (rd tx N U0 61).1) := by
  obtain ⟨d, rfl⟩ : ∃ d, D = d + 2 := ⟨D - 2, by omega⟩
  refine isV_e (EX_in mi_X1_read rfl rfl rfl (ls := [some (.inr (.inr (3, i))), some (.inr (.inr (1, 0))), none]) rfl) ?_
  obtain ⟨M1, q1, f1, z1⟩ := x1_clear L xs O (D := d + 1) (by omega) i M
  generalize hU0 : (fun g k => M1 g i k : Vw) = U0 at *
  have hL1 : CL M1 i U0 := by
    rw [← hU0]
    exact fun g k _ => rfl
  have g1 : Fr (sR i) M M1 := Fr_mono sR_L f1
  have hX1 : TX M1 tx N := TX_R hX g1
  have hT1 : TP M1 N 1 (.inl 0) := TP_1 hT (fun k => f1 1 0 k rfl)
  rw [e_X1_read_0, q1]
  simp only [xr_n, Nat.reduceAdd, Nat.add_zero]
  rw [e_X1_read_4]
  refine loopA L xs O (P := fun r => isV r O _) (fun c ls M' => ls = [some (.inr (.inr (3, i))), some (.inr (.inr (1, 0))), some (.inl (nI c))] ∧ Fr (sR i) M M' ∧ TP M' N 1 (rd tx N U0 c).2 ∧ CL M' i (rd tx N U0 c).1) 61 300 (by omega) ?_ ?_ (Nat.le_of_lt (FU (by omega))) ⟨rfl, g1, hT1, hL1⟩
  · rintro f k c _ M' hj ⟨rfl, fr, hT', hL'⟩ ih
    have hX' := TX_R hX fr
    have hin := rd_in (tx := tx) (N := N) z1 c
    have eS : rd tx N U0 (c + 1) = rdS tx N c (rd tx N U0 c) := rfl
    obtain ⟨M2, q2, f2, t2⟩ := x5_hasMore L xs O (D := d + 1) (by omega) _ M' hX' hT'
    have fr2 : Fr (sR i) M M2 := Fr_trans fr (Fr_mono sR_T f2)
    have hL2 : CL M2 i (rd tx N U0 c).1 := CL_fr hL' f2 (fun g k h => sT_ld h)
    rw [e_X1_read_6, if_neg (by rw [ylt_60 (by omega)]; omega), q2]
    simp only [xr_v, Nat.reduceAdd, Nat.add_zero]
    rw [e_X1_read_16]
    generalize hst : rd tx N U0 c = st at *
    obtain ⟨U, ts⟩ := st
    cases ts with
    | inr e =>
      rw [if_pos rfl, e_X1_read_31]
      refine isV_i ⟨U0, z1, fr2, ?_⟩
      have := rd_E (tx := tx) (N := N) (U0 := U0) (c := c) (by rw [hst]; rfl) (61 - c)
      rw [show c + (61 - c) = 61 by omega, hst] at this
      rw [this]
      exact ⟨t2, hL2⟩
    | inl p =>
      dsimp only at t2 hL2 hin ⊢
      unfold rdS at eS
      dsimp only at eS
      by_cases c1 : scn tx N isB p < N
      · rw [if_pos c1] at eS
        rw [if_neg (show ¬ b2i (decide (scn tx N isB p < N)) = 0 by rw [decide_eq_true c1]; decide)]
        obtain ⟨M3, q3, f3, t3, l3⟩ := x1_readClause L xs O (D := d + 1) (by omega) i c (by omega) hin.1 _ M2 (TX_fr hX' f2) t2 hL2
        rw [q3]
        simp only [xr_n, Nat.reduceAdd, Nat.add_zero]
        rw [e_X1_read_25, zadd_1]
        refine ih _ _ ⟨rfl, Fr_trans fr2 f3, ?_⟩
        rw [eS]
        exact ⟨t3, l3⟩
      · rw [if_neg c1] at eS
        rw [if_pos (show b2i (decide (scn tx N isB p < N)) = 0 by rw [decide_eq_false c1]; decide), e_X1_read_31]
        refine isV_i ⟨U0, z1, fr2, ?_⟩
        have := rd_E (tx := tx) (N := N) (U0 := U0) (c := c + 1) (by rw [eS]; exact decide_eq_true ⟨scn_id p, c1⟩) (60 - c)
        rw [show c + 1 + (60 - c) = 61 by omega, eS] at this
        rw [this]
        exact ⟨t2, hL2⟩
  · rintro f k _ M' ⟨rfl, fr, hT', hL'⟩
    rw [e_X1_read_6, if_pos (by decide), e_X1_read_31]
    exact isV_i ⟨U0, z1, fr, hT', hL'⟩
end
