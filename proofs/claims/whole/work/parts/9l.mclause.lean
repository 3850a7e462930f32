/-! A LAND's clauses: the reference reads them. -/
def MRx (M : Mem) (U : Vw) (n nh ns nw : Nat) : Prop := M 43 0 0 = nI n ∧ M 43 0 1 = nI nh ∧ M 43 0 2 = nI ns ∧ M 43 0 3 = nI nw ∧ (∀ j, j < 40 → M 45 0 j = U 4 j ∧ M 46 0 j = U 5 j ∧ M 47 0 j = U 6 j) ∧ (∀ h, h < 24 → M 48 0 h = U 9 h) ∧ (∀ k, k < nh → M 54 k 0 = U 7 k ∧ M 54 k 1 = U 8 k) ∧ (∀ s, s < ns → M 58 s 0 = U 10 s ∧ M 58 s 1 = U 11 s ∧ M 58 s 2 = U 12 s ∧ M 58 s 3 = U 13 s) ∧ (∀ w, w < nw → M 62 w 0 = U 14 w - 3 ∧ M 62 w 1 = U 15 w ∧ M 62 w 2 = U 16 w ∧ M 62 w 3 = U 17 w)
def sB (g _i k : Nat) : Bool := decide ((g = 40 ∧ (k = 4 ∨ k = 5 ∨ k = 6 ∨ k = 7)) ∨ g = 43 ∨ (45 ≤ g ∧ g ≤ 48) ∨ g = 54 ∨ g = 58 ∨ g = 62)
theorem sB_M {g i k : Nat} (h : sB g i k = false) : sM g i k = false := by
  have := of_decide_eq_false h
  exact decide_eq_false (by omega)
theorem sB_4 {g i k : Nat} (h : sB g i k = false) : sM4 g i k = false := sM_4 (sB_M h)
theorem MRx_fr {M M' : Mem} {U : Vw} {n nh ns nw : Nat} (h : MRx M U n nh ns nw) (fr : Fr sM M M') : MRx M' U n nh ns nw := by
  have e : ∀ g i k, g ≠ 40 → M' g i k = M g i k := fun g i k hg => fr g i k (decide_eq_false (by omega))
  obtain ⟨h0, h1, h2, h3, h4, h5, h6, h7, h8⟩ := h
  refine ⟨(e _ _ _ (by omega)).trans h0, (e _ _ _ (by omega)).trans h1, (e _ _ _ (by omega)).trans h2, (e _ _ _ (by omega)).trans h3, fun j hj => ?_, fun j hj => (e _ _ _ (by omega)).trans (h5 j hj), fun k hk => ?_, fun s hs => ?_, fun w hw => ?_⟩
  · rw [e 45 0 j (by omega), e 46 0 j (by omega), e 47 0 j (by omega)]
    exact h4 j hj
  · rw [e 54 k 0 (by omega), e 54 k 1 (by omega)]
    exact h6 k hk
  · rw [e 58 s 0 (by omega), e 58 s 1 (by omega), e 58 s 2 (by omega), e 58 s 3 (by omega)]
    exact h7 s hs
  · rw [e 62 w 0 (by omega), e 62 w 1 (by omega), e 62 w 2 (by omega), e 62 w 3 (by omega)]
    exact h8 w hw
theorem MX_B {M M' : Mem} {tx : Nat → Nat} {N : Nat} (h : MX M tx N) (fr : Fr sB M M') : MX M' tx N := ⟨h.1, (fr 40 0 2 rfl).trans h.2.1, fun i hi => ⟨(fr 41 0 i rfl).trans (h.2.2 i hi).1, (h.2.2 i hi).2⟩⟩
theorem MPT_e {M M' : Mem} {N : Nat} {ts : TS} (h : MPT M N ts) (e : ∀ k, 4 ≤ k → k ≤ 6 → M' 40 0 k = M 40 0 k) : MPT M' N ts := by
  cases ts with
  | inl p => exact ⟨h.1, (e 4 (by omega) (by omega)).trans h.2.1, (e 5 (by omega) (by omega)).trans h.2.2.1, (e 6 (by omega) (by omega)).trans h.2.2.2⟩
  | inr x =>
    obtain ⟨⟨p, h0, h1⟩, h2, h3, h4, h5⟩ := id h
    exact ⟨⟨p, h0, (e 4 (by omega) (by omega)).trans h1⟩, h2, h3, (e 5 (by omega) (by omega)).trans h4, (e 6 (by omega) (by omega)).trans h5⟩
def sN6 (g _i k : Nat) : Bool := decide ((g = 40 ∧ (k = 4 ∨ k = 5 ∨ k = 6)) ∨ g = 43 ∨ (45 ≤ g ∧ g ≤ 48) ∨ g = 54 ∨ g = 58 ∨ g = 62)
theorem sN6_M (g i k : Nat) (h : sN6 g i k = false) : sM g i k = false := by
  have := of_decide_eq_false h
  exact decide_eq_false (by omega)
theorem sB_6 (g i k : Nat) (h : sB g i k = false) : sN6 g i k = false := by
  have := of_decide_eq_false h
  exact decide_eq_false (by omega)
theorem MRx_eq {M : Mem} {U V : Vw} {n nh ns nw : Nat} (h : MRx M U n nh ns nw) (e : ∀ g k, U g k = V g k) : MRx M V n nh ns nw := by
  have : U = V := funext fun g => funext fun k => e g k
  rw [← this]
  exact h
theorem MRx_g {M : Mem} {U : Vw} {n nh ns nw a : Nat} {x y : Int32} (h : MRx M U n nh ns nw) : MRx (mput (mput M 45 0 a x) 46 0 a y) (vput (vput U 4 a x) 5 a y) n nh ns nw := by
  obtain ⟨h0, h1, h2, h3, h4, h5, h6, h7, h8⟩ := h
  refine ⟨h0, h1, h2, h3, fun j hj => ⟨?_, ?_, ?_⟩, h5, h6, h7, h8⟩
  · rw [mp_g (by omega), vp_g (by omega)]
    by_cases c : j = a
    · rw [c, mp_s, vp_s]
    · rw [mp_k c, vp_k c]
      exact (h4 j hj).1
  · by_cases c : j = a
    · rw [c, mp_s, vp_s]
    · rw [mp_k c, vp_k c, mp_g (by omega), vp_g (by omega)]
      exact (h4 j hj).2.1
  · exact (h4 j hj).2.2
def sW (w0 g i k : Nat) : Bool := decide ((g = 40 ∧ (k = 4 ∨ k = 5 ∨ k = 6)) ∨ (g = 43 ∧ k = 3) ∨ (g = 62 ∧ i = w0))
theorem sW_M {w0 : Nat} (g i k : Nat) (h : sW w0 g i k = false) : sM g i k = false := by
  have := of_decide_eq_false h
  exact decide_eq_false (by omega)
theorem sW_6 {w0 : Nat} (g i k : Nat) (h : sN6 g i k = false) : sW w0 g i k = false := by
  have := of_decide_eq_false h
  exact decide_eq_false (by omega)
theorem sW_s {w0 k : Nat} : sW w0 62 w0 k = true := decide_eq_true (by omega)
theorem sW_3 {w0 : Nat} : sW w0 43 0 3 = true := decide_eq_true (by omega)
theorem MX_W {M M' : Mem} {tx : Nat → Nat} {N w : Nat} (h : MX M tx N) (fr : Fr (sW w) M M') : MX M' tx N := ⟨h.1, (fr 40 0 2 (decide_eq_false (by omega))).trans h.2.1, fun i hi => ⟨(fr 41 0 i (decide_eq_false (by omega))).trans (h.2.2 i hi).1, (h.2.2 i hi).2⟩⟩
section
variable (L : Nat) (xs : Nat → Int32) (O : Int64) {tx : Nat → Nat} {N : Nat}
theorem x7_isFull {D : Nat} (hD : 3 ≤ D) {U : Vw} (hU : RK U) (K : Nat) (hK : K < 10) (M : Mem) (hR : MRx M U (vN U 3 0) (vN U 3 4) (vN U 3 8) (vN U 3 13)) : EX L xs (D) q_X7_isFull [.inr (.inr (40, 0)), .inl (nI (mkK K))] M O = (some (.inl (some (.inl (b2i (fullB U K)))), M, O, 0, 0) : Res) := by
  obtain ⟨d, rfl⟩ : ∃ d, D = d + 2 := ⟨D - 2, by omega⟩
  refine (EX_in mi_X7_isFull rfl rfl rfl (ls := [some (.inr (.inr (40, 0))), some (.inl (nI (mkK K)))]) rfl).trans ?_
  obtain ⟨⟨v0, v1, v2, v3, v4, v5, v6, v7, v8, -⟩, -⟩ := hU
  obtain ⟨h0, h1, h2, h3, -⟩ := hR
  unfold fullB
  have fin : ∀ (b : Bool) k, BK L xs (EX L xs (d + 1)) mi_X7_isFull (RN L xs (d) mi_X7_isFull FUEL) (k + 20) 74 [some (.inr (.inr (40, 0))), some (.inl (nI (mkK K)))] [.inl (b2i b)] M O none 0 0 = (some (.inl (some (.inl (b2i b))), M, O, 0, 0) : Res) := fun b k => by
    rw [e_X7_isFull_74, if_pos (by cases b <;> decide)]
  rw [e_X7_isFull_0]
  by_cases c3 : K = 3
  · subst c3
    rw [if_pos (by decide), h1]
    by_cases c : 8 ≤ vN U 3 4
    · rw [if_pos (by rw [zeq_8 (by omega)]; omega), decide_eq_true (by omega)]
      exact fin true _
    · rw [if_neg (by rw [zeq_8 (by omega)]; omega), decide_eq_false (by omega)]
      exact fin false _
  by_cases c5 : K = 5
  · subst c5
    rw [if_neg (by decide), if_pos (by decide), h2]
    by_cases c : 6 ≤ vN U 3 8
    · rw [if_pos (by rw [zeq_6 (by omega)]; omega), decide_eq_true (by omega)]
      exact fin true _
    · rw [if_neg (by rw [zeq_6 (by omega)]; omega), decide_eq_false (by omega)]
      exact fin false _
  have hm : ∀ K, K < 10 → K ≠ 3 → K ≠ 5 → ¬ nI (mkK K) = 1 ∧ ¬ nI (mkK K) = 2 ∧ (b2i (decide (6 ≤ K)) = b2i (decide (3 ≤ mkK K ∧ mkK K ≤ 6))) ∧ mkK K < 10 := by decide +kernel
  obtain ⟨n1, n2, n3, n4⟩ := hm K hK c3 c5
  have hin : (if nI (mkK K) < 3 then (0 : Int32) else if 6 < nI (mkK K) then 0 else 1) = b2i (decide (6 ≤ K)) := by
    rw [n3]
    by_cases a : mkK K < 3
    · rw [if_pos (by rw [zlt_3 (by omega)]; exact a), decide_eq_false (by omega)]
      rfl
    · rw [if_neg (by rw [zlt_3 (by omega)]; exact a)]
      by_cases b : 6 < mkK K
      · rw [if_pos (by rw [ylt_6 (by omega)]; exact b), decide_eq_false (by omega)]
        rfl
      · rw [if_neg (by rw [ylt_6 (by omega)]; exact b), decide_eq_true (by omega)]
        rfl
  rw [if_neg n1, if_neg n2, x7_in L xs O (D := d + 1) (by omega), hin]
  simp only [xr_v, Nat.reduceAdd, Nat.add_zero]
  rw [e_X7_isFull_55]
  by_cases c6 : 6 ≤ K
  · rw [decide_eq_true c6, b2i_t, if_neg (by decide), h3]
    by_cases c : 8 ≤ vN U 3 13
    · rw [if_pos (by rw [zeq_8 (by omega)]; omega), decide_eq_true (by omega)]
      exact fin true _
    · rw [if_neg (by rw [zeq_8 (by omega)]; omega), e_X7_isFull_73, decide_eq_false (by omega)]
      exact fin false _
  · rw [decide_eq_false c6, b2i_f, if_pos rfl, e_X7_isFull_73, decide_eq_false (by omega)]
    exact fin false _
theorem x7_readsGround {D : Nat} (hD : 6 ≤ D) {U : Vw} {n nh ns nw : Nat} (hn40 : n ≤ 40) (ts : TS) (M : Mem) (hX : MX M tx N) (hT : MPT M N ts) (hR : MRx M U n nh ns nw) : isV (EX L xs (D) q_X7_readsGround [.inr (.inr (40, 0)), .inl ((nI n - 1))] M O) O (fun M' => Fr sN6 M M' ∧ MPT M' N (nb tx N (nb tx N (nb tx N (nb tx N ts 0 (nI n - 1)) (nv tx N ts) (nI n - 1)) 0 3) 0 9) ∧ ((nb tx N (nb tx N (nb tx N (nb tx N ts 0 (nI n - 1)) (nv tx N ts) (nI n - 1)) 0 3) 0 9).isLeft = true → MRx M' (vgr U (nvN tx N ts) ((nvN tx N (nb tx N ts 0 (nI n - 1))) + 1) (nI (nvN tx N (nb tx N (nb tx N ts 0 (nI n - 1)) (nv tx N ts) (nI n - 1)))) (nI (nvN tx N (nb tx N (nb tx N (nb tx N ts 0 (nI n - 1)) (nv tx N ts) (nI n - 1)) 0 3)))) n nh ns nw)) := by
  obtain ⟨d, rfl⟩ : ∃ d, D = d + 2 := ⟨D - 2, by omega⟩
  refine isV_e (EX_in mi_X7_readsGround rfl rfl rfl (ls := [some (.inr (.inr (40, 0))), some (.inl ((nI n - 1))), none, none, none, none, none]) rfl) ?_
  have hi40 := hi_m1 n (by omega)
  obtain ⟨M1, q1, f1, t1⟩ := x7_number L xs O (D := d + 1) (by omega) ts 0 (nI n - 1) (hi_lt (by omega)) M hX hT
  have hX1 := MX_fr hX f1
  have g1 : Fr sM M M1 := f1
  rw [e_X7_readsGround_0, q1]
  simp only [xr_v, Nat.reduceAdd, Nat.add_zero]
  obtain ⟨M2, q2, f2, t2⟩ := x7_number L xs O (D := d + 1) (by omega) (nb tx N ts 0 (nI n - 1)) (nvM tx N ts 0 (nI n - 1)) (nI n - 1) (hi_lt (by omega)) M1 hX1 t1
  rw [nb_M] at t2
  have hX2 := MX_fr hX1 f2
  have g2 : Fr sM M M2 := Fr_trans g1 f2
  rw [e_X7_readsGround_6, q2]
  simp only [xr_v, Nat.reduceAdd, Nat.add_zero]
  obtain ⟨M3, q3, f3, t3⟩ := x7_number L xs O (D := d + 1) (by omega) (nb tx N (nb tx N ts 0 (nI n - 1)) (nv tx N ts) (nI n - 1)) 0 3 (by decide) M2 hX2 t2
  have hX3 := MX_fr hX2 f3
  have g3 : Fr sM M M3 := Fr_trans g2 f3
  rw [e_X7_readsGround_13, q3]
  simp only [xr_v, Nat.reduceAdd, Nat.add_zero]
  obtain ⟨M4, q4, f4, t4⟩ := x7_number L xs O (D := d + 1) (by omega) (nb tx N (nb tx N (nb tx N ts 0 (nI n - 1)) (nv tx N ts) (nI n - 1)) 0 3) 0 9 (by decide) M3 hX3 t3
  have hX4 := MX_fr hX3 f4
  have g4 : Fr sM M M4 := Fr_trans g3 f4
  rw [e_X7_readsGround_20, q4]
  simp only [xr_v, Nat.reduceAdd, Nat.add_zero]
  rw [e_X7_readsGround_29]
  by_cases l4 : (nb tx N (nb tx N (nb tx N (nb tx N ts 0 (nI n - 1)) (nv tx N ts) (nI n - 1)) 0 3) 0 9).isLeft = true
  · have l3 := nb_ll l4
    have l2 := nb_ll l3
    have l1 := nb_ll l2
    have y1 : nvM tx N ts 0 (nI n - 1) = nI (nvN tx N ts) := nvM_l l1
    have y2 : nvM tx N (nb tx N ts 0 (nI n - 1)) (nI (nvN tx N ts)) (nI n - 1) = nI (nvN tx N (nb tx N ts 0 (nI n - 1))) := by
      rw [← nv_N (ts := ts)]
      exact nvM_l l2
    have y3 : nvM tx N (nb tx N (nb tx N ts 0 (nI n - 1)) (nv tx N ts) (nI n - 1)) 0 3 = nI (nvN tx N (nb tx N (nb tx N ts 0 (nI n - 1)) (nv tx N ts) (nI n - 1))) := nvM_l l3
    have y4 : nvM tx N (nb tx N (nb tx N (nb tx N ts 0 (nI n - 1)) (nv tx N ts) (nI n - 1)) 0 3) 0 9 = nI (nvN tx N (nb tx N (nb tx N (nb tx N ts 0 (nI n - 1)) (nv tx N ts) (nI n - 1)) 0 3)) := nvM_l l4
    obtain ⟨a1, b1⟩ := nb_in (hi_lt (by omega)) l1
    obtain ⟨a2, b2⟩ := nb_in (hi_lt (by omega)) l2
    rw [nv_N, hl_toInt (by omega)] at a2
    have h5 : M4 40 0 5 = 0 := by
      cases e : (nb tx N (nb tx N (nb tx N (nb tx N ts 0 (nI n - 1)) (nv tx N ts) (nI n - 1)) 0 3) 0 9) with
      | inl q =>
        rw [e] at t4
        exact t4.2.2.1
      | inr x =>
        rw [e] at l4
        cases l4
    rw [y1, y2, y3, y4]
    have hR4 := MRx_fr hR g4
    refine loopA L xs O (P := fun r => isV r O _) (fun j ls M' => ls = [some (.inr (.inr (40, 0))), some (.inl ((nI n - 1))), some (.inl (nI (nvN tx N ts))), some (.inl (nI (nvN tx N (nb tx N ts 0 (nI n - 1))))), some (.inl (nI (nvN tx N (nb tx N (nb tx N ts 0 (nI n - 1)) (nv tx N ts) (nI n - 1))))), some (.inl (nI (nvN tx N (nb tx N (nb tx N (nb tx N ts 0 (nI n - 1)) (nv tx N ts) (nI n - 1)) 0 3)))), some (.inl (nI ((nvN tx N ts) + j)))] ∧ Fr sN6 M M' ∧ (∀ k, M' 40 0 k = M4 40 0 k) ∧ MRx M' (vgr U (nvN tx N ts) ((nvN tx N ts) + j) (nI (nvN tx N (nb tx N (nb tx N ts 0 (nI n - 1)) (nv tx N ts) (nI n - 1)))) (nI (nvN tx N (nb tx N (nb tx N (nb tx N ts 0 (nI n - 1)) (nv tx N ts) (nI n - 1)) 0 3)))) n nh ns nw) ((nvN tx N (nb tx N ts 0 (nI n - 1))) + 1 - (nvN tx N ts)) 100 (by omega) ?_ ?_ (Nat.le_of_lt (FU (by omega))) ⟨rfl, Fr_mono sN6_M g4, fun _ => rfl, MRx_eq hR4 (fun g k => (vgr_0 (by omega)).symm)⟩
    · rintro f k j _ M' hj ⟨rfl, fr, he, hl⟩ ih
      rw [e_X7_readsGround_34, if_neg (by rw [hl_lt (by omega) (by omega)]; omega), if_pos ((he 5).trans h5), if_pos (in_40 (by omega)), if_pos (in_40 (by omega)), hl_cl (by omega), zadd_1]
      refine ih _ _ ⟨rfl, Fr_put (Fr_put fr rfl) rfl, fun k => he k, ?_⟩
      exact MRx_eq (MRx_g hl) (fun g k => vgr_s)
    · rintro f k _ M' ⟨rfl, fr, he, hl⟩
      rw [e_X7_readsGround_34, if_pos (by rw [hl_lt (by omega) (by omega)]; omega), e_X7_readsGround_71]
      refine isV_i ⟨fr, MPT_e t4 (fun k _ _ => he k), fun _ => ?_⟩
      rw [show (nvN tx N ts) + ((nvN tx N (nb tx N ts 0 (nI n - 1))) + 1 - (nvN tx N ts)) = (nvN tx N (nb tx N ts 0 (nI n - 1))) + 1 by omega] at hl
      exact hl
  · have h5 : ¬ M4 40 0 5 = 0 := by
      cases e : (nb tx N (nb tx N (nb tx N (nb tx N ts 0 (nI n - 1)) (nv tx N ts) (nI n - 1)) 0 3) 0 9) with
      | inr x =>
        rw [e] at t4
        exact MPT_5 t4
      | inl q =>
        rw [e] at l4
        exact absurd rfl l4
    have fin : isV (some (.inl none, M4, O, 0, 0)) O (fun M' => Fr sN6 M M' ∧ MPT M' N (nb tx N (nb tx N (nb tx N (nb tx N ts 0 (nI n - 1)) (nv tx N ts) (nI n - 1)) 0 3) 0 9) ∧ ((nb tx N (nb tx N (nb tx N (nb tx N ts 0 (nI n - 1)) (nv tx N ts) (nI n - 1)) 0 3) 0 9).isLeft = true → MRx M' (vgr U (nvN tx N ts) ((nvN tx N (nb tx N ts 0 (nI n - 1))) + 1) (nI (nvN tx N (nb tx N (nb tx N ts 0 (nI n - 1)) (nv tx N ts) (nI n - 1)))) (nI (nvN tx N (nb tx N (nb tx N (nb tx N ts 0 (nI n - 1)) (nv tx N ts) (nI n - 1)) 0 3)))) n nh ns nw)) := isV_i ⟨Fr_mono sN6_M g4, t4, fun e => absurd e l4⟩
    rw [e_X7_readsGround_34]
    split
    · rw [e_X7_readsGround_71]
      exact fin
    · rw [e_X7_readsGround_71]
      exact fin
theorem x7_readsWork6 {D : Nat} (hD : 6 ≤ D) {n : Nat} (hn40 : n ≤ 40) {nw : Nat} (hnw8 : nw < 8) (ts : TS) (M : Mem) (hX : MX M tx N) (hT : MPT M N ts)  (hnw : M 43 0 3 = nI nw) : isV (EX L xs (D) q_X7_readsWork [.inr (.inr (40, 0)), .inl (3), .inl ((nI n - 1))] M O) O (fun M' => Fr (sW nw) M M' ∧ MPT M' N (nb tx N (nb tx N (nb tx N ts 0 (nI n - 1)) 1 9) 1 99) ∧ M' 43 0 3 = nI (nw + 1) ∧ ((nb tx N (nb tx N (nb tx N ts 0 (nI n - 1)) 1 9) 1 99).isLeft = true → M' 62 nw 0 = 3 ∧ M' 62 nw 1 = nI (nvN tx N ts) ∧ M' 62 nw 2 = nI (nvN tx N (nb tx N ts 0 (nI n - 1))) ∧ M' 62 nw 3 = nI (nvN tx N (nb tx N (nb tx N ts 0 (nI n - 1)) 1 9)))) := by
  obtain ⟨d, rfl⟩ : ∃ d, D = d + 2 := ⟨D - 2, by omega⟩
  refine isV_e (EX_in mi_X7_readsWork rfl rfl rfl (ls := [some (.inr (.inr (40, 0))), some (.inl (3)), some (.inl ((nI n - 1))), none]) rfl) ?_
  have n1 : (1 : Int32).toNatClampNeg = 1 := by decide
  have n2 : (2 : Int32).toNatClampNeg = 2 := by decide
  have n3 : (3 : Int32).toNatClampNeg = 3 := by decide
  have k0 : Fr (sW nw) M (mput M 62 nw 0 3) := Fr_put Fr_refl sW_s
  obtain ⟨M1, q1, f1, t1⟩ := x7_number L xs O (D := d + 1) (by omega) ts 0 (nI n - 1) (hi_lt (by omega)) (mput M 62 nw 0 3) (MX_W hX k0) (MPT_e hT (fun k _ _ => rfl))
  have k1 : Fr (sW nw) M (mput M1 62 nw 1 (nvM tx N ts 0 (nI n - 1))) := Fr_put (Fr_trans k0 (Fr_mono sW_M f1)) sW_s
  obtain ⟨M2, q2, f2, t2⟩ := x7_number L xs O (D := d + 1) (by omega) (nb tx N ts 0 (nI n - 1)) 1 9 (by decide) _ (MX_W hX k1) (MPT_e t1 (fun k _ _ => rfl))

  have k2 : Fr (sW nw) M (mput M2 62 nw 2 (nvM tx N (nb tx N ts 0 (nI n - 1)) 1 9)) := Fr_put (Fr_trans k1 (Fr_mono sW_M f2)) sW_s
  obtain ⟨M3, q3, f3, t3⟩ := x7_number L xs O (D := d + 1) (by omega) (nb tx N (nb tx N ts 0 (nI n - 1)) 1 9) 1 99 (by decide) _ (MX_W hX k2) (MPT_e t2 (fun k _ _ => rfl))
  have e3 : M3 43 0 3 = nI nw := (f3 43 0 3 rfl).trans ((f2 43 0 3 rfl).trans ((f1 43 0 3 rfl).trans hnw))
  rw [e_X7_readsWork_0, hnw, if_pos (in_8 hnw8), hl_cl (by omega), Nat.zero_add, if_neg (by decide), e_X7_readsWork_53, q1]
  simp only [xr_v, Nat.reduceAdd, Nat.add_zero]
  rw [e_X7_readsWork_56, if_pos (by decide), n1, if_pos rfl, q2]
  simp only [xr_v, Nat.reduceAdd, Nat.add_zero]
  rw [e_X7_readsWork_71, e_X7_readsWork_107, if_pos (by decide), n2, q3]
  simp only [xr_v, Nat.reduceAdd, Nat.add_zero]
  rw [e_X7_readsWork_117, if_pos (by decide), n3, e3, zadd_1]
  refine isV_i ⟨Fr_put (Fr_put (Fr_trans k2 (Fr_mono sW_M f3)) sW_s) sW_3, MPT_e t3 (fun k _ _ => rfl), mp_s, fun l3 => ?_⟩
  have l2 := nb_ll l3
  have l1 := nb_ll l2
  have y1 : nvM tx N ts 0 (nI n - 1) = nI (nvN tx N ts) := nvM_l l1
  have y2 : nvM tx N (nb tx N ts 0 (nI n - 1)) 1 9 = nI (nvN tx N (nb tx N ts 0 (nI n - 1))) := nvM_l l2
  have y3 : nvM tx N (nb tx N (nb tx N ts 0 (nI n - 1)) 1 9) 1 99 = nI (nvN tx N (nb tx N (nb tx N ts 0 (nI n - 1)) 1 9)) := nvM_l l3
  refine ⟨?_, ?_, ?_, ?_⟩
  · rw [mp_g (by omega), mp_k (by omega), f3 62 nw 0 rfl, mp_k (by omega), f2 62 nw 0 rfl, mp_k (by omega), f1 62 nw 0 rfl, mp_s]
  · rw [mp_g (by omega), mp_k (by omega), f3 62 nw 1 rfl, mp_k (by omega), f2 62 nw 1 rfl, mp_s, y1]
  · rw [mp_g (by omega), mp_k (by omega), f3 62 nw 2 rfl, mp_s, y2]
  · rw [mp_g (by omega), mp_s, y3]
theorem x7_readsWork7 {D : Nat} (hD : 6 ≤ D) {n : Nat} (hn40 : n ≤ 40) {nw : Nat} (hnw8 : nw < 8) (ts : TS) (M : Mem) (hX : MX M tx N) (hT : MPT M N ts)  (hnw : M 43 0 3 = nI nw) : isV (EX L xs (D) q_X7_readsWork [.inr (.inr (40, 0)), .inl (4), .inl ((nI n - 1))] M O) O (fun M' => Fr (sW nw) M M' ∧ MPT M' N (nb tx N (nb tx N (nb tx N ts 0 (nI n - 1)) (nv tx N ts) (nI n - 1)) 1 99) ∧ M' 43 0 3 = nI (nw + 1) ∧ ((nb tx N (nb tx N (nb tx N ts 0 (nI n - 1)) (nv tx N ts) (nI n - 1)) 1 99).isLeft = true → M' 62 nw 0 = 4 ∧ M' 62 nw 1 = nI (nvN tx N ts) ∧ M' 62 nw 2 = nI (nvN tx N (nb tx N ts 0 (nI n - 1))) ∧ M' 62 nw 3 = nI (nvN tx N (nb tx N (nb tx N ts 0 (nI n - 1)) (nv tx N ts) (nI n - 1))))) := by
  obtain ⟨d, rfl⟩ : ∃ d, D = d + 2 := ⟨D - 2, by omega⟩
  refine isV_e (EX_in mi_X7_readsWork rfl rfl rfl (ls := [some (.inr (.inr (40, 0))), some (.inl (4)), some (.inl ((nI n - 1))), none]) rfl) ?_
  have n1 : (1 : Int32).toNatClampNeg = 1 := by decide
  have n2 : (2 : Int32).toNatClampNeg = 2 := by decide
  have n3 : (3 : Int32).toNatClampNeg = 3 := by decide
  have k0 : Fr (sW nw) M (mput M 62 nw 0 4) := Fr_put Fr_refl sW_s
  obtain ⟨M1, q1, f1, t1⟩ := x7_number L xs O (D := d + 1) (by omega) ts 0 (nI n - 1) (hi_lt (by omega)) (mput M 62 nw 0 4) (MX_W hX k0) (MPT_e hT (fun k _ _ => rfl))
  have k1 : Fr (sW nw) M (mput M1 62 nw 1 (nvM tx N ts 0 (nI n - 1))) := Fr_put (Fr_trans k0 (Fr_mono sW_M f1)) sW_s
  obtain ⟨M2, q2, f2, t2⟩ := x7_number L xs O (D := d + 1) (by omega) (nb tx N ts 0 (nI n - 1)) (nvM tx N ts 0 (nI n - 1)) (nI n - 1) (hi_lt (by omega)) _ (MX_W hX k1) (MPT_e t1 (fun k _ _ => rfl))
  rw [nb_M] at t2
  have k2 : Fr (sW nw) M (mput M2 62 nw 2 (nvM tx N (nb tx N ts 0 (nI n - 1)) (nvM tx N ts 0 (nI n - 1)) (nI n - 1))) := Fr_put (Fr_trans k1 (Fr_mono sW_M f2)) sW_s
  obtain ⟨M3, q3, f3, t3⟩ := x7_number L xs O (D := d + 1) (by omega) (nb tx N (nb tx N ts 0 (nI n - 1)) (nv tx N ts) (nI n - 1)) 1 99 (by decide) _ (MX_W hX k2) (MPT_e t2 (fun k _ _ => rfl))
  have e3 : M3 43 0 3 = nI nw := (f3 43 0 3 rfl).trans ((f2 43 0 3 rfl).trans ((f1 43 0 3 rfl).trans hnw))
  rw [e_X7_readsWork_0, hnw, if_pos (in_8 hnw8), hl_cl (by omega), Nat.zero_add, if_neg (by decide), e_X7_readsWork_53, q1]
  simp only [xr_v, Nat.reduceAdd, Nat.add_zero]
  rw [e_X7_readsWork_56, if_pos (by decide), n1, if_neg (by decide), if_pos rfl, mp_s, q2]
  simp only [xr_v, Nat.reduceAdd, Nat.add_zero]
  rw [e_X7_readsWork_87, e_X7_readsWork_107, if_pos (by decide), n2, q3]
  simp only [xr_v, Nat.reduceAdd, Nat.add_zero]
  rw [e_X7_readsWork_117, if_pos (by decide), n3, e3, zadd_1]
  refine isV_i ⟨Fr_put (Fr_put (Fr_trans k2 (Fr_mono sW_M f3)) sW_s) sW_3, MPT_e t3 (fun k _ _ => rfl), mp_s, fun l3 => ?_⟩
  have l2 := nb_ll l3
  have l1 := nb_ll l2
  have y1 : nvM tx N ts 0 (nI n - 1) = nI (nvN tx N ts) := nvM_l l1
  have y2 : nvM tx N (nb tx N ts 0 (nI n - 1)) (nI (nvN tx N ts)) (nI n - 1) = nI (nvN tx N (nb tx N ts 0 (nI n - 1))) := by
    rw [← nv_N (ts := ts)]
    exact nvM_l l2
  have y3 : nvM tx N (nb tx N (nb tx N ts 0 (nI n - 1)) (nv tx N ts) (nI n - 1)) 1 99 = nI (nvN tx N (nb tx N (nb tx N ts 0 (nI n - 1)) (nv tx N ts) (nI n - 1))) := nvM_l l3
  refine ⟨?_, ?_, ?_, ?_⟩
  · rw [mp_g (by omega), mp_k (by omega), f3 62 nw 0 rfl, mp_k (by omega), f2 62 nw 0 rfl, mp_k (by omega), f1 62 nw 0 rfl, mp_s]
  · rw [mp_g (by omega), mp_k (by omega), f3 62 nw 1 rfl, mp_k (by omega), f2 62 nw 1 rfl, mp_s, y1]
  · rw [mp_g (by omega), mp_k (by omega), f3 62 nw 2 rfl, mp_s, y1, y2]
  · rw [mp_g (by omega), mp_s, y3]
theorem x7_readsWork8 {D : Nat} (hD : 6 ≤ D) {ns : Nat} (hns6 : ns ≤ 6) (a2 : Int32) {nw : Nat} (hnw8 : nw < 8) (ts : TS) (M : Mem) (hX : MX M tx N) (hT : MPT M N ts) (hns : M 43 0 2 = nI ns) (hnw : M 43 0 3 = nI nw) : isV (EX L xs (D) q_X7_readsWork [.inr (.inr (40, 0)), .inl (5), .inl (a2)] M O) O (fun M' => Fr (sW nw) M M' ∧ MPT M' N (nb tx N (nb tx N (nb tx N ts 0 (nI ns - 1)) 1 99) 1 99) ∧ M' 43 0 3 = nI (nw + 1) ∧ ((nb tx N (nb tx N (nb tx N ts 0 (nI ns - 1)) 1 99) 1 99).isLeft = true → M' 62 nw 0 = 5 ∧ M' 62 nw 1 = nI (nvN tx N ts) ∧ M' 62 nw 2 = nI (nvN tx N (nb tx N ts 0 (nI ns - 1))) ∧ M' 62 nw 3 = nI (nvN tx N (nb tx N (nb tx N ts 0 (nI ns - 1)) 1 99)))) := by
  obtain ⟨d, rfl⟩ : ∃ d, D = d + 2 := ⟨D - 2, by omega⟩
  refine isV_e (EX_in mi_X7_readsWork rfl rfl rfl (ls := [some (.inr (.inr (40, 0))), some (.inl (5)), some (.inl (a2)), none]) rfl) ?_
  have n1 : (1 : Int32).toNatClampNeg = 1 := by decide
  have n2 : (2 : Int32).toNatClampNeg = 2 := by decide
  have n3 : (3 : Int32).toNatClampNeg = 3 := by decide
  have k0 : Fr (sW nw) M (mput M 62 nw 0 5) := Fr_put Fr_refl sW_s
  obtain ⟨M1, q1, f1, t1⟩ := x7_number L xs O (D := d + 1) (by omega) ts 0 (nI ns - 1) (hi_lt (by omega)) (mput M 62 nw 0 5) (MX_W hX k0) (MPT_e hT (fun k _ _ => rfl))
  have k1 : Fr (sW nw) M (mput M1 62 nw 1 (nvM tx N ts 0 (nI ns - 1))) := Fr_put (Fr_trans k0 (Fr_mono sW_M f1)) sW_s
  obtain ⟨M2, q2, f2, t2⟩ := x7_number L xs O (D := d + 1) (by omega) (nb tx N ts 0 (nI ns - 1)) 1 99 (by decide) _ (MX_W hX k1) (MPT_e t1 (fun k _ _ => rfl))

  have k2 : Fr (sW nw) M (mput M2 62 nw 2 (nvM tx N (nb tx N ts 0 (nI ns - 1)) 1 99)) := Fr_put (Fr_trans k1 (Fr_mono sW_M f2)) sW_s
  obtain ⟨M3, q3, f3, t3⟩ := x7_number L xs O (D := d + 1) (by omega) (nb tx N (nb tx N ts 0 (nI ns - 1)) 1 99) 1 99 (by decide) _ (MX_W hX k2) (MPT_e t2 (fun k _ _ => rfl))
  have e3 : M3 43 0 3 = nI nw := (f3 43 0 3 rfl).trans ((f2 43 0 3 rfl).trans ((f1 43 0 3 rfl).trans hnw))
  rw [e_X7_readsWork_0, hnw, if_pos (in_8 hnw8), hl_cl (by omega), Nat.zero_add, if_pos (by decide), if_pos rfl, hns, e_X7_readsWork_53, q1]
  simp only [xr_v, Nat.reduceAdd, Nat.add_zero]
  rw [e_X7_readsWork_56, if_pos (by decide), n1, if_neg (by decide), if_neg (by decide), if_pos rfl, e_X7_readsWork_104, q2]
  simp only [xr_v, Nat.reduceAdd, Nat.add_zero]
  rw [e_X7_readsWork_107, if_pos (by decide), n2, q3]
  simp only [xr_v, Nat.reduceAdd, Nat.add_zero]
  rw [e_X7_readsWork_117, if_pos (by decide), n3, e3, zadd_1]
  refine isV_i ⟨Fr_put (Fr_put (Fr_trans k2 (Fr_mono sW_M f3)) sW_s) sW_3, MPT_e t3 (fun k _ _ => rfl), mp_s, fun l3 => ?_⟩
  have l2 := nb_ll l3
  have l1 := nb_ll l2
  have y1 : nvM tx N ts 0 (nI ns - 1) = nI (nvN tx N ts) := nvM_l l1
  have y2 : nvM tx N (nb tx N ts 0 (nI ns - 1)) 1 99 = nI (nvN tx N (nb tx N ts 0 (nI ns - 1))) := nvM_l l2
  have y3 : nvM tx N (nb tx N (nb tx N ts 0 (nI ns - 1)) 1 99) 1 99 = nI (nvN tx N (nb tx N (nb tx N ts 0 (nI ns - 1)) 1 99)) := nvM_l l3
  refine ⟨?_, ?_, ?_, ?_⟩
  · rw [mp_g (by omega), mp_k (by omega), f3 62 nw 0 rfl, mp_k (by omega), f2 62 nw 0 rfl, mp_k (by omega), f1 62 nw 0 rfl, mp_s]
  · rw [mp_g (by omega), mp_k (by omega), f3 62 nw 1 rfl, mp_k (by omega), f2 62 nw 1 rfl, mp_s, y1]
  · rw [mp_g (by omega), mp_k (by omega), f3 62 nw 2 rfl, mp_s, y2]
  · rw [mp_g (by omega), mp_s, y3]
theorem x7_readsWork9 {D : Nat} (hD : 6 ≤ D) {nh : Nat} (hnh8 : nh ≤ 8) (a2 : Int32) {nw : Nat} (hnw8 : nw < 8) (ts : TS) (M : Mem) (hX : MX M tx N) (hT : MPT M N ts) (hnh : M 43 0 1 = nI nh) (hnw : M 43 0 3 = nI nw) : isV (EX L xs (D) q_X7_readsWork [.inr (.inr (40, 0)), .inl (6), .inl (a2)] M O) O (fun M' => Fr (sW nw) M M' ∧ MPT M' N (nb tx N (nb tx N (nb tx N ts 0 (nI nh - 1)) 1 30) 1 99) ∧ M' 43 0 3 = nI (nw + 1) ∧ ((nb tx N (nb tx N (nb tx N ts 0 (nI nh - 1)) 1 30) 1 99).isLeft = true → M' 62 nw 0 = 6 ∧ M' 62 nw 1 = nI (nvN tx N ts) ∧ M' 62 nw 2 = nI (nvN tx N (nb tx N ts 0 (nI nh - 1))) ∧ M' 62 nw 3 = nI (nvN tx N (nb tx N (nb tx N ts 0 (nI nh - 1)) 1 30)))) := by
  obtain ⟨d, rfl⟩ : ∃ d, D = d + 2 := ⟨D - 2, by omega⟩
  refine isV_e (EX_in mi_X7_readsWork rfl rfl rfl (ls := [some (.inr (.inr (40, 0))), some (.inl (6)), some (.inl (a2)), none]) rfl) ?_
  have n1 : (1 : Int32).toNatClampNeg = 1 := by decide
  have n2 : (2 : Int32).toNatClampNeg = 2 := by decide
  have n3 : (3 : Int32).toNatClampNeg = 3 := by decide
  have k0 : Fr (sW nw) M (mput M 62 nw 0 6) := Fr_put Fr_refl sW_s
  obtain ⟨M1, q1, f1, t1⟩ := x7_number L xs O (D := d + 1) (by omega) ts 0 (nI nh - 1) (hi_lt (by omega)) (mput M 62 nw 0 6) (MX_W hX k0) (MPT_e hT (fun k _ _ => rfl))
  have k1 : Fr (sW nw) M (mput M1 62 nw 1 (nvM tx N ts 0 (nI nh - 1))) := Fr_put (Fr_trans k0 (Fr_mono sW_M f1)) sW_s
  obtain ⟨M2, q2, f2, t2⟩ := x7_number L xs O (D := d + 1) (by omega) (nb tx N ts 0 (nI nh - 1)) 1 30 (by decide) _ (MX_W hX k1) (MPT_e t1 (fun k _ _ => rfl))

  have k2 : Fr (sW nw) M (mput M2 62 nw 2 (nvM tx N (nb tx N ts 0 (nI nh - 1)) 1 30)) := Fr_put (Fr_trans k1 (Fr_mono sW_M f2)) sW_s
  obtain ⟨M3, q3, f3, t3⟩ := x7_number L xs O (D := d + 1) (by omega) (nb tx N (nb tx N ts 0 (nI nh - 1)) 1 30) 1 99 (by decide) _ (MX_W hX k2) (MPT_e t2 (fun k _ _ => rfl))
  have e3 : M3 43 0 3 = nI nw := (f3 43 0 3 rfl).trans ((f2 43 0 3 rfl).trans ((f1 43 0 3 rfl).trans hnw))
  rw [e_X7_readsWork_0, hnw, if_pos (in_8 hnw8), hl_cl (by omega), Nat.zero_add, if_pos (by decide), if_neg (by decide), hnh, e_X7_readsWork_53, q1]
  simp only [xr_v, Nat.reduceAdd, Nat.add_zero]
  rw [e_X7_readsWork_56, if_pos (by decide), n1, if_neg (by decide), if_neg (by decide), if_neg (by decide), e_X7_readsWork_104, q2]
  simp only [xr_v, Nat.reduceAdd, Nat.add_zero]
  rw [e_X7_readsWork_107, if_pos (by decide), n2, q3]
  simp only [xr_v, Nat.reduceAdd, Nat.add_zero]
  rw [e_X7_readsWork_117, if_pos (by decide), n3, e3, zadd_1]
  refine isV_i ⟨Fr_put (Fr_put (Fr_trans k2 (Fr_mono sW_M f3)) sW_s) sW_3, MPT_e t3 (fun k _ _ => rfl), mp_s, fun l3 => ?_⟩
  have l2 := nb_ll l3
  have l1 := nb_ll l2
  have y1 : nvM tx N ts 0 (nI nh - 1) = nI (nvN tx N ts) := nvM_l l1
  have y2 : nvM tx N (nb tx N ts 0 (nI nh - 1)) 1 30 = nI (nvN tx N (nb tx N ts 0 (nI nh - 1))) := nvM_l l2
  have y3 : nvM tx N (nb tx N (nb tx N ts 0 (nI nh - 1)) 1 30) 1 99 = nI (nvN tx N (nb tx N (nb tx N ts 0 (nI nh - 1)) 1 30)) := nvM_l l3
  refine ⟨?_, ?_, ?_, ?_⟩
  · rw [mp_g (by omega), mp_k (by omega), f3 62 nw 0 rfl, mp_k (by omega), f2 62 nw 0 rfl, mp_k (by omega), f1 62 nw 0 rfl, mp_s]
  · rw [mp_g (by omega), mp_k (by omega), f3 62 nw 1 rfl, mp_k (by omega), f2 62 nw 1 rfl, mp_s, y1]
  · rw [mp_g (by omega), mp_k (by omega), f3 62 nw 2 rfl, mp_s, y2]
  · rw [mp_g (by omega), mp_s, y3]
end
