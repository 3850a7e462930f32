/-! An AIR's text: the class reads it to its end. -/
section
variable (L : Nat) (xs : Nat → Int32) (O : Int64) {tx : Nat → Nat} {N : Nat}
theorem x0_readRule {D : Nat} (hD : 7 ≤ D) (i c : Nat) (hc : c ≤ 20) {A : Ar} (p : Nat) (M : Mem) (hX : TX M tx N) (hT : TP M N 0 (.inl p)) (hA : CA M i A) : isV (EX L xs (D) q_X0_readRule [.inr (.inr (18, i)), .inr (.inr (1, 0)), .inl (nI c)] M O) O (fun M' => Fr (sAi i) M M' ∧ TP M' N 1 (arT tx N c p) ∧ ((arT tx N c p).isLeft = true → CA M' i (arA tx N A p))) := by
  obtain ⟨d, rfl⟩ : ∃ d, D = d + 2 := ⟨D - 2, by omega⟩
  refine isV_e (EX_in mi_X0_readRule rfl rfl rfl (ls := [some (.inr (.inr (18, i))), some (.inr (.inr (1, 0))), some (.inl (nI c)), none, none]) rfl) ?_
  have hpN : p ≤ N := hT.1
  have h600 := hX.1
  obtain ⟨M1, q1, f1, t1⟩ := x5_word2 L xs O (D := d + 1) (by omega) p M hX hT
  have hX1 := TX_fr hX f1
  have hA1 := CA_T hA f1
  rw [e_X0_readRule_0, q1, hT.2.1]
  simp only [xr_v, Nat.reduceAdd, Nat.add_zero]
  unfold arA
  have eT : arT tx N c p = match kwR tx N p with
    | none => .inr (1, p)
    | some K => if 20 ≤ c then .inr (3, p) else atF tx N K (.inl (scn tx N isA p)) := rfl
  cases e : fnd (wPr ch94 tx N p) 23 with
  | none =>
    have ek : kwR tx N p = none := by
      unfold kwR
      rw [e]
      rfl
    rw [ek] at eT
    rw [e] at t1
    have h4 := TP_4 t1
    have fin : ∀ k, isV (BK L xs (EX L xs (d + 1)) mi_X0_readRule (RN L xs (d) mi_X0_readRule FUEL) (k + 100) 25 [some (.inr (.inr (18, i))), some (.inr (.inr (1, 0))), some (.inl (nI c)), some (.inl (nI p)), some (.inl ((-1)))] [] M1 O none 0 0) O (fun M' => Fr (sAi i) M M' ∧ TP M' N 1 (arT tx N c p) ∧ ((arT tx N c p).isLeft = true → CA M' i A)) := by
      intro k
      rw [e_X0_readRule_25, if_neg h4, eT]
      exact isV_i ⟨Fr_mono sAi_T f1, TP_b1 t1, fun l => by cases l⟩
    rw [ek, e_X0_readRule_11]
    by_cases c60 : c < 20
    · rw [if_pos (by rw [zlt_20 (by omega)]; exact c60)]
      exact fin _
    · rw [if_neg (by rw [zlt_20 (by omega)]; exact c60), x5_blame_1 L xs O (D := d + 1) (by omega) 3 (nI p) M1 h4]
      simp only [xr_n, Nat.reduceAdd, Nat.add_zero]
      exact fin _
  | some j =>
    have ek : kwR tx N p = some (nuF ch94 j) := by
      unfold kwR
      rw [e]
      rfl
    have hK := (kwR_s ek).1
    rw [e] at t1
    rw [ek] at eT ⊢
    dsimp only at eT t1 ⊢
    generalize nuF ch94 j = K at *
    generalize hW : scn tx N isA p = W at *
    have h4 : M1 1 0 4 = 0 := t1.2.2.1
    rw [e_X0_readRule_11]
    by_cases c20 : c < 20
    · have e1 := eT.trans (if_neg (by omega))
      rw [if_pos (by rw [zlt_20 (by omega)]; exact c20), e_X0_readRule_25, if_pos h4]
      have fin : ∀ k M' ts, Fr (sAi i) M M' → TP M' N 0 ts → atF tx N K (.inl W) = cl tx N ts → (ts.isLeft = true → CA M' i (auF tx N A K (.inl W))) → isV (BK L xs (EX L xs (d + 1)) mi_X0_readRule (RN L xs (d) mi_X0_readRule FUEL) (k + 50) 108 [some (.inr (.inr (18, i))), some (.inr (.inr (1, 0))), some (.inl (nI c)), some (.inl (nI p)), some (.inl (nI K))] [] M' O none 0 0) O (fun M' => Fr (sAi i) M M' ∧ TP M' N 1 (arT tx N c p) ∧ ((arT tx N c p).isLeft = true → CA M' i (auF tx N A K (.inl W)))) := by
        intro k M' ts fr ht e2 hm
        obtain ⟨M5, q5, f5, t5⟩ := x5_closes L xs O (D := d + 1) (by omega) ts M' (TX_A hX fr) ht
        rw [e_X0_readRule_108, q5]
        simp only [xr_v, Nat.reduceAdd, Nat.add_zero]
        rw [e_X0_readRule_112, e1, e2]
        exact isV_i ⟨Fr_trans fr (Fr_mono sAi_T f5), t5, fun l => CA_T (hm (cl_l l)) f5⟩
      rcases (by omega : K = 0 ∨ K = 1 ∨ K = 2 ∨ K = 3) with rfl | rfl | rfl | rfl
      · obtain ⟨M2, q2, f2, t2, r2⟩ := x0_readLayer L xs O (D := d + 1) (by omega) i (.inl W) M1 hX1 t1 hA1
        rw [show nI 0 = 0 from rfl, e_X0_readRule_35_c0, e_X0_readRule_60, q2]
        simp only [xr_n, Nat.reduceAdd, Nat.add_zero]
        rw [e_X0_readRule_65]
        exact fin _ _ _ (Fr_trans (Fr_mono sAi_T f1) f2) t2 rfl r2
      · obtain ⟨M2, q2, f2, t2⟩ := x5_number L xs O (D := d + 1) (by omega) (.inl W) 0 4 (by decide) M1 hX1 (b := 0) (by omega) t1
        have hA2 := CA_T hA1 f2
        rw [show nI 1 = 1 from rfl, e_X0_readRule_35_c1, e_X0_readRule_68, q2]
        simp only [xr_v, Nat.reduceAdd, Nat.add_zero]
        rw [e_X0_readRule_75]
        refine fin _ _ _ (Fr_put (Fr_mono sAi_T (Fr_trans f1 f2)) (decide_eq_true (by omega))) (TP_1 t2 (fun k => rfl)) rfl (fun l => ?_)
        rw [nvC_l l]
        show CA _ i (aput A 12 (nI (nvN tx N (.inl W)) - 2))
        refine ⟨fun j hj => ?_, ?_, ?_, ?_⟩
        · rw [mp_g (by omega), ap_k (by omega)]
          exact hA2.1 j hj
        · rw [mp_s, ap_s]
        · rw [mp_k (by omega), ap_k (by omega)]
          exact hA2.2.2.1
        · rw [mp_k (by omega), ap_k (by omega)]
          exact hA2.2.2.2
      · obtain ⟨M2, q2, f2, t2⟩ := x5_number L xs O (D := d + 1) (by omega) (.inl W) 1 99 (by decide) M1 hX1 (b := 0) (by omega) t1
        have hA2 := CA_T hA1 f2
        rw [show nI 2 = 2 from rfl, e_X0_readRule_35_c2, e_X0_readRule_83, q2]
        simp only [xr_v, Nat.reduceAdd, Nat.add_zero]
        rw [e_X0_readRule_91]
        refine fin _ _ _ (Fr_put (Fr_mono sAi_T (Fr_trans f1 f2)) (decide_eq_true (by omega))) (TP_1 t2 (fun k => rfl)) rfl (fun l => ?_)
        rw [nvC_l l]
        show CA _ i (aput A 13 (nI (nvN tx N (.inl W))))
        refine ⟨fun j hj => ?_, ?_, ?_, ?_⟩
        · rw [mp_g (by omega), ap_k (by omega)]
          exact hA2.1 j hj
        · rw [mp_k (by omega), ap_k (by omega)]
          exact hA2.2.1
        · rw [mp_s, ap_s]
        · rw [mp_k (by omega), ap_k (by omega)]
          exact hA2.2.2.2
      · obtain ⟨M2, q2, f2, t2⟩ := x5_number L xs O (D := d + 1) (by omega) (.inl W) 0 8 (by decide) M1 hX1 (b := 0) (by omega) t1
        have hA2 := CA_T hA1 f2
        rw [show nI 3 = 3 from rfl, e_X0_readRule_35_d (h := by decide), e_X0_readRule_97, q2]
        simp only [xr_v, Nat.reduceAdd, Nat.add_zero]
        rw [e_X0_readRule_105]
        refine fin _ _ _ (Fr_put (Fr_mono sAi_T (Fr_trans f1 f2)) (decide_eq_true (by omega))) (TP_1 t2 (fun k => rfl)) rfl (fun l => ?_)
        rw [nvC_l l]
        show CA _ i (aput A 14 (nI (nvN tx N (.inl W))))
        refine ⟨fun j hj => ?_, ?_, ?_, ?_⟩
        · rw [mp_g (by omega), ap_k (by omega)]
          exact hA2.1 j hj
        · rw [mp_k (by omega), ap_k (by omega)]
          exact hA2.2.1
        · rw [mp_k (by omega), ap_k (by omega)]
          exact hA2.2.2.1
        · rw [mp_s, ap_s]
    · have e1 := eT.trans (if_pos (by omega))
      rw [if_neg (by rw [zlt_20 (by omega)]; exact c20), x5_blame_0 L xs O (D := d + 1) (by omega) 3 (nI p) M1 h4]
      simp only [xr_n, Nat.reduceAdd, Nat.add_zero]
      rw [e_X0_readRule_25, if_neg (by rw [mp_k (by omega), mp_s]; decide), e1]
      exact isV_i ⟨Fr_put (Fr_put (Fr_mono sAi_T f1) (decide_eq_true (by omega))) (decide_eq_true (by omega)), TP_bl (kd := 3) t1 (by omega) (by omega) hpN, fun l => by cases l⟩
theorem x0_read {D : Nat} (hD : 8 ≤ D) (i : Nat) (M : Mem) (hX : TX M tx N) (hT : TP M N 0 (.inl 0)) : isV (EX L xs (D) q_X0_read [.inr (.inr (18, i)), .inr (.inr (1, 0))] M O) O (fun M' => Fr (sAi i) M M' ∧ TP M' N 1 (asR tx N 21).2 ∧ ((asR tx N 21).2.isLeft = true → CA M' i (asR tx N 21).1)) := by
  obtain ⟨d, rfl⟩ : ∃ d, D = d + 2 := ⟨D - 2, by omega⟩
  refine isV_e (EX_in mi_X0_read rfl rfl rfl (ls := [some (.inr (.inr (18, i))), some (.inr (.inr (1, 0))), none]) rfl) ?_
  obtain ⟨M0, q1, f1, r1⟩ := x_fill6 L xs O (D := d + 1) (by omega) i 0 M
  rw [e_X0_read_0, q1]
  simp only [xr_n, Nat.reduceAdd, Nat.add_zero]
  rw [e_X0_read_8]
  generalize hM1 : mput (mput (mput M0 18 i 1 0) 18 i 2 1) 18 i 3 4 = M1
  have g1 : Fr (sAi i) M M1 := by
    rw [← hM1]
    refine Fr_put (Fr_put (Fr_put (Fr_mono (fun g j k h => ?_) f1) (decide_eq_true (by omega))) (decide_eq_true (by omega))) (decide_eq_true (by omega))
    have := of_decide_eq_false h
    by_cases c : g = 19
    · exact sRow_i (by omega)
    · exact sRow_g c
  have hX1 : TX M1 tx N := TX_A hX g1
  have hT1 : TP M1 N 1 (.inl 0) := TP_1 hT (fun k => by
    rw [← hM1, mp_g (by omega), mp_g (by omega), mp_g (by omega)]
    exact f1 1 0 k (sRow_g (by omega)))
  have hA1 : CA M1 i A0 := by
    rw [← hM1]
    refine ⟨fun j hj => ?_, ?_, ?_, mp_s⟩
    · rw [mp_g (by omega), mp_g (by omega), mp_g (by omega), r1 j hj]
      unfold A0
      rw [if_neg (by omega), if_neg (by omega)]
    · rw [mp_k (by omega), mp_k (by omega), mp_s]
      rfl
    · rw [mp_k (by omega), mp_s]
      rfl
  refine loopA L xs O (P := fun r => isV r O _) (fun c ls M' => ls = [some (.inr (.inr (18, i))), some (.inr (.inr (1, 0))), some (.inl (nI c))] ∧ Fr (sAi i) M M' ∧ TP M' N 1 (asR tx N c).2 ∧ ((asR tx N c).2.isLeft = true → CA M' i (asR tx N c).1)) 21 300 (by omega) ?_ ?_ (Nat.le_of_lt (FU (by omega))) ⟨rfl, g1, hT1, fun _ => hA1⟩
  · rintro f k c _ M' hj ⟨rfl, fr, hT', hA'⟩ ih
    have hX' := TX_A hX fr
    have eS : asR tx N (c + 1) = asS tx N c (asR tx N c) := rfl
    obtain ⟨M2, q2, f2, t2⟩ := x5_hasMore L xs O (D := d + 1) (by omega) _ M' hX' hT'
    have fr2 : Fr (sAi i) M M2 := Fr_trans fr (Fr_mono sAi_T f2)
    rw [e_X0_read_25, if_neg (by rw [ylt_20 (by omega)]; omega), q2]
    simp only [xr_v, Nat.reduceAdd, Nat.add_zero]
    rw [e_X0_read_35]
    generalize hst : asR tx N c = st at *
    obtain ⟨A, ts⟩ := st
    cases ts with
    | inr e =>
      rw [if_pos rfl, e_X0_read_50]
      refine isV_i ⟨fr2, ?_⟩
      have := asR_E (tx := tx) (N := N) (c := c) (by rw [hst]; rfl) (21 - c)
      rw [show c + (21 - c) = 21 by omega, hst] at this
      rw [this]
      exact ⟨t2, fun l => by cases l⟩
    | inl p =>
      dsimp only at t2 hA' ⊢
      have hA2 := CA_T (hA' rfl) f2
      unfold asS at eS
      dsimp only at eS
      by_cases c1 : scn tx N isB p < N
      · rw [if_pos c1] at eS
        rw [if_neg (show ¬ b2i (decide (scn tx N isB p < N)) = 0 by rw [decide_eq_true c1]; decide)]
        obtain ⟨M3, q3, f3, t3, l3⟩ := x0_readRule L xs O (D := d + 1) (by omega) i c (by omega) _ M2 (TX_fr hX' f2) t2 hA2
        rw [q3]
        simp only [xr_n, Nat.reduceAdd, Nat.add_zero]
        rw [e_X0_read_44, zadd_1]
        refine ih _ _ ⟨rfl, Fr_trans fr2 f3, ?_⟩
        rw [eS]
        exact ⟨t3, l3⟩
      · rw [if_neg c1] at eS
        rw [if_pos (show b2i (decide (scn tx N isB p < N)) = 0 by rw [decide_eq_false c1]; decide), e_X0_read_50]
        refine isV_i ⟨fr2, ?_⟩
        have := asR_E (tx := tx) (N := N) (c := c + 1) (by rw [eS]; exact decide_eq_true ⟨scn_id p, c1⟩) (20 - c)
        rw [show c + 1 + (20 - c) = 21 by omega, eS] at this
        rw [this]
        exact ⟨t2, fun _ => hA2⟩
  · rintro f k _ M' ⟨rfl, fr, hT', hA'⟩
    rw [e_X0_read_25, if_pos (by decide), e_X0_read_50]
    exact isV_i ⟨fr, hT', hA'⟩
end
