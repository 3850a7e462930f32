/-! A LAND's clause: the reference reads it. -/
theorem MRd_mk {M : Mem} {U : Vw} {n nh ns nw : Nat} (h : MRx M U n nh ns nw) (e0 : U 3 0 = nI n) (e1 : U 3 4 = nI nh) (e2 : U 3 8 = nI ns) (e3 : U 3 13 = nI nw) (b0 : n < 100) (b1 : nh < 100) (b2 : ns < 100) (b3 : nw < 100) : MRd M U := by
  unfold MRd
  rw [vN_of e0 (by omega), vN_of e1 (by omega), vN_of e2 (by omega), vN_of e3 (by omega)]
  exact h
theorem vwk_13 {U : Vw} {nw : Nat} {a x y z : Int32} : vwk U nw a x y z 3 13 = nI (nw + 1) := vp_s
theorem MRx_n {M : Mem} {U : Vw} {n nh ns nw m : Nat} (h : MRx M U n nh ns nw) : MRx (mput M 43 0 0 (nI m)) U m nh ns nw := by
  obtain ⟨h0, h1, h2, h3, h4⟩ := h
  exact ⟨mp_s, (mp_k (by omega)).trans h1, (mp_k (by omega)).trans h2, (mp_k (by omega)).trans h3, h4⟩
section
variable (L : Nat) (xs : Nat → Int32) (O : Int64) {tx : Nat → Nat} {N : Nat}
theorem x7_clause {D : Nat} (hD : 8 ≤ D) (c : Nat) (hc : c ≤ 60) {U : Vw} (hU : RK U) (p : Nat) (M : Mem) (hX : MX M tx N) (hT : MPT M N (.inl p)) (hp : scn tx N isB p = p) (hR : MRd M U) (h7 : M 40 0 7 = nI c) : isV (EX L xs (D) q_X7_clause [.inr (.inr (40, 0))] M O) O (fun M' => Fr sB M M' ∧ MPT M' N (czT tx N c U p) ∧ ((czT tx N c U p).isLeft = true → MRd M' (czU tx N c U p) ∧ M' 40 0 7 = nI (c + 1))) := by
  obtain ⟨d, rfl⟩ : ∃ d, D = d + 2 := ⟨D - 2, by omega⟩
  refine isV_e (EX_in mi_X7_clause rfl rfl rfl (ls := [some (.inr (.inr (40, 0))), none, none, none, none]) rfl) ?_
  have hpN : p ≤ N := hT.1
  have h600 := hX.1
  obtain ⟨M1, q1, f1, c1⟩ := x7_kindHere L xs O (D := d + 1) (by omega) p hpN M hX hT.2.1 hT.2.2.1
  rw [hp] at q1 c1
  have g1 : Fr sB M M1 := Fr_mono (fun _ _ _ => sB_4) f1
  have hX1 := MX_B hX g1
  have h5 : M1 40 0 5 = 0 := (f1 40 0 5 rfl).trans hT.2.2.1
  have h6 : M1 40 0 6 = -1 := (f1 40 0 6 rfl).trans hT.2.2.2
  have h71 : M1 40 0 7 = nI c := (f1 40 0 7 rfl).trans h7
  have hR1 := MRx_fr hR (Fr_mono (fun _ _ _ => sM_4) f1)
  have bad : ∀ kd k a1 u2 u3 u4 V, 1 ≤ kd → kd ≤ 4 → czT tx N c U p = .inr (kd, p) → isV (BK L xs (EX L xs (d + 1)) mi_X7_clause (RN L xs (d) mi_X7_clause FUEL) (k + 100) 71 [some (.inr (.inr (40, 0))), some (.inl (a1)), u2, u3, u4] [] (mput (mput M1 40 0 5 (nI kd)) 40 0 6 (nI p)) O none 0 0) O (fun M' => Fr sB M M' ∧ MPT M' N (czT tx N c U p) ∧ ((czT tx N c U p).isLeft = true → MRd M' V ∧ M' 40 0 7 = nI (c + 1))) := by
    intro kd k a1 u2 u3 u4 V ha hb e1
    rw [e_X7_clause_71, if_neg (by rw [mp_k (by omega), mp_s, zeq_0 (by omega)]; omega), e1]
    refine isV_i ⟨Fr_put (Fr_put g1 rfl) rfl, ⟨⟨p, hpN, ?_⟩, ha, hb, ?_, mp_s⟩, fun l => by cases l⟩
    · rw [mp_k (by omega), mp_k (by omega), c1]
    · rw [mp_k (by omega), mp_s]
  rw [e_X7_clause_0, q1]
  simp only [xr_v, Nat.reduceAdd, Nat.add_zero]
  unfold czU
  have eT : czT tx N c U p = match kwC tx N p with
    | none => .inr (1, p)
    | some K => if 60 ≤ c ∨ fullB U K = true then .inr (3, p) else if K = 0 ∧ 0 < c then .inr (4, p) else ctF tx N U K (.inl (scn tx N isA p)) := rfl
  cases ek : kwC tx N p with
  | none =>
    rw [ek] at eT
    dsimp only
    rw [e_X7_clause_4, if_pos rfl, c1, x7_wrong_0 L xs O (D := d + 1) (by omega) 1 (nI p) M1 h5]
    simp only [xr_n, Nat.reduceAdd, Nat.add_zero]
    rw [e_X7_clause_19]
    exact bad 1 _ _ _ _ _ _ (by omega) (by omega) eT
  | some K =>
    rw [ek] at eT
    dsimp only at eT ⊢
    have hK := (kwC_s ek).1
    have hmk : ∀ K, K < 10 → ¬ nI (mkK K) = -1 ∧ (nI (mkK K) = 0 ↔ K = 0) := by decide +kernel
    obtain ⟨⟨v0, v1, v2, v3, v4, v5, v6, v7, v8, -⟩, -⟩ := id hU
    generalize hW : scn tx N isA p = W at *
    have good : ∀ k u2 u3 u4, czT tx N c U p = ctF tx N U K (.inl W) → fullB U K = false → (K = 0 → c = 0) → isV (BK L xs (EX L xs (d + 1)) mi_X7_clause (RN L xs (d) mi_X7_clause FUEL) (k + 200) 71 [some (.inr (.inr (40, 0))), some (.inl (nI (mkK K))), u2, u3, u4] [] M1 O none 0 0) O (fun M' => Fr sB M M' ∧ MPT M' N (czT tx N c U p) ∧ ((czT tx N c U p).isLeft = true → MRd M' (if (czT tx N c U p).isLeft = true then cuF tx N U K (.inl W) else U) ∧ M' 40 0 7 = nI (c + 1))) := by
      intro k u2 u3 u4 e1 hfu hK0
      have hfu := of_decide_eq_false hfu
      obtain ⟨M2, q2, f2, c2⟩ := x7_skipWord L xs O (D := d + 1) (by omega) p (by omega) M1 hX1 c1
      rw [hW] at c2
      have hWN : W ≤ N := by
        rw [← hW]
        exact scn_le hpN
      have g2 : Fr sB M M2 := Fr_trans g1 (Fr_mono (fun _ _ _ => sB_4) f2)
      have hR2 := MRx_fr hR1 (Fr_mono (fun _ _ _ => sM_4) f2)
      rw [e_X7_clause_71, if_pos h5, q2]
      simp only [xr_n, Nat.reduceAdd, Nat.add_zero]
      rw [e_X7_clause_83, hR2.1, (f2 40 0 7 rfl).trans h71, zadd_1]
      generalize hM3 : mput M2 40 0 7 (nI (c + 1)) = M3
      have g3 : Fr sB M M3 := by
        rw [← hM3]
        exact Fr_put g2 rfl
      have s3 : M3 40 0 7 = nI (c + 1) := by rw [← hM3, mp_s]
      have hX3 := MX_B hX g3
      have t3 : MPT M3 N (.inl W) := by
        rw [← hM3]
        exact ⟨hWN, c2, (f2 40 0 5 rfl).trans h5, (f2 40 0 6 rfl).trans h6⟩
      have hR3 : MRx M3 U (vN U 3 0) (vN U 3 4) (vN U 3 8) (vN U 3 13) := by
        rw [← hM3]
        exact hR2
      have fin : ∀ k a1 a2 u3 u4 M' ts, Fr sN6 M3 M' → MPT M' N ts → ctF tx N U K (.inl W) = cl tx N ts → (ts.isLeft = true → MRd M' (cuF tx N U K (.inl W))) → isV (BK L xs (EX L xs (d + 1)) mi_X7_clause (RN L xs (d) mi_X7_clause FUEL) (k + 50) 363 [some (.inr (.inr (40, 0))), some (.inl (a1)), some (.inl (a2)), u3, u4] [] M' O none 0 0) O (fun M' => Fr sB M M' ∧ MPT M' N (czT tx N c U p) ∧ ((czT tx N c U p).isLeft = true → MRd M' (if (czT tx N c U p).isLeft = true then cuF tx N U K (.inl W) else U) ∧ M' 40 0 7 = nI (c + 1))) := by
        intro k a1 a2 u3 u4 M' ts fr ht e2 hm
        have fr' : Fr sB M M' := Fr_trans g3 (Fr_mono sB_6 fr)
        obtain ⟨M5, q5, f5, t5⟩ := x7_closes L xs O (D := d + 1) (by omega) ts M' (MX_B hX fr') ht
        rw [e_X7_clause_363, q5]
        simp only [xr_n, Nat.reduceAdd, Nat.add_zero]
        rw [e_X7_clause_367]
        rw [e1, e2]
        refine isV_i ⟨Fr_trans fr' (Fr_mono (fun _ _ _ => sB_M) f5), t5, fun l => ?_⟩
        rw [if_pos l]
        exact ⟨MRx_fr (hm (cl_l l)) f5, (f5 40 0 7 rfl).trans ((fr 40 0 7 rfl).trans s3)⟩
      have m0 := hi_m1 (vN U 3 0) (by omega)
      have z0 : (0 : Int32).toNatClampNeg = 0 := by decide
      have z1 : (1 : Int32).toNatClampNeg = 1 := by decide
      have z2 : (2 : Int32).toNatClampNeg = 2 := by decide
      have z3 : (3 : Int32).toNatClampNeg = 3 := by decide
      have hl0 : (nI (vN U 3 0) - 1).toInt < 99999999 := by omega
      rcases (by omega : K = 0 ∨ K = 1 ∨ K = 2 ∨ K = 3 ∨ K = 4 ∨ K = 5 ∨ K = 6 ∨ K = 7 ∨ K = 8 ∨ K = 9) with rfl | rfl | rfl | rfl | rfl | rfl | rfl | rfl | rfl | rfl
      · skip
        obtain ⟨M4, q4, f4, t4⟩ := x7_number L xs O (D := d + 1) (by omega) (.inl W) 8 40 (by decide) M3 hX3 t3
        rw [show nI (mkK 0) = 0 by decide, e_X7_clause_103_c0, e_X7_clause_156, q4]
        simp only [xr_v, Nat.reduceAdd, Nat.add_zero]
        rw [e_X7_clause_169, if_pos (by decide), z0]
        refine fin _ _ _ _ _ _ (nb tx N (.inl W) 8 40) (Fr_put (Fr_mono sN6_M f4) rfl) (MPT_e t4 (fun _ _ _ => rfl)) rfl (fun l => ?_)
        rw [nvM_l l]
        obtain ⟨a1, b1⟩ := nb_in (by decide) l
        have w40 : (40 : Int32).toInt = 40 := by decide
        exact MRd_mk (MRx_v (MRx_n (MRx_fr hR3 f4)) (fun g k hg => vp_g (by omega))) vp_s ((vp_k (by omega)).trans v1) ((vp_k (by omega)).trans v2) ((vp_k (by omega)).trans v3) (by omega) (by omega) (by omega) (by omega)
      · obtain ⟨M4, q4, f4, t4, r4⟩ := x7_readsGround L xs O (D := d + 1) (by omega) (U := U) (n := vN U 3 0) (by omega) (.inl W) M3 hX3 t3 hR3
        rw [show nI (mkK 1) = 7 by decide, e_X7_clause_103_c7, e_X7_clause_280, q4]
        simp only [xr_n, Nat.reduceAdd, Nat.add_zero]
        rw [e_X7_clause_285]
        refine fin _ _ _ _ _ _ _ f4 t4 rfl (fun l => ?_)
        have og : ∀ k, vgr U (nvN tx N (.inl W)) (nvN tx N (na tx N (vN U 3 0) (.inl W)) + 1) (nI (nvN tx N (nb tx N (na tx N (vN U 3 0) (.inl W)) (nv tx N (.inl W)) (nI (vN U 3 0) - 1)))) (nI (nvN tx N (nb tx N (nb tx N (na tx N (vN U 3 0) (.inl W)) (nv tx N (.inl W)) (nI (vN U 3 0) - 1)) 0 3))) 3 k = U 3 k := by
          intro k
          unfold vgr
          rw [if_neg (by omega), if_neg (by omega)]
        exact MRd_mk (r4 l) ((og 0).trans v0) ((og 4).trans v1) ((og 8).trans v2) ((og 13).trans v3) (by omega) (by omega) (by omega) (by omega)
      · skip
        obtain ⟨M4, q4, f4, t4⟩ := x7_number L xs O (D := d + 1) (by omega) (.inl W) 0 (nI (vN U 3 0) - 1) hl0 M3 hX3 t3
        obtain ⟨M5, q5, f5, t5⟩ := x7_number L xs O (D := d + 1) (by omega) (nb tx N (.inl W) 0 (nI (vN U 3 0) - 1)) 1 9 (by decide) M4 (MX_fr hX3 f4) t4
        rw [show nI (mkK 2) = 8 by decide, e_X7_clause_103_c8, e_X7_clause_288, q4]
        simp only [xr_v, Nat.reduceAdd, Nat.add_zero]
        rw [e_X7_clause_294, q5]
        simp only [xr_v, Nat.reduceAdd, Nat.add_zero]
        rw [e_X7_clause_302]
        by_cases l : (nb tx N (nb tx N (.inl W) 0 (nI (vN U 3 0) - 1)) 1 9).isLeft = true
        · have l1 := nb_ll l
          obtain ⟨a1, b1⟩ := nb_in hl0 l1
          rw [if_pos (MPT_l t5 l), nvM_l l1, nvM_l l, if_pos (in_40 (by omega)), hl_cl (by omega)]
          exact fin _ _ _ _ _ _ _ (Fr_put (Fr_mono sN6_M (Fr_trans f4 f5)) rfl) (MPT_e t5 (fun _ _ _ => rfl)) rfl (fun _ => MRd_mk (MRx_wall (MRx_fr hR3 (Fr_trans f4 f5))) ((vp_g (by omega)).trans v0) ((vp_g (by omega)).trans v1) ((vp_g (by omega)).trans v2) ((vp_g (by omega)).trans v3) (by omega) (by omega) (by omega) (by omega))
        · rw [if_neg (MPT_n t5 l)]
          exact fin _ _ _ _ _ _ _ (Fr_mono sN6_M (Fr_trans f4 f5)) t5 rfl (fun l' => absurd l' l)
      · have k4 : Fr (sHr (vN U 3 4)) M3 M3 := Fr_refl
        obtain ⟨M4, q4, f4, t4⟩ := x7_number L xs O (D := d + 1) (by omega) (.inl W) 0 (nI (vN U 3 0) - 1) hl0 M3 hX3 t3
        have k5 : Fr (sHr (vN U 3 4)) M3 (mput M4 54 (vN U 3 4) 0 (nvM tx N (.inl W) 0 (nI (vN U 3 0) - 1))) := Fr_put (Fr_mono sHr_M f4) sHr_s
        obtain ⟨M5, q5, f5, t5⟩ := x7_number L xs O (D := d + 1) (by omega) (nb tx N (.inl W) 0 (nI (vN U 3 0) - 1)) 0 60 (by decide) _ (MX_sHr hX3 k5) (MPT_e t4 (fun _ _ _ => rfl))
        have e43 : M5 43 0 1 = nI (vN U 3 4) := (f5 43 0 1 rfl).trans ((f4 43 0 1 rfl).trans hR3.2.1)
        rw [show nI (mkK 3) = 1 by decide, e_X7_clause_103_c1, e_X7_clause_173, hR3.2.1, if_pos (in_8 (by omega)), hl_cl (by omega), Nat.zero_add, q4]
        simp only [xr_v, Nat.reduceAdd, Nat.add_zero]
        rw [e_X7_clause_193, if_pos (by decide), z0, q5]
        simp only [xr_v, Nat.reduceAdd, Nat.add_zero]
        rw [e_X7_clause_203, if_pos (by decide), z1]
        rw [e43, zadd_1]
        have k6 : Fr (sHr (vN U 3 4)) M3 (mput (mput M5 54 (vN U 3 4) 1 (nvM tx N (nb tx N (.inl W) 0 (nI (vN U 3 0) - 1)) 0 60)) 43 0 1 (nI (vN U 3 4 + 1))) := Fr_put (Fr_put (Fr_trans k5 (Fr_mono sHr_M f5)) sHr_s) sHr_q
        refine fin _ _ _ _ _ _ _ (Fr_mono sHr_6 k6) (MPT_e t5 (fun _ _ _ => rfl)) rfl (fun l => ?_)
        have l1 := nb_ll l
        refine MRd_mk (n := vN U 3 0) (nh := vN U 3 4 + 1) (ns := vN U 3 8) (nw := vN U 3 13) (MRx_H hR3 k6 mp_s ?_ ?_) ?_ vp_s ?_ ?_ (by omega) (by omega) (by omega) (by omega)
        · rw [mp_g (by omega), mp_k (by omega), f5 54 _ 0 rfl, mp_s, nvM_l l1]
        · rw [mp_g (by omega), mp_s, nvM_l l]
          rfl
        · show vput (vput (vput U 7 _ _) 8 _ _) 3 4 _ 3 _ = _
          rw [vp_k (by omega), vp_g (by omega), vp_g (by omega)]
          exact v0
        · show vput (vput (vput U 7 _ _) 8 _ _) 3 4 _ 3 _ = _
          rw [vp_k (by omega), vp_g (by omega), vp_g (by omega)]
          exact v2
        · show vput (vput (vput U 7 _ _) 8 _ _) 3 4 _ 3 _ = _
          rw [vp_k (by omega), vp_g (by omega), vp_g (by omega)]
          exact v3
      · skip
        obtain ⟨M4, q4, f4, t4⟩ := x7_number L xs O (D := d + 1) (by omega) (.inl W) 0 23 (by decide) M3 hX3 t3
        obtain ⟨M5, q5, f5, t5⟩ := x7_number L xs O (D := d + 1) (by omega) (nb tx N (.inl W) 0 23) 0 40 (by decide) M4 (MX_fr hX3 f4) t4
        rw [show nI (mkK 4) = 9 by decide, e_X7_clause_103_c9, e_X7_clause_322, q4]
        simp only [xr_v, Nat.reduceAdd, Nat.add_zero]
        rw [e_X7_clause_329, q5]
        simp only [xr_v, Nat.reduceAdd, Nat.add_zero]
        rw [e_X7_clause_337]
        by_cases l : (nb tx N (nb tx N (.inl W) 0 23) 0 40).isLeft = true
        · have l1 := nb_ll l
          obtain ⟨a1, b1⟩ := nb_in (by decide) l1
          have w23 : (23 : Int32).toInt = 23 := by decide
          rw [if_pos (MPT_l t5 l), nvM_l l1, nvM_l l, if_pos (in_24 (by omega)), hl_cl (by omega)]
          exact fin _ _ _ _ _ _ _ (Fr_put (Fr_mono sN6_M (Fr_trans f4 f5)) rfl) (MPT_e t5 (fun _ _ _ => rfl)) rfl (fun _ => MRd_mk (MRx_hum (MRx_fr hR3 (Fr_trans f4 f5))) ((vp_g (by omega)).trans v0) ((vp_g (by omega)).trans v1) ((vp_g (by omega)).trans v2) ((vp_g (by omega)).trans v3) (by omega) (by omega) (by omega) (by omega))
        · rw [if_neg (MPT_n t5 l)]
          exact fin _ _ _ _ _ _ _ (Fr_mono sN6_M (Fr_trans f4 f5)) t5 rfl (fun l' => absurd l' l)
      · skip
        obtain ⟨M4, q4, f4, t4⟩ := x7_number L xs O (D := d + 1) (by omega) (.inl W) 0 (nI (vN U 3 0) - 1) hl0 M3 hX3 t3
        have k5 : Fr (sSr (vN U 3 8)) M3 (mput M4 58 (vN U 3 8) 0 (nvM tx N (.inl W) 0 (nI (vN U 3 0) - 1))) := Fr_put (Fr_mono sSr_M f4) sSr_s
        obtain ⟨M5, q5, f5, t5⟩ := x7_number L xs O (D := d + 1) (by omega) (nb tx N (.inl W) 0 (nI (vN U 3 0) - 1)) 1 120 (by decide) _ (MX_sSr hX3 k5) (MPT_e t4 (fun _ _ _ => rfl))
        have k6 : Fr (sSr (vN U 3 8)) M3 (mput M5 58 (vN U 3 8) 1 (nvM tx N (nb tx N (.inl W) 0 (nI (vN U 3 0) - 1)) 1 120)) := Fr_put (Fr_trans k5 (Fr_mono sSr_M f5)) sSr_s
        obtain ⟨M6, q6, f6, t6⟩ := x7_number L xs O (D := d + 1) (by omega) (nb tx N (nb tx N (.inl W) 0 (nI (vN U 3 0) - 1)) 1 120) 1 3 (by decide) _ (MX_sSr hX3 k6) (MPT_e t5 (fun _ _ _ => rfl))
        have k7 : Fr (sSr (vN U 3 8)) M3 (mput M6 58 (vN U 3 8) 2 (nvM tx N (nb tx N (nb tx N (.inl W) 0 (nI (vN U 3 0) - 1)) 1 120) 1 3)) := Fr_put (Fr_trans k6 (Fr_mono sSr_M f6)) sSr_s
        obtain ⟨M7, q7, f7, t7⟩ := x7_number L xs O (D := d + 1) (by omega) (nb tx N (nb tx N (nb tx N (.inl W) 0 (nI (vN U 3 0) - 1)) 1 120) 1 3) 1 16777215 (by decide) _ (MX_sSr hX3 k7) (MPT_e t6 (fun _ _ _ => rfl))
        have e43 : M7 43 0 2 = nI (vN U 3 8) := (f7 43 0 2 rfl).trans ((f6 43 0 2 rfl).trans ((f5 43 0 2 rfl).trans ((f4 43 0 2 rfl).trans hR3.2.2.1)))
        rw [show nI (mkK 5) = 2 by decide, e_X7_clause_103_c2, e_X7_clause_217, hR3.2.2.1, if_pos (in_6 (by omega)), hl_cl (by omega), Nat.zero_add, q4]
        simp only [xr_v, Nat.reduceAdd, Nat.add_zero]
        rw [e_X7_clause_237, if_pos (by decide), z0, q5]
        simp only [xr_v, Nat.reduceAdd, Nat.add_zero]
        rw [e_X7_clause_247, if_pos (by decide), z1, q6]
        simp only [xr_v, Nat.reduceAdd, Nat.add_zero]
        rw [e_X7_clause_256, if_pos (by decide), z2, q7]
        simp only [xr_v, Nat.reduceAdd, Nat.add_zero]
        rw [e_X7_clause_266, if_pos (by decide), z3]
        rw [e43, zadd_1]
        have k8 : Fr (sSr (vN U 3 8)) M3 (mput (mput M7 58 (vN U 3 8) 3 (nvM tx N (nb tx N (nb tx N (nb tx N (.inl W) 0 (nI (vN U 3 0) - 1)) 1 120) 1 3) 1 16777215)) 43 0 2 (nI (vN U 3 8 + 1))) := Fr_put (Fr_put (Fr_trans k7 (Fr_mono sSr_M f7)) sSr_s) sSr_q
        refine fin _ _ _ _ _ _ _ (Fr_mono sSr_6 k8) (MPT_e t7 (fun _ _ _ => rfl)) rfl (fun l => ?_)
        have l3 := nb_ll l
        have l2 := nb_ll l3
        have l1 := nb_ll l2
        refine MRd_mk (n := vN U 3 0) (nh := vN U 3 4) (ns := vN U 3 8 + 1) (nw := vN U 3 13) (MRx_S hR3 k8 mp_s ?_ ?_ ?_ ?_) ?_ ?_ vp_s ?_ (by omega) (by omega) (by omega) (by omega)
        · rw [mp_g (by omega), mp_k (by omega), f7 58 _ 0 rfl, mp_k (by omega), f6 58 _ 0 rfl, mp_k (by omega), f5 58 _ 0 rfl, mp_s, nvM_l l1]
        · rw [mp_g (by omega), mp_k (by omega), f7 58 _ 1 rfl, mp_k (by omega), f6 58 _ 1 rfl, mp_s, nvM_l l2]
          rfl
        · rw [mp_g (by omega), mp_k (by omega), f7 58 _ 2 rfl, mp_s, nvM_l l3]
          rfl
        · rw [mp_g (by omega), mp_s, nvM_l l]
          rfl
        · show vput (vput (vput (vput (vput U 10 _ _) 11 _ _) 12 _ _) 13 _ _) 3 8 _ 3 _ = _
          rw [vp_k (by omega), vp_g (by omega), vp_g (by omega), vp_g (by omega), vp_g (by omega)]
          exact v0
        · show vput (vput (vput (vput (vput U 10 _ _) 11 _ _) 12 _ _) 13 _ _) 3 8 _ 3 _ = _
          rw [vp_k (by omega), vp_g (by omega), vp_g (by omega), vp_g (by omega), vp_g (by omega)]
          exact v1
        · show vput (vput (vput (vput (vput U 10 _ _) 11 _ _) 12 _ _) 13 _ _) 3 8 _ 3 _ = _
          rw [vp_k (by omega), vp_g (by omega), vp_g (by omega), vp_g (by omega), vp_g (by omega)]
          exact v3
      · obtain ⟨M4, q4, f4, t4, n4, r4⟩ := x7_readsWork6 L xs O (D := d + 1) (by omega) (n := vN U 3 0) (by omega) (nw := vN U 3 13) (by omega) (.inl W) M3 hX3 t3  hR3.2.2.2.1
        rw [show nI (mkK 6) = 3 by decide, e_X7_clause_103_c3, e_X7_clause_357, q4]
        simp only [xr_n, Nat.reduceAdd, Nat.add_zero]
        refine fin _ _ _ _ _ _ _ (Fr_mono sW_6 f4) t4 rfl (fun l => ?_)
        obtain ⟨y0, y1, y2, y3⟩ := r4 l
        refine MRd_mk (n := vN U 3 0) (nh := vN U 3 4) (ns := vN U 3 8) (nw := vN U 3 13 + 1) (MRx_W (a := 6) hR3 f4 n4 (by decide) y0 y1 y2 y3) ((vwk_o (by omega) (by omega)).trans v0) ((vwk_o (by omega) (by omega)).trans v1) ((vwk_o (by omega) (by omega)).trans v2) ?_ (by omega) (by omega) (by omega) (by omega)
        exact vwk_13
      · obtain ⟨M4, q4, f4, t4, n4, r4⟩ := x7_readsWork7 L xs O (D := d + 1) (by omega) (n := vN U 3 0) (by omega) (nw := vN U 3 13) (by omega) (.inl W) M3 hX3 t3  hR3.2.2.2.1
        rw [show nI (mkK 7) = 4 by decide, e_X7_clause_103_c4, e_X7_clause_357, q4]
        simp only [xr_n, Nat.reduceAdd, Nat.add_zero]
        refine fin _ _ _ _ _ _ _ (Fr_mono sW_6 f4) t4 rfl (fun l => ?_)
        obtain ⟨y0, y1, y2, y3⟩ := r4 l
        refine MRd_mk (n := vN U 3 0) (nh := vN U 3 4) (ns := vN U 3 8) (nw := vN U 3 13 + 1) (MRx_W (a := 7) hR3 f4 n4 (by decide) y0 y1 y2 y3) ((vwk_o (by omega) (by omega)).trans v0) ((vwk_o (by omega) (by omega)).trans v1) ((vwk_o (by omega) (by omega)).trans v2) ?_ (by omega) (by omega) (by omega) (by omega)
        exact vwk_13
      · obtain ⟨M4, q4, f4, t4, n4, r4⟩ := x7_readsWork8 L xs O (D := d + 1) (by omega) (ns := vN U 3 8) (by omega) (nI (vN U 3 0) - 1) (nw := vN U 3 13) (by omega) (.inl W) M3 hX3 t3 hR3.2.2.1 hR3.2.2.2.1
        rw [show nI (mkK 8) = 5 by decide, e_X7_clause_103_c5, e_X7_clause_357, q4]
        simp only [xr_n, Nat.reduceAdd, Nat.add_zero]
        refine fin _ _ _ _ _ _ _ (Fr_mono sW_6 f4) t4 rfl (fun l => ?_)
        obtain ⟨y0, y1, y2, y3⟩ := r4 l
        refine MRd_mk (n := vN U 3 0) (nh := vN U 3 4) (ns := vN U 3 8) (nw := vN U 3 13 + 1) (MRx_W (a := 8) hR3 f4 n4 (by decide) y0 y1 y2 y3) ((vwk_o (by omega) (by omega)).trans v0) ((vwk_o (by omega) (by omega)).trans v1) ((vwk_o (by omega) (by omega)).trans v2) ?_ (by omega) (by omega) (by omega) (by omega)
        exact vwk_13
      · obtain ⟨M4, q4, f4, t4, n4, r4⟩ := x7_readsWork9 L xs O (D := d + 1) (by omega) (nh := vN U 3 4) (by omega) (nI (vN U 3 0) - 1) (nw := vN U 3 13) (by omega) (.inl W) M3 hX3 t3 hR3.2.1 hR3.2.2.2.1
        rw [show nI (mkK 9) = 6 by decide, e_X7_clause_103_c6, e_X7_clause_357, q4]
        simp only [xr_n, Nat.reduceAdd, Nat.add_zero]
        refine fin _ _ _ _ _ _ _ (Fr_mono sW_6 f4) t4 rfl (fun l => ?_)
        obtain ⟨y0, y1, y2, y3⟩ := r4 l
        refine MRd_mk (n := vN U 3 0) (nh := vN U 3 4) (ns := vN U 3 8) (nw := vN U 3 13 + 1) (MRx_W (a := 9) hR3 f4 n4 (by decide) y0 y1 y2 y3) ((vwk_o (by omega) (by omega)).trans v0) ((vwk_o (by omega) (by omega)).trans v1) ((vwk_o (by omega) (by omega)).trans v2) ?_ (by omega) (by omega) (by omega) (by omega)
        exact vwk_13
    rw [e_X7_clause_4, if_neg (hmk K hK).1, h71]
    by_cases c60 : 60 ≤ c
    · have e1 := eT.trans (if_pos (Or.inl c60))
      rw [if_pos (by rw [zeq_60 (by omega)]; omega), e_X7_clause_39, c1, x7_wrong_0 L xs O (D := d + 1) (by omega) 3 (nI p) M1 h5]
      simp only [xr_n, Nat.reduceAdd, Nat.add_zero]
      rw [e_X7_clause_48]
      exact bad 3 _ _ _ _ _ _ (by omega) (by omega) e1
    · rw [if_neg (by rw [zeq_60 (by omega)]; omega), x7_isFull L xs O (D := d + 1) (by omega) hU K hK M1 hR1]
      simp only [xr_v, Nat.reduceAdd, Nat.add_zero]
      rw [e_X7_clause_36]
      by_cases cf : fullB U K = true
      · have e1 := eT.trans (if_pos (Or.inr cf))
        rw [cf, b2i_t, if_neg (by decide), e_X7_clause_39, c1, x7_wrong_0 L xs O (D := d + 1) (by omega) 3 (nI p) M1 h5]
        simp only [xr_n, Nat.reduceAdd, Nat.add_zero]
        rw [e_X7_clause_48]
        exact bad 3 _ _ _ _ _ _ (by omega) (by omega) e1
      · have e1 := eT.trans (if_neg (fun e => e.elim c60 cf))
        rw [Bool.eq_false_iff.2 cf, b2i_f, if_pos rfl]
        by_cases c0 : K = 0
        · rw [if_pos ((hmk K hK).2.2 c0), h71]
          by_cases cc : c = 0
          · rw [if_pos (by rw [cc]; decide)]
            exact good _ _ _ _ (e1.trans (if_neg (by omega))) (Bool.eq_false_iff.2 cf) (fun _ => cc)
          · rw [if_neg (by rw [zle_0 (by omega)]; omega), c1, x7_wrong_0 L xs O (D := d + 1) (by omega) 4 (nI p) M1 h5]
            simp only [xr_n, Nat.reduceAdd, Nat.add_zero]
            exact bad 4 _ _ _ _ _ _ (by omega) (by omega) (e1.trans (if_pos (by omega)))
        · rw [if_neg (fun e => c0 ((hmk K hK).2.1 e))]
          exact good _ _ _ _ (e1.trans (if_neg (by omega))) (Bool.eq_false_iff.2 cf) (fun e => absurd e c0)
end
