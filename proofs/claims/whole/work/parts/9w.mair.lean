/-! An AIR's text: the reference reads it. -/
def mkR (K : Nat) : Nat := ([0, 12, 13, 14] : List Nat).getD K 0
def sAr (g _i k : Nat) : Bool := decide ((g = 40 ∧ (k = 4 ∨ k = 5 ∨ k = 6 ∨ k = 7)) ∨ g = 65)
theorem sAr_M (g i k : Nat) (h : sAr g i k = false) : sM g i k = false := by
  have := of_decide_eq_false h
  exact decide_eq_false (by omega)
theorem sAr_4 (g i k : Nat) (h : sAr g i k = false) : sM4 g i k = false := sM_4 (sAr_M g i k h)
theorem MX_Ar {M M' : Mem} {tx : Nat → Nat} {N : Nat} (h : MX M tx N) (fr : Fr sAr M M') : MX M' tx N := ⟨h.1, (fr 40 0 2 rfl).trans h.2.1, fun i hi => ⟨(fr 41 0 i rfl).trans (h.2.2 i hi).1, (h.2.2 i hi).2⟩⟩
def MRa (M : Mem) (A : Ar) : Prop := ∀ j, j < 15 → M 65 0 j = A j
theorem MRa_M {M M' : Mem} {A : Ar} (h : MRa M A) (fr : Fr sM M M') : MRa M' A := fun j hj => (fr 65 0 j rfl).trans (h j hj)
theorem MRa_p {M : Mem} {A : Ar} {a : Nat} {x : Int32} (h : MRa M A) : MRa (mput M 65 0 a x) (aput A a x) := by
  intro j hj
  by_cases e : j = a
  · rw [e, mp_s, ap_s]
  · rw [mp_k e, ap_k e]
    exact h j hj
section
variable (L : Nat) (xs : Nat → Int32) (O : Int64) {tx : Nat → Nat} {N : Nat}
theorem rl_kw {P : Res → Prop} {d : Nat} (hd : 5 ≤ d) (s : Nat) (hs : s ≤ N) (hid : scn tx N isB s = s) (M : Mem) (hX : MX M tx N) (h4 : M 40 0 4 = nI s) (h5 : M 40 0 5 = 0) (f k : Nat)
    (nx : ∀ k' M1, Fr sM4 M M1 → M1 40 0 4 = nI s → P (BK L xs (EX L xs (d + 1)) mi_X7_rule (RN L xs (d) mi_X7_rule f) (k' + 300) 86 [some (.inr (.inr (40, 0))), none, none] [.inl (match kwR tx N s with
    | some K => nI (mkR K)
    | none => -1)] M1 O none 0 0)) : P (BK L xs (EX L xs (d + 1)) mi_X7_rule (RN L xs (d) mi_X7_rule f) (k + 500) 0 [some (.inr (.inr (40, 0))), none, none] [] M O none 0 0) := by
  have one : ∀ M', Fr sM4 M M' → M' 40 0 4 = nI s → ∀ a b c d' e f, a < 27 → b < 27 → c < 27 → d' < 27 → e < 27 → f < 27 → ∀ K, sixN a b c d' e f = kr K → ∃ M'', EX L xs (d + 1) q_X7_isWord [.inr (.inr (40, 0)), .inl (nI a), .inl (nI b), .inl (nI c), .inl (nI d'), .inl (nI e), .inl (nI f)] M' O = (some (.inl (some (.inl (b2i (decide (wc tx N s = nI (kr K)))))), M'', O, 0, 0) : Res) ∧ Fr sM4 M M'' ∧ M'' 40 0 4 = nI s := by
    intro M' fr hc a b c d' e f ha hb hc' hd he hf K hK
    obtain ⟨M'', q1, f1, c1⟩ := x7_isWord L xs O (D := d + 1) (by omega) s a b c d' e f hs ha hb hc' hd he hf M' (MX_fr hX (Fr_mono (fun _ _ _ => sM_4) fr)) hc ((fr 40 0 5 rfl).trans h5)
    rw [hid, hK] at q1
    rw [hid] at c1
    exact ⟨M'', q1, Fr_trans fr f1, c1⟩
  obtain ⟨M1, q1, f1, c1⟩ := one M Fr_refl h4 12 1 25 5 18 0 (by decide) (by decide) (by decide) (by decide) (by decide) (by decide) 0 (by decide)
  rw [e_X7_rule_0, show EX L xs (d + 1) q_X7_isWord [.inr (.inr (40, 0)), .inl 12, .inl 1, .inl 25, .inl 5, .inl 18, .inl 0] M O = _ from q1]
  simp only [xr_v, Nat.reduceAdd, Nat.add_zero]
  by_cases k0 : wc tx N s = nI (kr 0)
  · rw [decide_eq_true k0, b2i_t, e_X7_rule_13, if_neg (by decide)]
    have h := nx
    rw [kwR_of (by omega) k0] at h
    exact h _ _ f1 c1
  rw [decide_eq_false k0, b2i_f, e_X7_rule_13]
  obtain ⟨M2, q2, f2, c2⟩ := one M1 f1 c1 23 9 14 4 0 0 (by decide) (by decide) (by decide) (by decide) (by decide) (by decide) 1 (by decide)
  rw [if_pos rfl, show EX L xs (d + 1) q_X7_isWord [.inr (.inr (40, 0)), .inl 23, .inl 9, .inl 14, .inl 4, .inl 0, .inl 0] M1 O = _ from q2]
  simp only [xr_v, Nat.reduceAdd, Nat.add_zero]
  by_cases k1 : wc tx N s = nI (kr 1)
  · rw [decide_eq_true k1, b2i_t, e_X7_rule_33, if_neg (by decide)]
    have h := nx
    rw [kwR_of (by omega) k1] at h
    exact h _ _ f2 c2
  rw [decide_eq_false k1, b2i_f, e_X7_rule_33]
  obtain ⟨M3, q3, f3, c3⟩ := one M2 f2 c2 23 5 9 7 8 20 (by decide) (by decide) (by decide) (by decide) (by decide) (by decide) 2 (by decide)
  rw [if_pos rfl, show EX L xs (d + 1) q_X7_isWord [.inr (.inr (40, 0)), .inl 23, .inl 5, .inl 9, .inl 7, .inl 8, .inl 20] M2 O = _ from q3]
  simp only [xr_v, Nat.reduceAdd, Nat.add_zero]
  by_cases k2 : wc tx N s = nI (kr 2)
  · rw [decide_eq_true k2, b2i_t, e_X7_rule_56, if_neg (by decide)]
    have h := nx
    rw [kwR_of (by omega) k2] at h
    exact h _ _ f3 c3
  rw [decide_eq_false k2, b2i_f, e_X7_rule_56]
  obtain ⟨M4, q4, f4, c4⟩ := one M3 f3 c3 6 9 14 5 0 0 (by decide) (by decide) (by decide) (by decide) (by decide) (by decide) 3 (by decide)
  rw [if_pos rfl, show EX L xs (d + 1) q_X7_isWord [.inr (.inr (40, 0)), .inl 6, .inl 9, .inl 14, .inl 5, .inl 0, .inl 0] M3 O = _ from q4]
  simp only [xr_v, Nat.reduceAdd, Nat.add_zero]
  by_cases k3 : wc tx N s = nI (kr 3)
  · rw [decide_eq_true k3, b2i_t, e_X7_rule_77, if_neg (by decide)]
    have h := nx
    rw [kwR_of (by omega) k3] at h
    exact h _ _ f4 c4
  rw [decide_eq_false k3, b2i_f, e_X7_rule_77]
  rw [if_pos rfl]
  have h := nx
  rw [kwR_no (tx := tx) (N := N) (p := s) (fun K hK => match K, hK with
    | 0, _ => k0
    | 1, _ => k1
    | 2, _ => k2
    | 3, _ => k3
    | K + 4, h => absurd h (by omega))] at h
  exact h _ _ f4 c4
theorem x7_rule {D : Nat} (hD : 8 ≤ D) (c : Nat) (hc : c ≤ 20) {A : Ar} (p : Nat) (M : Mem) (hX : MX M tx N) (hT : MPT M N (.inl p)) (hp : scn tx N isB p = p) (hR : MRa M A) (h7 : M 40 0 7 = nI c) : isV (EX L xs (D) q_X7_rule [.inr (.inr (40, 0))] M O) O (fun M' => Fr sAr M M' ∧ MPT M' N (arT tx N c p) ∧ ((arT tx N c p).isLeft = true → MRa M' (arA tx N A p) ∧ M' 40 0 7 = nI (c + 1))) := by
  obtain ⟨d, rfl⟩ : ∃ d, D = d + 2 := ⟨D - 2, by omega⟩
  refine isV_e (EX_in mi_X7_rule rfl rfl rfl (ls := [some (.inr (.inr (40, 0))), none, none]) rfl) ?_
  have hpN : p ≤ N := hT.1
  have h600 := hX.1
  refine rl_kw L xs O (P := fun r => isV r O _) (by omega) p hpN hp M hX hT.2.1 hT.2.2.1 FUEL _ (fun k M1 f1 c1 => ?_)
  have g1 : Fr sAr M M1 := Fr_mono sAr_4 f1
  have hX1 := MX_Ar hX g1
  have h5 : M1 40 0 5 = 0 := (f1 40 0 5 rfl).trans hT.2.2.1
  have h6 : M1 40 0 6 = -1 := (f1 40 0 6 rfl).trans hT.2.2.2
  have h71 : M1 40 0 7 = nI c := (f1 40 0 7 rfl).trans h7
  have hR1 := MRa_M hR (Fr_mono (fun _ _ _ => sM_4) f1)
  have bad : ∀ kd k a1 u2 V, 1 ≤ kd → kd ≤ 4 → arT tx N c p = .inr (kd, p) → isV (BK L xs (EX L xs (d + 1)) mi_X7_rule (RN L xs (d) mi_X7_rule FUEL) (k + 100) 122 [some (.inr (.inr (40, 0))), some (.inl (a1)), u2] [] (mput (mput M1 40 0 5 (nI kd)) 40 0 6 (nI p)) O none 0 0) O (fun M' => Fr sAr M M' ∧ MPT M' N (arT tx N c p) ∧ ((arT tx N c p).isLeft = true → MRa M' V ∧ M' 40 0 7 = nI (c + 1))) := by
    intro kd k a1 u2 V ha hb e1
    rw [e_X7_rule_122, if_neg (by rw [mp_k (by omega), mp_s, zeq_0 (by omega)]; omega), e1]
    refine isV_i ⟨Fr_put (Fr_put g1 rfl) rfl, ⟨⟨p, hpN, ?_⟩, ha, hb, ?_, mp_s⟩, fun l => by cases l⟩
    · rw [mp_k (by omega), mp_k (by omega), c1]
    · rw [mp_k (by omega), mp_s]
  unfold arA
  have eT : arT tx N c p = match kwR tx N p with
    | none => .inr (1, p)
    | some K => if 20 ≤ c then .inr (3, p) else atF tx N K (.inl (scn tx N isA p)) := rfl
  cases ek : kwR tx N p with
  | none =>
    rw [ek] at eT
    dsimp only
    rw [e_X7_rule_86, if_pos rfl, c1, x7_wrong_0 L xs O (D := d + 1) (by omega) 1 (nI p) M1 h5]
    simp only [xr_n, Nat.reduceAdd, Nat.add_zero]
    rw [e_X7_rule_101]
    exact bad 1 _ _ _ _ (by omega) (by omega) eT
  | some K =>
    rw [ek] at eT
    dsimp only at eT ⊢
    have hK := (kwR_s ek).1
    have hmk : ∀ K, K < 4 → ¬ nI (mkR K) = -1 := by decide +kernel
    generalize hW : scn tx N isA p = W at *
    rw [e_X7_rule_86, if_neg (hmk K hK), h71]
    by_cases c20 : 20 ≤ c
    · have e1 := eT.trans (if_pos c20)
      rw [if_pos (by rw [zeq_20 (by omega)]; omega), c1, x7_wrong_0 L xs O (D := d + 1) (by omega) 3 (nI p) M1 h5]
      simp only [xr_n, Nat.reduceAdd, Nat.add_zero]
      exact bad 3 _ _ _ _ (by omega) (by omega) e1
    have e1 := eT.trans (if_neg c20)
    rw [if_neg (by rw [zeq_20 (by omega)]; omega)]
    obtain ⟨M2, q2, f2, c2⟩ := x7_skipWord L xs O (D := d + 1) (by omega) p (by omega) M1 hX1 c1
    rw [hW] at c2
    have hWN : W ≤ N := by
      rw [← hW]
      exact scn_le hpN
    have g2 : Fr sAr M M2 := Fr_trans g1 (Fr_mono sAr_4 f2)
    have hR2 := MRa_M hR1 (Fr_mono (fun _ _ _ => sM_4) f2)
    rw [e_X7_rule_122, if_pos h5, q2]
    simp only [xr_n, Nat.reduceAdd, Nat.add_zero]
    rw [e_X7_rule_134, (f2 40 0 7 rfl).trans h71, zadd_1]
    generalize hM3 : mput M2 40 0 7 (nI (c + 1)) = M3
    have g3 : Fr sAr M M3 := by
      rw [← hM3]
      exact Fr_put g2 rfl
    have s3 : M3 40 0 7 = nI (c + 1) := by rw [← hM3, mp_s]
    have hX3 := MX_Ar hX g3
    have t3 : MPT M3 N (.inl W) := by
      rw [← hM3]
      exact ⟨hWN, c2, (f2 40 0 5 rfl).trans h5, (f2 40 0 6 rfl).trans h6⟩
    have hR3 : MRa M3 A := by
      rw [← hM3]
      exact hR2
    have fin : ∀ k a1 (u2 : Int32) M' ts, Fr (fun g i k => decide ((g = 40 ∧ (k = 4 ∨ k = 5 ∨ k = 6)) ∨ g = 65)) M3 M' → MPT M' N ts → atF tx N K (.inl W) = cl tx N ts → (ts.isLeft = true → MRa M' (auF tx N A K (.inl W))) → isV (BK L xs (EX L xs (d + 1)) mi_X7_rule (RN L xs (d) mi_X7_rule FUEL) (k + 30) 211 [some (.inr (.inr (40, 0))), some (.inl (a1)), some (.inl (u2))] [] M' O none 0 0) O (fun M' => Fr sAr M M' ∧ MPT M' N (arT tx N c p) ∧ ((arT tx N c p).isLeft = true → MRa M' (auF tx N A K (.inl W)) ∧ M' 40 0 7 = nI (c + 1))) := by
      intro k a1 u2 M' ts fr ht e2 hm
      have fr' : Fr sAr M M' := Fr_trans g3 (Fr_mono (fun g i k h => decide_eq_false (by have := of_decide_eq_false h; omega)) fr)
      obtain ⟨M5, q5, f5, t5⟩ := x7_closes L xs O (D := d + 1) (by omega) ts M' (MX_Ar hX fr') ht
      rw [e_X7_rule_211, q5]
      simp only [xr_n, Nat.reduceAdd, Nat.add_zero]
      rw [e_X7_rule_215, e1, e2]
      exact isV_i ⟨Fr_trans fr' (Fr_mono sAr_M f5), t5, fun l => ⟨MRa_M (hm (cl_l l)) f5, (f5 40 0 7 rfl).trans ((fr 40 0 7 rfl).trans s3)⟩⟩
    have fin2 : ∀ k (a : Nat) u2 x M' ts, a < 15 → Fr sM M3 M' → MPT M' N ts → atF tx N K (.inl W) = cl tx N ts → (ts.isLeft = true → aput A a x = auF tx N A K (.inl W)) → isV (BK L xs (EX L xs (d + 1)) mi_X7_rule (RN L xs (d) mi_X7_rule FUEL) (k + 60) 196 [some (.inr (.inr (40, 0))), some (.inl (nI a)), u2] [.inl x] M' O none 0 0) O (fun M' => Fr sAr M M' ∧ MPT M' N (arT tx N c p) ∧ ((arT tx N c p).isLeft = true → MRa M' (auF tx N A K (.inl W)) ∧ M' 40 0 7 = nI (c + 1))) := by
      intro k a u2 x M' ts ha fr ht e2 hm
      have fr6 : Fr (fun g i k => decide ((g = 40 ∧ (k = 4 ∨ k = 5 ∨ k = 6)) ∨ g = 65)) M3 M' := Fr_mono (fun g i k h => decide_eq_false (by have := of_decide_eq_false h; omega)) fr
      rw [e_X7_rule_196]
      by_cases l : ts.isLeft = true
      · rw [if_pos (MPT_l ht l), if_pos (in_15 ha), hl_cl (by omega)]
        refine fin _ _ _ _ ts (Fr_put fr6 rfl) (MPT_e ht (fun _ _ _ => rfl)) e2 (fun l => ?_)
        rw [← hm l]
        exact MRa_p (MRa_M hR3 fr)
      · rw [if_neg (MPT_n ht l)]
        exact fin _ _ _ _ ts fr6 ht e2 (fun l' => absurd l' l)
    rcases (by omega : K = 0 ∨ K = 1 ∨ K = 2 ∨ K = 3) with rfl | rfl | rfl | rfl
    · obtain ⟨M4, q4, f4, t4⟩ := x7_number L xs O (D := d + 1) (by omega) (.inl W) 0 11 (by decide) M3 hX3 t3
      obtain ⟨M5, q5, f5, t5⟩ := x7_number L xs O (D := d + 1) (by omega) (nb tx N (.inl W) 0 11) 0 4 (by decide) M4 (MX_fr hX3 f4) t4
      have w11 : (11 : Int32).toInt = 11 := by decide
      have hv : ∃ v, v < 12 ∧ nvM tx N (.inl W) 0 11 = nI v ∧ ((nb tx N (.inl W) 0 11).isLeft = true → v = nvN tx N (.inl W)) := by
        by_cases l : (nb tx N (.inl W) 0 11).isLeft = true
        · obtain ⟨a, b⟩ := nb_in (by decide) l
          exact ⟨nvN tx N (.inl W), by omega, nvM_l l, fun _ => rfl⟩
        · refine ⟨0, by omega, ?_, fun e => absurd e l⟩
          unfold nvM
          cases e : nb tx N (.inl W) 0 11 with
          | inl p =>
            rw [e] at l
            exact absurd rfl l
          | inr x => rfl
      obtain ⟨v, hv1, hv2, hv3⟩ := hv
      rw [if_pos (by decide), q4]
      simp only [xr_v, Nat.reduceAdd, Nat.add_zero]
      rw [hv2, e_X7_rule_155, e_X7_rule_156, if_neg (by rw [yle_13 (by omega)]; omega), q5]
      simp only [xr_v, Nat.reduceAdd, Nat.add_zero]
      rw [e_X7_rule_168]
      refine fin2 _ v _ _ _ _ (by omega) (Fr_trans f4 f5) t5 rfl (fun l => ?_)
      rw [nvM_l l, hv3 (nb_ll l)]
      rfl
    · obtain ⟨M4, q4, f4, t4⟩ := x7_number L xs O (D := d + 1) (by omega) (.inl W) 0 4 (by decide) M3 hX3 t3
      rw [if_neg (by decide), e_X7_rule_156, if_neg (by decide), q4]
      simp only [xr_v, Nat.reduceAdd, Nat.add_zero]
      rw [e_X7_rule_168]
      refine fin2 _ 12 _ _ _ _ (by omega) f4 t4 rfl (fun l => ?_)
      rw [nvM_l l]
      rfl
    · obtain ⟨M4, q4, f4, t4⟩ := x7_number L xs O (D := d + 1) (by omega) (.inl W) 1 99 (by decide) M3 hX3 t3
      rw [if_neg (by decide), e_X7_rule_156, if_pos (by decide), if_pos (by decide), q4]
      simp only [xr_v, Nat.reduceAdd, Nat.add_zero]
      rw [e_X7_rule_186]
      refine fin2 _ 13 _ _ _ _ (by omega) f4 t4 rfl (fun l => ?_)
      rw [nvM_l l]
      rfl
    · obtain ⟨M4, q4, f4, t4⟩ := x7_number L xs O (D := d + 1) (by omega) (.inl W) 0 8 (by decide) M3 hX3 t3
      rw [if_neg (by decide), e_X7_rule_156, if_pos (by decide), if_neg (by decide), q4]
      simp only [xr_v, Nat.reduceAdd, Nat.add_zero]
      refine fin2 _ 14 _ _ _ _ (by omega) f4 t4 rfl (fun l => ?_)
      rw [nvM_l l]
      rfl
end
