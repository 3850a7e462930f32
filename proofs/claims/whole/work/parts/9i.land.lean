/-! A LAND's text: clause by clause; the class reads it. -/
def fullB (U : Vw) (K : Nat) : Bool := decide ((K = 3 ∧ 8 ≤ vN U 3 4) ∨ (K = 5 ∧ 6 ≤ vN U 3 8) ∨ (6 ≤ K ∧ 8 ≤ vN U 3 13))
def na (tx : Nat → Nat) (N m : Nat) (ts : TS) : TS := nb tx N ts 0 (nI m - 1)
def ctF (tx : Nat → Nat) (N : Nat) (U : Vw) (K : Nat) (ts : TS) : TS := match K with
  | 0 => cl tx N (nb tx N ts 8 40)
  | 1 => cl tx N (nb tx N (nb tx N (nb tx N (na tx N (vN U 3 0) ts) (nv tx N ts) (nI (vN U 3 0) - 1)) 0 3) 0 9)
  | 2 => cl tx N (nb tx N (na tx N (vN U 3 0) ts) 1 9)
  | 3 => cl tx N (nb tx N (na tx N (vN U 3 0) ts) 0 60)
  | 4 => cl tx N (nb tx N (nb tx N ts 0 23) 0 40)
  | 5 => cl tx N (nb tx N (nb tx N (nb tx N (na tx N (vN U 3 0) ts) 1 120) 1 3) 1 16777215)
  | 6 => cl tx N (nb tx N (nb tx N (na tx N (vN U 3 0) ts) 1 9) 1 99)
  | 7 => cl tx N (nb tx N (nb tx N (na tx N (vN U 3 0) ts) (nv tx N ts) (nI (vN U 3 0) - 1)) 1 99)
  | 8 => cl tx N (nb tx N (nb tx N (na tx N (vN U 3 8) ts) 1 99) 1 99)
  | _ => cl tx N (nb tx N (nb tx N (na tx N (vN U 3 4) ts) 1 30) 1 99)
def vwk (U : Vw) (nw : Nat) (k x y z : Int32) : Vw := vput (vput (vput (vput (vput U 14 nw k) 15 nw x) 16 nw y) 17 nw z) 3 13 (nI (nw + 1))
def cuF (tx : Nat → Nat) (N : Nat) (U : Vw) (K : Nat) (ts : TS) : Vw := match K with
  | 0 => vput U 3 0 (nI (nvN tx N ts))
  | 1 => vgr U (nvN tx N ts) (nvN tx N (na tx N (vN U 3 0) ts) + 1) (nI (nvN tx N (nb tx N (na tx N (vN U 3 0) ts) (nv tx N ts) (nI (vN U 3 0) - 1)))) (nI (nvN tx N (nb tx N (nb tx N (na tx N (vN U 3 0) ts) (nv tx N ts) (nI (vN U 3 0) - 1)) 0 3)))
  | 2 => vput U 6 (nvN tx N ts) (nI (nvN tx N (na tx N (vN U 3 0) ts)))
  | 3 => vput (vput (vput U 7 (vN U 3 4) (nI (nvN tx N ts))) 8 (vN U 3 4) (nI (nvN tx N (na tx N (vN U 3 0) ts)))) 3 4 (nI (vN U 3 4 + 1))
  | 4 => vput U 9 (nvN tx N ts) (nI (nvN tx N (nb tx N ts 0 23)))
  | 5 => vput (vput (vput (vput (vput U 10 (vN U 3 8) (nI (nvN tx N ts))) 11 (vN U 3 8) (nI (nvN tx N (na tx N (vN U 3 0) ts)))) 12 (vN U 3 8) (nI (nvN tx N (nb tx N (na tx N (vN U 3 0) ts) 1 120)))) 13 (vN U 3 8) (nI (nvN tx N (nb tx N (nb tx N (na tx N (vN U 3 0) ts) 1 120) 1 3)))) 3 8 (nI (vN U 3 8 + 1))
  | 6 => vwk U (vN U 3 13) 6 (nI (nvN tx N ts)) (nI (nvN tx N (na tx N (vN U 3 0) ts))) (nI (nvN tx N (nb tx N (na tx N (vN U 3 0) ts) 1 9)))
  | 7 => vwk U (vN U 3 13) 7 (nI (nvN tx N ts)) (nI (nvN tx N (na tx N (vN U 3 0) ts))) (nI (nvN tx N (nb tx N (na tx N (vN U 3 0) ts) (nv tx N ts) (nI (vN U 3 0) - 1))))
  | 8 => vwk U (vN U 3 13) 8 (nI (nvN tx N ts)) (nI (nvN tx N (na tx N (vN U 3 8) ts))) (nI (nvN tx N (nb tx N (na tx N (vN U 3 8) ts) 1 99)))
  | _ => vwk U (vN U 3 13) 9 (nI (nvN tx N ts)) (nI (nvN tx N (na tx N (vN U 3 4) ts))) (nI (nvN tx N (nb tx N (na tx N (vN U 3 4) ts) 1 30)))
/-- one clause, the c-th, that begins at p -/
def czT (tx : Nat → Nat) (N c : Nat) (U : Vw) (p : Nat) : TS := match kwC tx N p with
  | none => .inr (1, p)
  | some K => if 60 ≤ c ∨ fullB U K = true then .inr (3, p) else if K = 0 ∧ 0 < c then .inr (4, p) else ctF tx N U K (.inl (scn tx N isA p))
def czU (tx : Nat → Nat) (N c : Nat) (U : Vw) (p : Nat) : Vw := match kwC tx N p with
  | none => U
  | some K => if (czT tx N c U p).isLeft = true then cuF tx N U K (.inl (scn tx N isA p)) else U
/-- a LAND while it is read -/
def RK (U : Vw) : Prop := VOK U (vN U 3 0) (vN U 3 4) (vN U 3 8) (vN U 3 13) ∧ ∀ j, j < 40 → (U 4 j = nI (vN U 4 j) ∧ vN U 4 j < 4) ∧ (U 5 j = nI (vN U 5 j) ∧ vN U 5 j ≤ 9) ∧ (U 6 j = nI (vN U 6 j) ∧ vN U 6 j ≤ 9)
theorem TP_b1 {M : Mem} {N : Nat} {ts : TS} (h : TP M N 0 ts) : TP M N 1 ts := by
  cases ts with
  | inl p => exact h
  | inr e =>
    obtain ⟨⟨p, h0, h1⟩, h2⟩ := h
    exact ⟨⟨p, by omega, h1⟩, h2⟩
theorem TP_bl {M : Mem} {N W b kd p : Nat} (h : TP M N b (.inl W)) (h1 : 1 ≤ kd) (h2 : kd ≤ 4) (hp : p ≤ N) : TP (mput (mput M 1 0 4 (nI kd)) 1 0 5 (nI p)) N 1 (.inr (kd, p)) := by
  have hW := h.1
  refine ⟨⟨W, by omega, ?_⟩, h1, h2, hp, ?_, mp_s⟩
  · rw [mp_k (by omega), mp_k (by omega), h.2.1]
  · rw [mp_k (by omega), mp_s]
section
variable (L : Nat) (xs : Nat → Int32) (O : Int64) {tx : Nat → Nat} {N : Nat}
theorem x1_isFull {D : Nat} (hD : 2 ≤ D) (i : Nat) {U : Vw} (hU : RK U) (K : Nat) (hK : K < 10) (M : Mem) (hL : CL M i U) : EX L xs (D) q_X1_isFull [.inr (.inr (3, i)), .inl (nI K)] M O = (some (.inl (some (.inl (b2i (fullB U K)))), M, O, 0, 0) : Res) := by
  obtain ⟨d, rfl⟩ : ∃ d, D = d + 2 := ⟨D - 2, by omega⟩
  refine (EX_in mi_X1_isFull rfl rfl rfl (ls := [some (.inr (.inr (3, i))), some (.inl (nI K))]) rfl).trans ?_
  obtain ⟨⟨v0, v1, v2, v3, v4, v5, v6, v7, v8, -⟩, -⟩ := hU
  have e4 := (hL 3 4 rfl).trans v1
  have e8 := (hL 3 8 rfl).trans v2
  have e13 := (hL 3 13 rfl).trans v3
  unfold fullB
  have one : ∀ k, BK L xs (EX L xs (d + 1)) mi_X1_isFull (RN L xs (d) mi_X1_isFull FUEL) (k + 20) 43 [some (.inr (.inr (3, i))), some (.inl (nI K))] [] M O none 0 0 = (some (.inl (some (.inl (1))), M, O, 0, 0) : Res) := fun k => by rw [e_X1_isFull_43, e_X1_isFull_48, if_pos (Or.inr rfl)]
  have zer : ∀ k, BK L xs (EX L xs (d + 1)) mi_X1_isFull (RN L xs (d) mi_X1_isFull FUEL) (k + 20) 47 [some (.inr (.inr (3, i))), some (.inl (nI K))] [] M O none 0 0 = (some (.inl (some (.inl (0))), M, O, 0, 0) : Res) := fun k => by rw [e_X1_isFull_47, e_X1_isFull_48, if_pos (Or.inl rfl)]
  rw [e_X1_isFull_0]
  by_cases c3 : K = 3
  · rw [if_pos (by rw [c3]; rfl), e4]
    by_cases c : 8 ≤ vN U 3 4
    · rw [if_pos (by rw [yle_8 (by omega)]; exact c), one, decide_eq_true (Or.inl ⟨c3, c⟩)]
      rfl
    · rw [if_neg (by rw [yle_8 (by omega)]; exact c), e_X1_isFull_14, if_neg (by rw [zeq_5 (by omega)]; omega), e_X1_isFull_28, if_pos (by rw [zlt_6 (by omega)]; omega), zer, decide_eq_false (by omega)]
      rfl
  · rw [if_neg (by rw [zeq_3 (by omega)]; exact c3), e_X1_isFull_14]
    by_cases c5 : K = 5
    · rw [if_pos (by rw [c5]; rfl), e8]
      by_cases c : 6 ≤ vN U 3 8
      · rw [if_pos (by rw [yle_6 (by omega)]; exact c), one, decide_eq_true (by omega)]
        rfl
      · rw [if_neg (by rw [yle_6 (by omega)]; exact c), e_X1_isFull_28, if_pos (by rw [zlt_6 (by omega)]; omega), zer, decide_eq_false (by omega)]
        rfl
    · rw [if_neg (by rw [zeq_5 (by omega)]; exact c5), e_X1_isFull_28]
      by_cases c6 : K < 6
      · rw [if_pos (by rw [zlt_6 (by omega)]; exact c6), zer, decide_eq_false (by omega)]
        rfl
      · rw [if_neg (by rw [zlt_6 (by omega)]; exact c6), e13]
        by_cases c : vN U 3 13 < 8
        · rw [if_pos (by rw [zlt_8 (by omega)]; exact c), zer, decide_eq_false (by omega)]
          rfl
        · rw [if_neg (by rw [zlt_8 (by omega)]; exact c), one, decide_eq_true (by omega)]
          rfl
theorem x1_isFull_m {D : Nat} (hD : 2 ≤ D) (i : Nat) (M : Mem) : EX L xs (D) q_X1_isFull [.inr (.inr (3, i)), .inl ((-1))] M O = (some (.inl (some (.inl (0))), M, O, 0, 0) : Res) := by
  obtain ⟨d, rfl⟩ : ∃ d, D = d + 2 := ⟨D - 2, by omega⟩
  refine (EX_in mi_X1_isFull rfl rfl rfl (ls := [some (.inr (.inr (3, i))), some (.inl ((-1)))]) rfl).trans ?_
  rw [e_X1_isFull_0, if_neg (by decide), e_X1_isFull_14, if_neg (by decide), e_X1_isFull_28, if_pos (by decide), e_X1_isFull_47, e_X1_isFull_48, if_pos (Or.inl rfl)]
theorem x1_readClause {D : Nat} (hD : 7 ≤ D) (i c : Nat) (hc : c ≤ 60) {U : Vw} (hU : RK U) (p : Nat) (M : Mem) (hX : TX M tx N) (hT : TP M N 0 (.inl p)) (hL : CL M i U) : isV (EX L xs (D) q_X1_readClause [.inr (.inr (3, i)), .inr (.inr (1, 0)), .inl (nI c)] M O) O (fun M' => Fr (sR i) M M' ∧ TP M' N 1 (czT tx N c U p) ∧ CL M' i (czU tx N c U p)) := by
  obtain ⟨d, rfl⟩ : ∃ d, D = d + 2 := ⟨D - 2, by omega⟩
  refine isV_e (EX_in mi_X1_readClause rfl rfl rfl (ls := [some (.inr (.inr (3, i))), some (.inr (.inr (1, 0))), some (.inl (nI c)), none, none]) rfl) ?_
  have hpN : p ≤ N := hT.1
  have h600 := hX.1
  obtain ⟨M1, q1, f1, t1⟩ := x5_word L xs O (D := d + 1) (by omega) p M hX hT
  have hX1 := TX_fr hX f1
  have hL1 : CL M1 i U := CL_fr hL f1 (fun g k h => sT_ld h)
  rw [e_X1_readClause_0, q1, hT.2.1]
  simp only [xr_v, Nat.reduceAdd, Nat.add_zero]
  unfold czU
  have eT : czT tx N c U p = match kwC tx N p with
    | none => .inr (1, p)
    | some K => if 60 ≤ c ∨ fullB U K = true then .inr (3, p) else if K = 0 ∧ 0 < c then .inr (4, p) else ctF tx N U K (.inl (scn tx N isA p)) := rfl
  cases e : fnd (wPr ch93 tx N p) 56 with
  | none =>
    have ek : kwC tx N p = none := by
      unfold kwC
      rw [e]
      rfl
    rw [ek] at eT
    rw [e] at t1
    have h4 := TP_4 t1
    have fin : ∀ k, isV (BK L xs (EX L xs (d + 1)) mi_X1_readClause (RN L xs (d) mi_X1_readClause FUEL) (k + 100) 52 [some (.inr (.inr (3, i))), some (.inr (.inr (1, 0))), some (.inl (nI c)), some (.inl (nI p)), some (.inl ((-1)))] [] M1 O none 0 0) O (fun M' => Fr (sR i) M M' ∧ TP M' N 1 (czT tx N c U p) ∧ CL M' i U) := by
      intro k
      rw [e_X1_readClause_52, if_neg h4, eT]
      exact isV_i ⟨Fr_mono sR_T f1, TP_b1 t1, hL1⟩
    rw [ek, e_X1_readClause_11]
    by_cases c60 : 60 ≤ c
    · rw [if_pos (by rw [yle_60 (by omega)]; exact c60), e_X1_readClause_28, x5_blame_1 L xs O (D := d + 1) (by omega) 3 (nI p) M1 h4]
      simp only [xr_n, Nat.reduceAdd, Nat.add_zero]
      rw [e_X1_readClause_34]
      exact fin _
    · rw [if_neg (by rw [yle_60 (by omega)]; exact c60), x1_isFull_m L xs O (D := d + 1) (by omega) i M1]
      simp only [xr_v, Nat.reduceAdd, Nat.add_zero]
      rw [e_X1_readClause_25, if_pos rfl, if_neg (by decide)]
      exact fin _
  | some j =>
    have ek : kwC tx N p = some (nuF ch93 j) := by
      unfold kwC
      rw [e]
      rfl
    have hK := (kwC_s ek).1
    rw [e] at t1
    rw [ek] at eT ⊢
    dsimp only at eT t1 ⊢
    generalize nuF ch93 j = K at *
    generalize hW : scn tx N isA p = W at *
    have h4 : M1 1 0 4 = 0 := t1.2.2.1
    obtain ⟨⟨v0, v1, v2, v3, v4, v5, v6, v7, v8, -⟩, -⟩ := id hU
    -- a FAULT
    have bad : ∀ kd k, 1 ≤ kd → kd ≤ 4 → czT tx N c U p = .inr (kd, p) → isV (BK L xs (EX L xs (d + 1)) mi_X1_readClause (RN L xs (d) mi_X1_readClause FUEL) (k + 100) 52 [some (.inr (.inr (3, i))), some (.inr (.inr (1, 0))), some (.inl (nI c)), some (.inl (nI p)), some (.inl (nI K))] [] (mput (mput M1 1 0 4 (nI kd)) 1 0 5 (nI p)) O none 0 0) O (fun M' => Fr (sR i) M M' ∧ TP M' N 1 (czT tx N c U p) ∧ CL M' i (if (czT tx N c U p).isLeft = true then cuF tx N U K (.inl W) else U)) := by
      intro kd k a b e1
      rw [e_X1_readClause_52, if_neg (by rw [mp_k (by omega), mp_s, zeq_0 (by omega)]; omega), e1]
      refine isV_i ⟨Fr_put (Fr_put (Fr_mono sR_T f1) rfl) rfl, TP_bl t1 a b hpN, ?_⟩
      exact CL_fr (S := sT) hL1 (Fr_put (Fr_put Fr_refl rfl) rfl) (fun g k h => sT_ld h)
    have good : ∀ k, czT tx N c U p = ctF tx N U K (.inl W) → fullB U K = false → isV (BK L xs (EX L xs (d + 1)) mi_X1_readClause (RN L xs (d) mi_X1_readClause FUEL) (k + 100) 52 [some (.inr (.inr (3, i))), some (.inr (.inr (1, 0))), some (.inl (nI c)), some (.inl (nI p)), some (.inl (nI K))] [] M1 O none 0 0) O (fun M' => Fr (sR i) M M' ∧ TP M' N 1 (czT tx N c U p) ∧ CL M' i (if (czT tx N c U p).isLeft = true then cuF tx N U K (.inl W) else U)) := by
      intro k e1 hfu
      have hfu := of_decide_eq_false hfu
      rw [e_X1_readClause_52, if_pos h4, e1]
      rcases (by omega : K = 0 ∨ K = 1 ∨ K = 2 ∨ K = 3 ∨ K = 4 ∨ K = 5 ∨ K = 6 ∨ K = 7 ∨ K = 8 ∨ K = 9) with rfl | rfl | rfl | rfl | rfl | rfl | rfl | rfl | rfl | rfl
      · obtain ⟨M2, q2, f2, t2, l2⟩ := x1_readCells L xs O (D := d + 1) (by omega) i (U := U)  (.inl W) M1 hX1 t1 hL1
        rw [show (nI 0 : Int32) = 0 from rfl, e_X1_readClause_62_c0, e_X1_readClause_100, q2]
        simp only [xr_n, Nat.reduceAdd, Nat.add_zero]
        rw [e_X1_readClause_105, e_X1_readClause_155]
        exact isV_i ⟨Fr_trans (Fr_mono sR_T f1) f2, t2, l2⟩
      · obtain ⟨M2, q2, f2, t2, l2⟩ := x1_readGround L xs O (D := d + 1) (by omega) i (U := U) v0 v5 (.inl W) M1 hX1 t1 hL1
        rw [show (nI 1 : Int32) = 1 from rfl, e_X1_readClause_62_c1, e_X1_readClause_108, q2]
        simp only [xr_n, Nat.reduceAdd, Nat.add_zero]
        rw [e_X1_readClause_113, e_X1_readClause_155]
        exact isV_i ⟨Fr_trans (Fr_mono sR_T f1) f2, t2, l2⟩
      · obtain ⟨M2, q2, f2, t2, l2⟩ := x1_readWall L xs O (D := d + 1) (by omega) i (U := U) v0 v5 (.inl W) M1 hX1 t1 hL1
        rw [show (nI 2 : Int32) = 2 from rfl, e_X1_readClause_62_c2, e_X1_readClause_116, q2]
        simp only [xr_n, Nat.reduceAdd, Nat.add_zero]
        rw [e_X1_readClause_121, e_X1_readClause_155]
        exact isV_i ⟨Fr_trans (Fr_mono sR_T f1) f2, t2, l2⟩
      · obtain ⟨M2, q2, f2, t2, l2⟩ := x1_readHouse L xs O (D := d + 1) (by omega) i (U := U) v0 v5 v1 (by omega) (.inl W) M1 hX1 t1 hL1
        rw [show (nI 3 : Int32) = 3 from rfl, e_X1_readClause_62_c3, e_X1_readClause_124, q2]
        simp only [xr_n, Nat.reduceAdd, Nat.add_zero]
        rw [e_X1_readClause_129, e_X1_readClause_155]
        exact isV_i ⟨Fr_trans (Fr_mono sR_T f1) f2, t2, l2⟩
      · obtain ⟨M2, q2, f2, t2, l2⟩ := x1_readHum L xs O (D := d + 1) (by omega) i (U := U)  (.inl W) M1 hX1 t1 hL1
        rw [show (nI 4 : Int32) = 4 from rfl, e_X1_readClause_62_c4, e_X1_readClause_132, q2]
        simp only [xr_n, Nat.reduceAdd, Nat.add_zero]
        rw [e_X1_readClause_137, e_X1_readClause_155]
        exact isV_i ⟨Fr_trans (Fr_mono sR_T f1) f2, t2, l2⟩
      · obtain ⟨M2, q2, f2, t2, l2⟩ := x1_readSource L xs O (D := d + 1) (by omega) i (U := U) v0 v5 v2 (by omega) (.inl W) M1 hX1 t1 hL1
        rw [show (nI 5 : Int32) = 5 from rfl, e_X1_readClause_62_c5, e_X1_readClause_140, q2]
        simp only [xr_n, Nat.reduceAdd, Nat.add_zero]
        rw [e_X1_readClause_145, e_X1_readClause_155]
        exact isV_i ⟨Fr_trans (Fr_mono sR_T f1) f2, t2, l2⟩
      · obtain ⟨M2, q2, f2, t2, l2⟩ := x1_readWork6 L xs O (D := d + 1) (by omega) i (U := U) v0 v5 v3 (by omega) (.inl W) M1 hX1 t1 hL1
        rw [show (nI 6 : Int32) = 6 from rfl, e_X1_readClause_62_d (h := by decide), e_X1_readClause_148, q2]
        simp only [xr_n, Nat.reduceAdd, Nat.add_zero]
        rw [e_X1_readClause_155]
        exact isV_i ⟨Fr_trans (Fr_mono sR_T f1) f2, t2, l2⟩
      · obtain ⟨M2, q2, f2, t2, l2⟩ := x1_readWork7 L xs O (D := d + 1) (by omega) i (U := U) v0 v5 v3 (by omega) (.inl W) M1 hX1 t1 hL1
        rw [show (nI 7 : Int32) = 7 from rfl, e_X1_readClause_62_d (h := by decide), e_X1_readClause_148, q2]
        simp only [xr_n, Nat.reduceAdd, Nat.add_zero]
        rw [e_X1_readClause_155]
        exact isV_i ⟨Fr_trans (Fr_mono sR_T f1) f2, t2, l2⟩
      · obtain ⟨M2, q2, f2, t2, l2⟩ := x1_readWork8 L xs O (D := d + 1) (by omega) i (U := U) v2 v7 v3 (by omega) (.inl W) M1 hX1 t1 hL1
        rw [show (nI 8 : Int32) = 8 from rfl, e_X1_readClause_62_d (h := by decide), e_X1_readClause_148, q2]
        simp only [xr_n, Nat.reduceAdd, Nat.add_zero]
        rw [e_X1_readClause_155]
        exact isV_i ⟨Fr_trans (Fr_mono sR_T f1) f2, t2, l2⟩
      · obtain ⟨M2, q2, f2, t2, l2⟩ := x1_readWork9 L xs O (D := d + 1) (by omega) i (U := U) v1 v6 v3 (by omega) (.inl W) M1 hX1 t1 hL1
        rw [show (nI 9 : Int32) = 9 from rfl, e_X1_readClause_62_d (h := by decide), e_X1_readClause_148, q2]
        simp only [xr_n, Nat.reduceAdd, Nat.add_zero]
        rw [e_X1_readClause_155]
        exact isV_i ⟨Fr_trans (Fr_mono sR_T f1) f2, t2, l2⟩
    rw [e_X1_readClause_11]
    by_cases c60 : 60 ≤ c
    · have e1 := eT.trans (if_pos (Or.inl c60))
      rw [if_pos (by rw [yle_60 (by omega)]; exact c60), e_X1_readClause_28, x5_blame_0 L xs O (D := d + 1) (by omega) 3 (nI p) M1 h4]
      simp only [xr_n, Nat.reduceAdd, Nat.add_zero]
      rw [e_X1_readClause_34]
      exact bad 3 _ (by omega) (by omega) e1
    · rw [if_neg (by rw [yle_60 (by omega)]; exact c60), x1_isFull L xs O (D := d + 1) (by omega) i hU K hK M1 hL1]
      simp only [xr_v, Nat.reduceAdd, Nat.add_zero]
      rw [e_X1_readClause_25]
      by_cases cf : fullB U K = true
      · have e1 := eT.trans (if_pos (Or.inr cf))
        rw [cf, b2i_t, if_neg (by decide), e_X1_readClause_28, x5_blame_0 L xs O (D := d + 1) (by omega) 3 (nI p) M1 h4]
        simp only [xr_n, Nat.reduceAdd, Nat.add_zero]
        rw [e_X1_readClause_34]
        exact bad 3 _ (by omega) (by omega) e1
      · have e1 := eT.trans (if_neg (fun e => e.elim c60 cf))
        rw [Bool.eq_false_iff.2 cf, b2i_f, if_pos rfl]
        by_cases c0 : K = 0
        · by_cases cc : c = 0
          · rw [if_pos (by rw [c0]; rfl), if_pos (by rw [cc]; decide)]
            exact good _ (e1.trans (if_neg (by omega))) (Bool.eq_false_iff.2 cf)
          · rw [if_pos (by rw [c0]; rfl), if_neg (by rw [zle_0 (by omega)]; omega), x5_blame_0 L xs O (D := d + 1) (by omega) 4 (nI p) M1 h4]
            simp only [xr_n, Nat.reduceAdd, Nat.add_zero]
            exact bad 4 _ (by omega) (by omega) (e1.trans (if_pos (by omega)))
        · rw [if_neg (by rw [zeq_0 (by omega)]; exact c0)]
          exact good _ (e1.trans (if_neg (by omega))) (Bool.eq_false_iff.2 cf)
end
