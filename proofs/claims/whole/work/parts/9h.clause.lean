/-! A LAND's clauses: the class reads them. -/
def nvN (tx : Nat → Nat) (N : Nat) (ts : TS) : Nat := match ts with
  | .inr _ => 0
  | .inl p => vl tx N (scn tx N isB p) 0
def sR (i0 g i k : Nat) : Bool := decide ((g = 1 ∧ (k = 3 ∨ k = 4 ∨ k = 5)) ∨ (3 ≤ g ∧ g ≤ 17 ∧ i = i0))
theorem sR_T {i0 : Nat} (g i k : Nat) (h : sR i0 g i k = false) : sT g i k = false := by
  have := of_decide_eq_false h
  exact decide_eq_false (by omega)
theorem sT_ld {g i k : Nat} (h : isLand g = true) : sT g i k = false := by
  unfold isLand at h
  rw [Bool.and_eq_true] at h
  have := Nat.le_of_ble_eq_true h.1
  exact decide_eq_false (by omega)
theorem sR_l {i0 g k : Nat} (h1 : 3 ≤ g) (h2 : g ≤ 17) : sR i0 g i0 k = true := decide_eq_true (Or.inr ⟨h1, h2, rfl⟩)
theorem hi_m1 : ∀ m, m < 101 → (nI m - 1).toInt = (m : Int) - 1 := by decide +kernel
theorem hi_lt {m : Nat} (h : m ≤ 100) : (nI m - 1).toInt < 99999999 := by
  rw [hi_m1 m (by omega)]
  omega
section
variable {tx : Nat → Nat} {N : Nat} {ts : TS} {lo hi : Int32}
theorem nv_N : nv tx N ts = nI (nvN tx N ts) := by
  cases ts <;> rfl
theorem nb_ll (h : (nb tx N ts lo hi).isLeft = true) : ts.isLeft = true := by
  cases ts with
  | inl p => rfl
  | inr e => cases h
theorem cl_l (h : (cl tx N ts).isLeft = true) : ts.isLeft = true := by
  cases ts with
  | inl p => rfl
  | inr e => cases h
theorem nvC_l (h : (nb tx N ts lo hi).isLeft = true) : nvC tx N ts lo hi = nI (nvN tx N ts) := by
  unfold nvC
  cases e : nb tx N ts lo hi with
  | inl p => exact nv_N
  | inr e' =>
    rw [e] at h
    cases h
theorem nvM_l (h : (nb tx N ts lo hi).isLeft = true) : nvM tx N ts lo hi = nI (nvN tx N ts) := by
  unfold nvM
  cases e : nb tx N ts lo hi with
  | inl p => exact nv_N
  | inr e' =>
    rw [e] at h
    cases h
theorem nb_C {hi2 : Int32} : nb tx N (nb tx N ts lo hi) (nvC tx N ts lo hi) hi2 = nb tx N (nb tx N ts lo hi) (nv tx N ts) hi2 := by
  unfold nvC
  cases e : nb tx N ts lo hi <;> rfl
theorem nb_M {hi2 : Int32} : nb tx N (nb tx N ts lo hi) (nvM tx N ts lo hi) hi2 = nb tx N (nb tx N ts lo hi) (nv tx N ts) hi2 := by
  unfold nvM
  cases e : nb tx N ts lo hi <;> rfl
theorem nb_in (hhi : hi.toInt < 99999999) (h : (nb tx N ts lo hi).isLeft = true) : lo.toInt ≤ (nvN tx N ts : Int) ∧ (nvN tx N ts : Int) ≤ hi.toInt := by
  cases ts with
  | inr e => cases h
  | inl p =>
    rw [nb_l] at h
    by_cases c1 : scn tx N isG (scn tx N isB p) = scn tx N isB p
    · rw [if_pos c1] at h
      cases h
    · rw [if_neg c1] at h
      by_cases c2 : nbOK (vl tx N (scn tx N isB p) 0) lo hi = true
      · unfold nbOK at c2
        obtain ⟨h1, h2⟩ := of_decide_eq_true c2
        show lo.toInt ≤ (vl tx N (scn tx N isB p) 0 : Int) ∧ (vl tx N (scn tx N isB p) 0 : Int) ≤ hi.toInt
        generalize vl tx N (scn tx N isB p) 0 = x at *
        have hc := cap_le 99999999 x
        rw [i_lt, hl_toInt (by omega)] at h1 h2
        by_cases c3 : x < 99999999
        · rw [show cap 99999999 x = x from if_pos c3] at h1 h2
          omega
        · rw [show cap 99999999 x = 99999999 from if_neg c3] at h1 h2
          omega
      · rw [if_neg c2] at h
        cases h
end
theorem TP_1 {M M' : Mem} {N b : Nat} {ts : TS} (h : TP M N b ts) (e : ∀ k, M' 1 0 k = M 1 0 k) : TP M' N b ts := by
  cases ts with
  | inl p => exact ⟨h.1, (e 3).trans h.2.1, (e 4).trans h.2.2.1, (e 5).trans h.2.2.2⟩
  | inr x =>
    obtain ⟨⟨p, h0, h1⟩, h2, h3, h4, h5, h6⟩ := h
    exact ⟨⟨p, h0, (e 3).trans h1⟩, h2, h3, h4, (e 4).trans h5, (e 5).trans h6⟩
def vgr (U : Vw) (a e : Nat) (x y : Int32) : Vw := fun g k => if g = 4 ∧ a ≤ k ∧ k < e then x else if g = 5 ∧ a ≤ k ∧ k < e then y else U g k
theorem vgr_0 {U : Vw} {a e g k : Nat} {x y : Int32} (h : e ≤ a) : vgr U a e x y g k = U g k := by
  unfold vgr
  rw [if_neg (by omega), if_neg (by omega)]
theorem vgr_s {U : Vw} {a j g k : Nat} {x y : Int32} : vput (vput (vgr U a (a + j) x y) 4 (a + j) x) 5 (a + j) y g k = vgr U a (a + (j + 1)) x y g k := by
  unfold vput vgr
  repeat' split
  all_goals first
    | rfl
    | (exfalso; omega)
theorem CL_eq {M : Mem} {i : Nat} {V V' : Vw} (h : CL M i V) (e : ∀ g k, V g k = V' g k) : CL M i V' := fun g k hl => (h g k hl).trans (e g k)
section
variable (L : Nat) (xs : Nat → Int32) (O : Int64) {tx : Nat → Nat} {N : Nat}
theorem x1_readCells {D : Nat} (hD : 6 ≤ D) (i : Nat) {U : Vw}  (ts : TS) (M : Mem) (hX : TX M tx N) (hT : TP M N 0 ts) (hL : CL M i U) : isV (EX L xs (D) q_X1_readCells [.inr (.inr (3, i)), .inr (.inr (1, 0))] M O) O (fun M' => Fr (sR i) M M' ∧ TP M' N 1 (cl tx N (nb tx N ts 8 40)) ∧ CL M' i (if (cl tx N (nb tx N ts 8 40)).isLeft = true then vput U 3 0 (nI (nvN tx N ts)) else U)) := by
  obtain ⟨d, rfl⟩ : ∃ d, D = d + 2 := ⟨D - 2, by omega⟩
  refine isV_e (EX_in mi_X1_readCells rfl rfl rfl (ls := [some (.inr (.inr (3, i))), some (.inr (.inr (1, 0))), none]) rfl) ?_
  obtain ⟨M1, q1, f1, t1⟩ := x5_number L xs O (D := d + 1) (by omega) ts 8 40 (by decide) M hX (b := 0) (by omega) hT
  have hX1 := TX_fr hX f1
  have g1 : Fr sT M M1 := f1
  have hL1 : CL M1 i U := CL_fr hL g1 (fun g k h => sT_ld h)
  rw [e_X1_readCells_0, q1]
  simp only [xr_v, Nat.reduceAdd, Nat.add_zero]
  obtain ⟨Mc, qc, fc, tc⟩ := x5_closes L xs O (D := d + 1) (by omega) (nb tx N ts 8 40) M1 hX1 t1
  have gc : Fr sT M Mc := Fr_trans g1 fc
  have hLc : CL Mc i U := CL_fr hL gc (fun g k h => sT_ld h)
  rw [e_X1_readCells_8, qc]
  simp only [xr_v, Nat.reduceAdd, Nat.add_zero]
  rw [e_X1_readCells_13]
  by_cases c : (cl tx N (nb tx N ts 8 40)).isLeft = true
  · have l1 := cl_l c
    have y1 : nvC tx N ts 8 40 = nI (nvN tx N ts) := nvC_l l1
    obtain ⟨a1, b1⟩ := nb_in (by decide) l1
    rw [c, b2i_t, if_neg (by decide), y1, e_X1_readCells_21]
    exact isV_i ⟨Fr_put (Fr_mono sR_T gc) (sR_l (by omega) (by omega)), TP_1 tc (fun k => rfl), by rw [if_pos rfl]; exact CL_put hLc⟩
  · rw [Bool.eq_false_iff.2 c, b2i_f, if_pos rfl, e_X1_readCells_21]
    exact isV_i ⟨Fr_mono sR_T gc, tc, by rw [if_neg (by decide)]; exact hLc⟩
theorem x1_readWall {D : Nat} (hD : 6 ≤ D) (i : Nat) {U : Vw} {n : Nat} (hn : U 3 0 = nI n) (hn40 : n ≤ 40) (ts : TS) (M : Mem) (hX : TX M tx N) (hT : TP M N 0 ts) (hL : CL M i U) : isV (EX L xs (D) q_X1_readWall [.inr (.inr (3, i)), .inr (.inr (1, 0))] M O) O (fun M' => Fr (sR i) M M' ∧ TP M' N 1 (cl tx N (nb tx N (nb tx N ts 0 (nI n - 1)) 1 9)) ∧ CL M' i (if (cl tx N (nb tx N (nb tx N ts 0 (nI n - 1)) 1 9)).isLeft = true then vput U 6 (nvN tx N ts) (nI (nvN tx N (nb tx N ts 0 (nI n - 1)))) else U)) := by
  obtain ⟨d, rfl⟩ : ∃ d, D = d + 2 := ⟨D - 2, by omega⟩
  refine isV_e (EX_in mi_X1_readWall rfl rfl rfl (ls := [some (.inr (.inr (3, i))), some (.inr (.inr (1, 0))), none, none]) rfl) ?_
  have hi40 := hi_m1 n (by omega)
  obtain ⟨M1, q1, f1, t1⟩ := x5_number L xs O (D := d + 1) (by omega) ts 0 (nI n - 1) (hi_lt (by omega)) M hX (b := 0) (by omega) hT
  have hX1 := TX_fr hX f1
  have g1 : Fr sT M M1 := f1
  have hL1 : CL M1 i U := CL_fr hL g1 (fun g k h => sT_ld h)
  rw [e_X1_readWall_0, (hL 3 0 rfl).trans hn, q1]
  simp only [xr_v, Nat.reduceAdd, Nat.add_zero]
  obtain ⟨M2, q2, f2, t2⟩ := x5_number L xs O (D := d + 1) (by omega) (nb tx N ts 0 (nI n - 1)) 1 9 (by decide) M1 hX1 (b := 0) (by omega) t1
  have hX2 := TX_fr hX1 f2
  have g2 : Fr sT M M2 := Fr_trans g1 f2
  have hL2 : CL M2 i U := CL_fr hL g2 (fun g k h => sT_ld h)
  rw [e_X1_readWall_11, q2]
  simp only [xr_v, Nat.reduceAdd, Nat.add_zero]
  obtain ⟨Mc, qc, fc, tc⟩ := x5_closes L xs O (D := d + 1) (by omega) (nb tx N (nb tx N ts 0 (nI n - 1)) 1 9) M2 hX2 t2
  have gc : Fr sT M Mc := Fr_trans g2 fc
  have hLc : CL Mc i U := CL_fr hL gc (fun g k h => sT_ld h)
  rw [e_X1_readWall_19, qc]
  simp only [xr_v, Nat.reduceAdd, Nat.add_zero]
  rw [e_X1_readWall_24]
  by_cases c : (cl tx N (nb tx N (nb tx N ts 0 (nI n - 1)) 1 9)).isLeft = true
  · have l2 := cl_l c
    have l1 := nb_ll l2
    have y1 : nvC tx N ts 0 (nI n - 1) = nI (nvN tx N ts) := nvC_l l1
    obtain ⟨a1, b1⟩ := nb_in (hi_lt (by omega)) l1
    have y2 : nvC tx N (nb tx N ts 0 (nI n - 1)) 1 9 = nI (nvN tx N (nb tx N ts 0 (nI n - 1))) := nvC_l l2
    obtain ⟨a2, b2⟩ := nb_in (by decide) l2
    rw [c, b2i_t, if_neg (by decide), y1, y2, if_pos (in_40 (by omega)), hl_cl (by omega), e_X1_readWall_34]
    exact isV_i ⟨Fr_put (Fr_mono sR_T gc) (sR_l (by omega) (by omega)), TP_1 tc (fun k => rfl), by rw [if_pos rfl]; exact CL_put hLc⟩
  · rw [Bool.eq_false_iff.2 c, b2i_f, if_pos rfl, e_X1_readWall_34]
    exact isV_i ⟨Fr_mono sR_T gc, tc, by rw [if_neg (by decide)]; exact hLc⟩
theorem x1_readHouse {D : Nat} (hD : 6 ≤ D) (i : Nat) {U : Vw} {n : Nat} (hn : U 3 0 = nI n) (hn40 : n ≤ 40) {nh : Nat} (hnh : U 3 4 = nI nh) (hnh8 : nh < 8) (ts : TS) (M : Mem) (hX : TX M tx N) (hT : TP M N 0 ts) (hL : CL M i U) : isV (EX L xs (D) q_X1_readHouse [.inr (.inr (3, i)), .inr (.inr (1, 0))] M O) O (fun M' => Fr (sR i) M M' ∧ TP M' N 1 (cl tx N (nb tx N (nb tx N ts 0 (nI n - 1)) 0 60)) ∧ CL M' i (if (cl tx N (nb tx N (nb tx N ts 0 (nI n - 1)) 0 60)).isLeft = true then vput (vput (vput U 7 nh (nI (nvN tx N ts))) 8 nh (nI (nvN tx N (nb tx N ts 0 (nI n - 1))))) 3 4 (nI (nh + 1)) else U)) := by
  obtain ⟨d, rfl⟩ : ∃ d, D = d + 2 := ⟨D - 2, by omega⟩
  refine isV_e (EX_in mi_X1_readHouse rfl rfl rfl (ls := [some (.inr (.inr (3, i))), some (.inr (.inr (1, 0))), none, none]) rfl) ?_
  have hi40 := hi_m1 n (by omega)
  obtain ⟨M1, q1, f1, t1⟩ := x5_number L xs O (D := d + 1) (by omega) ts 0 (nI n - 1) (hi_lt (by omega)) M hX (b := 0) (by omega) hT
  have hX1 := TX_fr hX f1
  have g1 : Fr sT M M1 := f1
  have hL1 : CL M1 i U := CL_fr hL g1 (fun g k h => sT_ld h)
  rw [e_X1_readHouse_0, (hL 3 0 rfl).trans hn, q1]
  simp only [xr_v, Nat.reduceAdd, Nat.add_zero]
  obtain ⟨M2, q2, f2, t2⟩ := x5_number L xs O (D := d + 1) (by omega) (nb tx N ts 0 (nI n - 1)) 0 60 (by decide) M1 hX1 (b := 0) (by omega) t1
  have hX2 := TX_fr hX1 f2
  have g2 : Fr sT M M2 := Fr_trans g1 f2
  have hL2 : CL M2 i U := CL_fr hL g2 (fun g k h => sT_ld h)
  rw [e_X1_readHouse_11, q2]
  simp only [xr_v, Nat.reduceAdd, Nat.add_zero]
  obtain ⟨Mc, qc, fc, tc⟩ := x5_closes L xs O (D := d + 1) (by omega) (nb tx N (nb tx N ts 0 (nI n - 1)) 0 60) M2 hX2 t2
  have gc : Fr sT M Mc := Fr_trans g2 fc
  have hLc : CL Mc i U := CL_fr hL gc (fun g k h => sT_ld h)
  rw [e_X1_readHouse_19, qc]
  simp only [xr_v, Nat.reduceAdd, Nat.add_zero]
  rw [e_X1_readHouse_24]
  by_cases c : (cl tx N (nb tx N (nb tx N ts 0 (nI n - 1)) 0 60)).isLeft = true
  · have l2 := cl_l c
    have l1 := nb_ll l2
    have y1 : nvC tx N ts 0 (nI n - 1) = nI (nvN tx N ts) := nvC_l l1
    obtain ⟨a1, b1⟩ := nb_in (hi_lt (by omega)) l1
    have y2 : nvC tx N (nb tx N ts 0 (nI n - 1)) 0 60 = nI (nvN tx N (nb tx N ts 0 (nI n - 1))) := nvC_l l2
    obtain ⟨a2, b2⟩ := nb_in (by decide) l2
    rw [c, b2i_t, if_neg (by decide), y1, y2, (hLc 3 4 rfl).trans hnh, if_pos (in_8 hnh8), if_pos (in_8 hnh8), hl_cl (by omega), zadd_1, e_X1_readHouse_57]
    exact isV_i ⟨Fr_put (Fr_put (Fr_put (Fr_mono sR_T gc) (sR_l (by omega) (by omega))) (sR_l (by omega) (by omega))) (sR_l (by omega) (by omega)), TP_1 tc (fun k => rfl), by rw [if_pos rfl]; exact CL_put (CL_put (CL_put hLc))⟩
  · rw [Bool.eq_false_iff.2 c, b2i_f, if_pos rfl, e_X1_readHouse_57]
    exact isV_i ⟨Fr_mono sR_T gc, tc, by rw [if_neg (by decide)]; exact hLc⟩
theorem x1_readHum {D : Nat} (hD : 6 ≤ D) (i : Nat) {U : Vw}  (ts : TS) (M : Mem) (hX : TX M tx N) (hT : TP M N 0 ts) (hL : CL M i U) : isV (EX L xs (D) q_X1_readHum [.inr (.inr (3, i)), .inr (.inr (1, 0))] M O) O (fun M' => Fr (sR i) M M' ∧ TP M' N 1 (cl tx N (nb tx N (nb tx N ts 0 23) 0 40)) ∧ CL M' i (if (cl tx N (nb tx N (nb tx N ts 0 23) 0 40)).isLeft = true then vput U 9 (nvN tx N ts) (nI (nvN tx N (nb tx N ts 0 23))) else U)) := by
  obtain ⟨d, rfl⟩ : ∃ d, D = d + 2 := ⟨D - 2, by omega⟩
  refine isV_e (EX_in mi_X1_readHum rfl rfl rfl (ls := [some (.inr (.inr (3, i))), some (.inr (.inr (1, 0))), none, none]) rfl) ?_
  have i23 : (23 : Int32).toInt = 23 := by decide
  obtain ⟨M1, q1, f1, t1⟩ := x5_number L xs O (D := d + 1) (by omega) ts 0 23 (by decide) M hX (b := 0) (by omega) hT
  have hX1 := TX_fr hX f1
  have g1 : Fr sT M M1 := f1
  have hL1 : CL M1 i U := CL_fr hL g1 (fun g k h => sT_ld h)
  rw [e_X1_readHum_0, q1]
  simp only [xr_v, Nat.reduceAdd, Nat.add_zero]
  obtain ⟨M2, q2, f2, t2⟩ := x5_number L xs O (D := d + 1) (by omega) (nb tx N ts 0 23) 0 40 (by decide) M1 hX1 (b := 0) (by omega) t1
  have hX2 := TX_fr hX1 f2
  have g2 : Fr sT M M2 := Fr_trans g1 f2
  have hL2 : CL M2 i U := CL_fr hL g2 (fun g k h => sT_ld h)
  rw [e_X1_readHum_7, q2]
  simp only [xr_v, Nat.reduceAdd, Nat.add_zero]
  obtain ⟨Mc, qc, fc, tc⟩ := x5_closes L xs O (D := d + 1) (by omega) (nb tx N (nb tx N ts 0 23) 0 40) M2 hX2 t2
  have gc : Fr sT M Mc := Fr_trans g2 fc
  have hLc : CL Mc i U := CL_fr hL gc (fun g k h => sT_ld h)
  rw [e_X1_readHum_15, qc]
  simp only [xr_v, Nat.reduceAdd, Nat.add_zero]
  rw [e_X1_readHum_20]
  by_cases c : (cl tx N (nb tx N (nb tx N ts 0 23) 0 40)).isLeft = true
  · have l2 := cl_l c
    have l1 := nb_ll l2
    have y1 : nvC tx N ts 0 23 = nI (nvN tx N ts) := nvC_l l1
    obtain ⟨a1, b1⟩ := nb_in (by decide) l1
    have y2 : nvC tx N (nb tx N ts 0 23) 0 40 = nI (nvN tx N (nb tx N ts 0 23)) := nvC_l l2
    obtain ⟨a2, b2⟩ := nb_in (by decide) l2
    rw [c, b2i_t, if_neg (by decide), y1, y2, if_pos (in_24 (by omega)), hl_cl (by omega), e_X1_readHum_30]
    exact isV_i ⟨Fr_put (Fr_mono sR_T gc) (sR_l (by omega) (by omega)), TP_1 tc (fun k => rfl), by rw [if_pos rfl]; exact CL_put hLc⟩
  · rw [Bool.eq_false_iff.2 c, b2i_f, if_pos rfl, e_X1_readHum_30]
    exact isV_i ⟨Fr_mono sR_T gc, tc, by rw [if_neg (by decide)]; exact hLc⟩
theorem x1_readSource {D : Nat} (hD : 6 ≤ D) (i : Nat) {U : Vw} {n : Nat} (hn : U 3 0 = nI n) (hn40 : n ≤ 40) {ns : Nat} (hns : U 3 8 = nI ns) (hns6 : ns < 6) (ts : TS) (M : Mem) (hX : TX M tx N) (hT : TP M N 0 ts) (hL : CL M i U) : isV (EX L xs (D) q_X1_readSource [.inr (.inr (3, i)), .inr (.inr (1, 0))] M O) O (fun M' => Fr (sR i) M M' ∧ TP M' N 1 (cl tx N (nb tx N (nb tx N (nb tx N (nb tx N ts 0 (nI n - 1)) 1 120) 1 3) 1 16777215)) ∧ CL M' i (if (cl tx N (nb tx N (nb tx N (nb tx N (nb tx N ts 0 (nI n - 1)) 1 120) 1 3) 1 16777215)).isLeft = true then vput (vput (vput (vput (vput U 10 ns (nI (nvN tx N ts))) 11 ns (nI (nvN tx N (nb tx N ts 0 (nI n - 1))))) 12 ns (nI (nvN tx N (nb tx N (nb tx N ts 0 (nI n - 1)) 1 120)))) 13 ns (nI (nvN tx N (nb tx N (nb tx N (nb tx N ts 0 (nI n - 1)) 1 120) 1 3)))) 3 8 (nI (ns + 1)) else U)) := by
  obtain ⟨d, rfl⟩ : ∃ d, D = d + 2 := ⟨D - 2, by omega⟩
  refine isV_e (EX_in mi_X1_readSource rfl rfl rfl (ls := [some (.inr (.inr (3, i))), some (.inr (.inr (1, 0))), none, none, none, none]) rfl) ?_
  have hi40 := hi_m1 n (by omega)
  obtain ⟨M1, q1, f1, t1⟩ := x5_number L xs O (D := d + 1) (by omega) ts 0 (nI n - 1) (hi_lt (by omega)) M hX (b := 0) (by omega) hT
  have hX1 := TX_fr hX f1
  have g1 : Fr sT M M1 := f1
  have hL1 : CL M1 i U := CL_fr hL g1 (fun g k h => sT_ld h)
  rw [e_X1_readSource_0, (hL 3 0 rfl).trans hn, q1]
  simp only [xr_v, Nat.reduceAdd, Nat.add_zero]
  obtain ⟨M2, q2, f2, t2⟩ := x5_number L xs O (D := d + 1) (by omega) (nb tx N ts 0 (nI n - 1)) 1 120 (by decide) M1 hX1 (b := 0) (by omega) t1
  have hX2 := TX_fr hX1 f2
  have g2 : Fr sT M M2 := Fr_trans g1 f2
  have hL2 : CL M2 i U := CL_fr hL g2 (fun g k h => sT_ld h)
  rw [e_X1_readSource_11, q2]
  simp only [xr_v, Nat.reduceAdd, Nat.add_zero]
  obtain ⟨M3, q3, f3, t3⟩ := x5_number L xs O (D := d + 1) (by omega) (nb tx N (nb tx N ts 0 (nI n - 1)) 1 120) 1 3 (by decide) M2 hX2 (b := 0) (by omega) t2
  have hX3 := TX_fr hX2 f3
  have g3 : Fr sT M M3 := Fr_trans g2 f3
  have hL3 : CL M3 i U := CL_fr hL g3 (fun g k h => sT_ld h)
  rw [e_X1_readSource_19, q3]
  simp only [xr_v, Nat.reduceAdd, Nat.add_zero]
  obtain ⟨M4, q4, f4, t4⟩ := x5_number L xs O (D := d + 1) (by omega) (nb tx N (nb tx N (nb tx N ts 0 (nI n - 1)) 1 120) 1 3) 1 16777215 (by decide) M3 hX3 (b := 0) (by omega) t3
  have hX4 := TX_fr hX3 f4
  have g4 : Fr sT M M4 := Fr_trans g3 f4
  have hL4 : CL M4 i U := CL_fr hL g4 (fun g k h => sT_ld h)
  rw [e_X1_readSource_26, q4]
  simp only [xr_v, Nat.reduceAdd, Nat.add_zero]
  obtain ⟨Mc, qc, fc, tc⟩ := x5_closes L xs O (D := d + 1) (by omega) (nb tx N (nb tx N (nb tx N (nb tx N ts 0 (nI n - 1)) 1 120) 1 3) 1 16777215) M4 hX4 t4
  have gc : Fr sT M Mc := Fr_trans g4 fc
  have hLc : CL Mc i U := CL_fr hL gc (fun g k h => sT_ld h)
  rw [e_X1_readSource_35, qc]
  simp only [xr_v, Nat.reduceAdd, Nat.add_zero]
  rw [e_X1_readSource_41]
  by_cases c : (cl tx N (nb tx N (nb tx N (nb tx N (nb tx N ts 0 (nI n - 1)) 1 120) 1 3) 1 16777215)).isLeft = true
  · have l4 := cl_l c
    have l3 := nb_ll l4
    have l2 := nb_ll l3
    have l1 := nb_ll l2
    have y1 : nvC tx N ts 0 (nI n - 1) = nI (nvN tx N ts) := nvC_l l1
    obtain ⟨a1, b1⟩ := nb_in (hi_lt (by omega)) l1
    have y2 : nvC tx N (nb tx N ts 0 (nI n - 1)) 1 120 = nI (nvN tx N (nb tx N ts 0 (nI n - 1))) := nvC_l l2
    obtain ⟨a2, b2⟩ := nb_in (by decide) l2
    have y3 : nvC tx N (nb tx N (nb tx N ts 0 (nI n - 1)) 1 120) 1 3 = nI (nvN tx N (nb tx N (nb tx N ts 0 (nI n - 1)) 1 120)) := nvC_l l3
    obtain ⟨a3, b3⟩ := nb_in (by decide) l3
    have y4 : nvC tx N (nb tx N (nb tx N (nb tx N ts 0 (nI n - 1)) 1 120) 1 3) 1 16777215 = nI (nvN tx N (nb tx N (nb tx N (nb tx N ts 0 (nI n - 1)) 1 120) 1 3)) := nvC_l l4
    obtain ⟨a4, b4⟩ := nb_in (by decide) l4
    rw [c, b2i_t, if_neg (by decide), y1, y2, y3, y4, (hLc 3 8 rfl).trans hns, if_pos (in_6 hns6), if_pos (in_6 hns6), if_pos (in_6 hns6), if_pos (in_6 hns6), hl_cl (by omega), zadd_1, e_X1_readSource_96]
    exact isV_i ⟨Fr_put (Fr_put (Fr_put (Fr_put (Fr_put (Fr_mono sR_T gc) (sR_l (by omega) (by omega))) (sR_l (by omega) (by omega))) (sR_l (by omega) (by omega))) (sR_l (by omega) (by omega))) (sR_l (by omega) (by omega)), TP_1 tc (fun k => rfl), by rw [if_pos rfl]; exact CL_put (CL_put (CL_put (CL_put (CL_put hLc))))⟩
  · rw [Bool.eq_false_iff.2 c, b2i_f, if_pos rfl, e_X1_readSource_96]
    exact isV_i ⟨Fr_mono sR_T gc, tc, by rw [if_neg (by decide)]; exact hLc⟩
theorem x1_readWork6 {D : Nat} (hD : 6 ≤ D) (i : Nat) {U : Vw} {n : Nat} (hn : U 3 0 = nI n) (hn40 : n ≤ 40) {nw : Nat} (hnw : U 3 13 = nI nw) (hnw8 : nw < 8) (ts : TS) (M : Mem) (hX : TX M tx N) (hT : TP M N 0 ts) (hL : CL M i U) : isV (EX L xs (D) q_X1_readWork [.inr (.inr (3, i)), .inr (.inr (1, 0)), .inl (6)] M O) O (fun M' => Fr (sR i) M M' ∧ TP M' N 1 (cl tx N (nb tx N (nb tx N (nb tx N ts 0 (nI n - 1)) 1 9) 1 99)) ∧ CL M' i (if (cl tx N (nb tx N (nb tx N (nb tx N ts 0 (nI n - 1)) 1 9) 1 99)).isLeft = true then vput (vput (vput (vput (vput U 14 nw 6) 15 nw (nI (nvN tx N ts))) 16 nw (nI (nvN tx N (nb tx N ts 0 (nI n - 1))))) 17 nw (nI (nvN tx N (nb tx N (nb tx N ts 0 (nI n - 1)) 1 9)))) 3 13 (nI (nw + 1)) else U)) := by
  obtain ⟨d, rfl⟩ : ∃ d, D = d + 2 := ⟨D - 2, by omega⟩
  refine isV_e (EX_in mi_X1_readWork rfl rfl rfl (ls := [some (.inr (.inr (3, i))), some (.inr (.inr (1, 0))), some (.inl (6)), none, none, none]) rfl) ?_
  have hi40 := hi_m1 n (by omega)
  obtain ⟨M1, q1, f1, t1⟩ := x5_number L xs O (D := d + 1) (by omega) ts 0 (nI n - 1) (hi_lt (by omega)) M hX (b := 0) (by omega) hT
  have hX1 := TX_fr hX f1
  have g1 : Fr sT M M1 := f1
  have hL1 : CL M1 i U := CL_fr hL g1 (fun g k h => sT_ld h)
  rw [e_X1_readWork_0, if_pos rfl, (hL 3 0 rfl).trans hn, q1]
  simp only [xr_v, Nat.reduceAdd, Nat.add_zero]
  obtain ⟨M2, q2, f2, t2⟩ := x5_number L xs O (D := d + 1) (by omega) (nb tx N ts 0 (nI n - 1)) 1 9 (by decide) M1 hX1 (b := 0) (by omega) t1
  have hX2 := TX_fr hX1 f2
  have g2 : Fr sT M M2 := Fr_trans g1 f2
  have hL2 : CL M2 i U := CL_fr hL g2 (fun g k h => sT_ld h)
  rw [e_X1_readWork_17, q2]
  simp only [xr_v, Nat.reduceAdd, Nat.add_zero]
  obtain ⟨M3, q3, f3, t3⟩ := x5_number L xs O (D := d + 1) (by omega) (nb tx N (nb tx N ts 0 (nI n - 1)) 1 9) 1 99 (by decide) M2 hX2 (b := 0) (by omega) t2
  have hX3 := TX_fr hX2 f3
  have g3 : Fr sT M M3 := Fr_trans g2 f3
  have hL3 : CL M3 i U := CL_fr hL g3 (fun g k h => sT_ld h)
  rw [e_X1_readWork_25, e_X1_readWork_115, q3]
  simp only [xr_v, Nat.reduceAdd, Nat.add_zero]
  obtain ⟨Mc, qc, fc, tc⟩ := x5_closes L xs O (D := d + 1) (by omega) (nb tx N (nb tx N (nb tx N ts 0 (nI n - 1)) 1 9) 1 99) M3 hX3 t3
  have gc : Fr sT M Mc := Fr_trans g3 fc
  have hLc : CL Mc i U := CL_fr hL gc (fun g k h => sT_ld h)
  rw [e_X1_readWork_122, qc]
  simp only [xr_v, Nat.reduceAdd, Nat.add_zero]
  rw [e_X1_readWork_128]
  by_cases c : (cl tx N (nb tx N (nb tx N (nb tx N ts 0 (nI n - 1)) 1 9) 1 99)).isLeft = true
  · have l3 := cl_l c
    have l2 := nb_ll l3
    have l1 := nb_ll l2
    have y1 : nvC tx N ts 0 (nI n - 1) = nI (nvN tx N ts) := nvC_l l1
    obtain ⟨a1, b1⟩ := nb_in (hi_lt (by omega)) l1
    have y2 : nvC tx N (nb tx N ts 0 (nI n - 1)) 1 9 = nI (nvN tx N (nb tx N ts 0 (nI n - 1))) := nvC_l l2
    obtain ⟨a2, b2⟩ := nb_in (by decide) l2
    have y3 : nvC tx N (nb tx N (nb tx N ts 0 (nI n - 1)) 1 9) 1 99 = nI (nvN tx N (nb tx N (nb tx N ts 0 (nI n - 1)) 1 9)) := nvC_l l3
    obtain ⟨a3, b3⟩ := nb_in (by decide) l3
    rw [c, b2i_t, if_neg (by decide), y1, y2, y3, (hLc 3 13 rfl).trans hnw, if_pos (in_8 hnw8), if_pos (in_8 hnw8), if_pos (in_8 hnw8), if_pos (in_8 hnw8), hl_cl (by omega), zadd_1, e_X1_readWork_183]
    exact isV_i ⟨Fr_put (Fr_put (Fr_put (Fr_put (Fr_put (Fr_mono sR_T gc) (sR_l (by omega) (by omega))) (sR_l (by omega) (by omega))) (sR_l (by omega) (by omega))) (sR_l (by omega) (by omega))) (sR_l (by omega) (by omega)), TP_1 tc (fun k => rfl), by rw [if_pos rfl]; exact CL_put (CL_put (CL_put (CL_put (CL_put hLc))))⟩
  · rw [Bool.eq_false_iff.2 c, b2i_f, if_pos rfl, e_X1_readWork_183]
    exact isV_i ⟨Fr_mono sR_T gc, tc, by rw [if_neg (by decide)]; exact hLc⟩
theorem x1_readWork7 {D : Nat} (hD : 6 ≤ D) (i : Nat) {U : Vw} {n : Nat} (hn : U 3 0 = nI n) (hn40 : n ≤ 40) {nw : Nat} (hnw : U 3 13 = nI nw) (hnw8 : nw < 8) (ts : TS) (M : Mem) (hX : TX M tx N) (hT : TP M N 0 ts) (hL : CL M i U) : isV (EX L xs (D) q_X1_readWork [.inr (.inr (3, i)), .inr (.inr (1, 0)), .inl (7)] M O) O (fun M' => Fr (sR i) M M' ∧ TP M' N 1 (cl tx N (nb tx N (nb tx N (nb tx N ts 0 (nI n - 1)) (nv tx N ts) (nI n - 1)) 1 99)) ∧ CL M' i (if (cl tx N (nb tx N (nb tx N (nb tx N ts 0 (nI n - 1)) (nv tx N ts) (nI n - 1)) 1 99)).isLeft = true then vput (vput (vput (vput (vput U 14 nw 7) 15 nw (nI (nvN tx N ts))) 16 nw (nI (nvN tx N (nb tx N ts 0 (nI n - 1))))) 17 nw (nI (nvN tx N (nb tx N (nb tx N ts 0 (nI n - 1)) (nv tx N ts) (nI n - 1))))) 3 13 (nI (nw + 1)) else U)) := by
  obtain ⟨d, rfl⟩ : ∃ d, D = d + 2 := ⟨D - 2, by omega⟩
  refine isV_e (EX_in mi_X1_readWork rfl rfl rfl (ls := [some (.inr (.inr (3, i))), some (.inr (.inr (1, 0))), some (.inl (7)), none, none, none]) rfl) ?_
  have hi40 := hi_m1 n (by omega)
  obtain ⟨M1, q1, f1, t1⟩ := x5_number L xs O (D := d + 1) (by omega) ts 0 (nI n - 1) (hi_lt (by omega)) M hX (b := 0) (by omega) hT
  have hX1 := TX_fr hX f1
  have g1 : Fr sT M M1 := f1
  have hL1 : CL M1 i U := CL_fr hL g1 (fun g k h => sT_ld h)
  rw [e_X1_readWork_0, if_neg (by decide), if_pos rfl, (hL 3 0 rfl).trans hn, q1]
  simp only [xr_v, Nat.reduceAdd, Nat.add_zero]
  obtain ⟨M2, q2, f2, t2⟩ := x5_number L xs O (D := d + 1) (by omega) (nb tx N ts 0 (nI n - 1)) (nvC tx N ts 0 (nI n - 1)) (nI n - 1) (hi_lt (by omega)) M1 hX1 (b := 0) (by omega) t1
  rw [nb_C] at t2
  have hX2 := TX_fr hX1 f2
  have g2 : Fr sT M M2 := Fr_trans g1 f2
  have hL2 : CL M2 i U := CL_fr hL g2 (fun g k h => sT_ld h)
  rw [e_X1_readWork_47, (hL1 3 0 rfl).trans hn, q2]
  simp only [xr_v, Nat.reduceAdd, Nat.add_zero]
  obtain ⟨M3, q3, f3, t3⟩ := x5_number L xs O (D := d + 1) (by omega) (nb tx N (nb tx N ts 0 (nI n - 1)) (nv tx N ts) (nI n - 1)) 1 99 (by decide) M2 hX2 (b := 0) (by omega) t2
  have hX3 := TX_fr hX2 f3
  have g3 : Fr sT M M3 := Fr_trans g2 f3
  have hL3 : CL M3 i U := CL_fr hL g3 (fun g k h => sT_ld h)
  rw [e_X1_readWork_59, e_X1_readWork_115, q3]
  simp only [xr_v, Nat.reduceAdd, Nat.add_zero]
  obtain ⟨Mc, qc, fc, tc⟩ := x5_closes L xs O (D := d + 1) (by omega) (nb tx N (nb tx N (nb tx N ts 0 (nI n - 1)) (nv tx N ts) (nI n - 1)) 1 99) M3 hX3 t3
  have gc : Fr sT M Mc := Fr_trans g3 fc
  have hLc : CL Mc i U := CL_fr hL gc (fun g k h => sT_ld h)
  rw [e_X1_readWork_122, qc]
  simp only [xr_v, Nat.reduceAdd, Nat.add_zero]
  rw [e_X1_readWork_128]
  by_cases c : (cl tx N (nb tx N (nb tx N (nb tx N ts 0 (nI n - 1)) (nv tx N ts) (nI n - 1)) 1 99)).isLeft = true
  · have l3 := cl_l c
    have l2 := nb_ll l3
    have l1 := nb_ll l2
    have y1 : nvC tx N ts 0 (nI n - 1) = nI (nvN tx N ts) := nvC_l l1
    obtain ⟨a1, b1⟩ := nb_in (hi_lt (by omega)) l1
    have y2 : nvC tx N (nb tx N ts 0 (nI n - 1)) (nI (nvN tx N ts)) (nI n - 1) = nI (nvN tx N (nb tx N ts 0 (nI n - 1))) := by
      rw [← nv_N (ts := ts)]
      exact nvC_l l2
    obtain ⟨a2, b2⟩ := nb_in (hi_lt (by omega)) l2
    have y3 : nvC tx N (nb tx N (nb tx N ts 0 (nI n - 1)) (nv tx N ts) (nI n - 1)) 1 99 = nI (nvN tx N (nb tx N (nb tx N ts 0 (nI n - 1)) (nv tx N ts) (nI n - 1))) := nvC_l l3
    obtain ⟨a3, b3⟩ := nb_in (by decide) l3
    rw [c, b2i_t, if_neg (by decide), y1, y2, y3, (hLc 3 13 rfl).trans hnw, if_pos (in_8 hnw8), if_pos (in_8 hnw8), if_pos (in_8 hnw8), if_pos (in_8 hnw8), hl_cl (by omega), zadd_1, e_X1_readWork_183]
    exact isV_i ⟨Fr_put (Fr_put (Fr_put (Fr_put (Fr_put (Fr_mono sR_T gc) (sR_l (by omega) (by omega))) (sR_l (by omega) (by omega))) (sR_l (by omega) (by omega))) (sR_l (by omega) (by omega))) (sR_l (by omega) (by omega)), TP_1 tc (fun k => rfl), by rw [if_pos rfl]; exact CL_put (CL_put (CL_put (CL_put (CL_put hLc))))⟩
  · rw [Bool.eq_false_iff.2 c, b2i_f, if_pos rfl, e_X1_readWork_183]
    exact isV_i ⟨Fr_mono sR_T gc, tc, by rw [if_neg (by decide)]; exact hLc⟩
theorem x1_readWork8 {D : Nat} (hD : 6 ≤ D) (i : Nat) {U : Vw} {ns : Nat} (hns : U 3 8 = nI ns) (hns6 : ns ≤ 6) {nw : Nat} (hnw : U 3 13 = nI nw) (hnw8 : nw < 8) (ts : TS) (M : Mem) (hX : TX M tx N) (hT : TP M N 0 ts) (hL : CL M i U) : isV (EX L xs (D) q_X1_readWork [.inr (.inr (3, i)), .inr (.inr (1, 0)), .inl (8)] M O) O (fun M' => Fr (sR i) M M' ∧ TP M' N 1 (cl tx N (nb tx N (nb tx N (nb tx N ts 0 (nI ns - 1)) 1 99) 1 99)) ∧ CL M' i (if (cl tx N (nb tx N (nb tx N (nb tx N ts 0 (nI ns - 1)) 1 99) 1 99)).isLeft = true then vput (vput (vput (vput (vput U 14 nw 8) 15 nw (nI (nvN tx N ts))) 16 nw (nI (nvN tx N (nb tx N ts 0 (nI ns - 1))))) 17 nw (nI (nvN tx N (nb tx N (nb tx N ts 0 (nI ns - 1)) 1 99)))) 3 13 (nI (nw + 1)) else U)) := by
  obtain ⟨d, rfl⟩ : ∃ d, D = d + 2 := ⟨D - 2, by omega⟩
  refine isV_e (EX_in mi_X1_readWork rfl rfl rfl (ls := [some (.inr (.inr (3, i))), some (.inr (.inr (1, 0))), some (.inl (8)), none, none, none]) rfl) ?_
  obtain ⟨M1, q1, f1, t1⟩ := x5_number L xs O (D := d + 1) (by omega) ts 0 (nI ns - 1) (hi_lt (by omega)) M hX (b := 0) (by omega) hT
  have hX1 := TX_fr hX f1
  have g1 : Fr sT M M1 := f1
  have hL1 : CL M1 i U := CL_fr hL g1 (fun g k h => sT_ld h)
  rw [e_X1_readWork_0, if_neg (by decide), if_neg (by decide), if_pos rfl, (hL 3 8 rfl).trans hns, q1]
  simp only [xr_v, Nat.reduceAdd, Nat.add_zero]
  obtain ⟨M2, q2, f2, t2⟩ := x5_number L xs O (D := d + 1) (by omega) (nb tx N ts 0 (nI ns - 1)) 1 99 (by decide) M1 hX1 (b := 0) (by omega) t1
  have hX2 := TX_fr hX1 f2
  have g2 : Fr sT M M2 := Fr_trans g1 f2
  have hL2 : CL M2 i U := CL_fr hL g2 (fun g k h => sT_ld h)
  rw [e_X1_readWork_81, q2]
  simp only [xr_v, Nat.reduceAdd, Nat.add_zero]
  obtain ⟨M3, q3, f3, t3⟩ := x5_number L xs O (D := d + 1) (by omega) (nb tx N (nb tx N ts 0 (nI ns - 1)) 1 99) 1 99 (by decide) M2 hX2 (b := 0) (by omega) t2
  have hX3 := TX_fr hX2 f3
  have g3 : Fr sT M M3 := Fr_trans g2 f3
  have hL3 : CL M3 i U := CL_fr hL g3 (fun g k h => sT_ld h)
  rw [e_X1_readWork_89, e_X1_readWork_115, q3]
  simp only [xr_v, Nat.reduceAdd, Nat.add_zero]
  obtain ⟨Mc, qc, fc, tc⟩ := x5_closes L xs O (D := d + 1) (by omega) (nb tx N (nb tx N (nb tx N ts 0 (nI ns - 1)) 1 99) 1 99) M3 hX3 t3
  have gc : Fr sT M Mc := Fr_trans g3 fc
  have hLc : CL Mc i U := CL_fr hL gc (fun g k h => sT_ld h)
  rw [e_X1_readWork_122, qc]
  simp only [xr_v, Nat.reduceAdd, Nat.add_zero]
  rw [e_X1_readWork_128]
  by_cases c : (cl tx N (nb tx N (nb tx N (nb tx N ts 0 (nI ns - 1)) 1 99) 1 99)).isLeft = true
  · have l3 := cl_l c
    have l2 := nb_ll l3
    have l1 := nb_ll l2
    have y1 : nvC tx N ts 0 (nI ns - 1) = nI (nvN tx N ts) := nvC_l l1
    obtain ⟨a1, b1⟩ := nb_in (hi_lt (by omega)) l1
    have y2 : nvC tx N (nb tx N ts 0 (nI ns - 1)) 1 99 = nI (nvN tx N (nb tx N ts 0 (nI ns - 1))) := nvC_l l2
    obtain ⟨a2, b2⟩ := nb_in (by decide) l2
    have y3 : nvC tx N (nb tx N (nb tx N ts 0 (nI ns - 1)) 1 99) 1 99 = nI (nvN tx N (nb tx N (nb tx N ts 0 (nI ns - 1)) 1 99)) := nvC_l l3
    obtain ⟨a3, b3⟩ := nb_in (by decide) l3
    rw [c, b2i_t, if_neg (by decide), y1, y2, y3, (hLc 3 13 rfl).trans hnw, if_pos (in_8 hnw8), if_pos (in_8 hnw8), if_pos (in_8 hnw8), if_pos (in_8 hnw8), hl_cl (by omega), zadd_1, e_X1_readWork_183]
    exact isV_i ⟨Fr_put (Fr_put (Fr_put (Fr_put (Fr_put (Fr_mono sR_T gc) (sR_l (by omega) (by omega))) (sR_l (by omega) (by omega))) (sR_l (by omega) (by omega))) (sR_l (by omega) (by omega))) (sR_l (by omega) (by omega)), TP_1 tc (fun k => rfl), by rw [if_pos rfl]; exact CL_put (CL_put (CL_put (CL_put (CL_put hLc))))⟩
  · rw [Bool.eq_false_iff.2 c, b2i_f, if_pos rfl, e_X1_readWork_183]
    exact isV_i ⟨Fr_mono sR_T gc, tc, by rw [if_neg (by decide)]; exact hLc⟩
theorem x1_readWork9 {D : Nat} (hD : 6 ≤ D) (i : Nat) {U : Vw} {nh : Nat} (hnh : U 3 4 = nI nh) (hnh8 : nh ≤ 8) {nw : Nat} (hnw : U 3 13 = nI nw) (hnw8 : nw < 8) (ts : TS) (M : Mem) (hX : TX M tx N) (hT : TP M N 0 ts) (hL : CL M i U) : isV (EX L xs (D) q_X1_readWork [.inr (.inr (3, i)), .inr (.inr (1, 0)), .inl (9)] M O) O (fun M' => Fr (sR i) M M' ∧ TP M' N 1 (cl tx N (nb tx N (nb tx N (nb tx N ts 0 (nI nh - 1)) 1 30) 1 99)) ∧ CL M' i (if (cl tx N (nb tx N (nb tx N (nb tx N ts 0 (nI nh - 1)) 1 30) 1 99)).isLeft = true then vput (vput (vput (vput (vput U 14 nw 9) 15 nw (nI (nvN tx N ts))) 16 nw (nI (nvN tx N (nb tx N ts 0 (nI nh - 1))))) 17 nw (nI (nvN tx N (nb tx N (nb tx N ts 0 (nI nh - 1)) 1 30)))) 3 13 (nI (nw + 1)) else U)) := by
  obtain ⟨d, rfl⟩ : ∃ d, D = d + 2 := ⟨D - 2, by omega⟩
  refine isV_e (EX_in mi_X1_readWork rfl rfl rfl (ls := [some (.inr (.inr (3, i))), some (.inr (.inr (1, 0))), some (.inl (9)), none, none, none]) rfl) ?_
  obtain ⟨M1, q1, f1, t1⟩ := x5_number L xs O (D := d + 1) (by omega) ts 0 (nI nh - 1) (hi_lt (by omega)) M hX (b := 0) (by omega) hT
  have hX1 := TX_fr hX f1
  have g1 : Fr sT M M1 := f1
  have hL1 : CL M1 i U := CL_fr hL g1 (fun g k h => sT_ld h)
  rw [e_X1_readWork_0, if_neg (by decide), if_neg (by decide), if_neg (by decide), (hL 3 4 rfl).trans hnh, q1]
  simp only [xr_v, Nat.reduceAdd, Nat.add_zero]
  obtain ⟨M2, q2, f2, t2⟩ := x5_number L xs O (D := d + 1) (by omega) (nb tx N ts 0 (nI nh - 1)) 1 30 (by decide) M1 hX1 (b := 0) (by omega) t1
  have hX2 := TX_fr hX1 f2
  have g2 : Fr sT M M2 := Fr_trans g1 f2
  have hL2 : CL M2 i U := CL_fr hL g2 (fun g k h => sT_ld h)
  rw [e_X1_readWork_105, q2]
  simp only [xr_v, Nat.reduceAdd, Nat.add_zero]
  obtain ⟨M3, q3, f3, t3⟩ := x5_number L xs O (D := d + 1) (by omega) (nb tx N (nb tx N ts 0 (nI nh - 1)) 1 30) 1 99 (by decide) M2 hX2 (b := 0) (by omega) t2
  have hX3 := TX_fr hX2 f3
  have g3 : Fr sT M M3 := Fr_trans g2 f3
  have hL3 : CL M3 i U := CL_fr hL g3 (fun g k h => sT_ld h)
  rw [e_X1_readWork_113, e_X1_readWork_115, q3]
  simp only [xr_v, Nat.reduceAdd, Nat.add_zero]
  obtain ⟨Mc, qc, fc, tc⟩ := x5_closes L xs O (D := d + 1) (by omega) (nb tx N (nb tx N (nb tx N ts 0 (nI nh - 1)) 1 30) 1 99) M3 hX3 t3
  have gc : Fr sT M Mc := Fr_trans g3 fc
  have hLc : CL Mc i U := CL_fr hL gc (fun g k h => sT_ld h)
  rw [e_X1_readWork_122, qc]
  simp only [xr_v, Nat.reduceAdd, Nat.add_zero]
  rw [e_X1_readWork_128]
  by_cases c : (cl tx N (nb tx N (nb tx N (nb tx N ts 0 (nI nh - 1)) 1 30) 1 99)).isLeft = true
  · have l3 := cl_l c
    have l2 := nb_ll l3
    have l1 := nb_ll l2
    have y1 : nvC tx N ts 0 (nI nh - 1) = nI (nvN tx N ts) := nvC_l l1
    obtain ⟨a1, b1⟩ := nb_in (hi_lt (by omega)) l1
    have y2 : nvC tx N (nb tx N ts 0 (nI nh - 1)) 1 30 = nI (nvN tx N (nb tx N ts 0 (nI nh - 1))) := nvC_l l2
    obtain ⟨a2, b2⟩ := nb_in (by decide) l2
    have y3 : nvC tx N (nb tx N (nb tx N ts 0 (nI nh - 1)) 1 30) 1 99 = nI (nvN tx N (nb tx N (nb tx N ts 0 (nI nh - 1)) 1 30)) := nvC_l l3
    obtain ⟨a3, b3⟩ := nb_in (by decide) l3
    rw [c, b2i_t, if_neg (by decide), y1, y2, y3, (hLc 3 13 rfl).trans hnw, if_pos (in_8 hnw8), if_pos (in_8 hnw8), if_pos (in_8 hnw8), if_pos (in_8 hnw8), hl_cl (by omega), zadd_1, e_X1_readWork_183]
    exact isV_i ⟨Fr_put (Fr_put (Fr_put (Fr_put (Fr_put (Fr_mono sR_T gc) (sR_l (by omega) (by omega))) (sR_l (by omega) (by omega))) (sR_l (by omega) (by omega))) (sR_l (by omega) (by omega))) (sR_l (by omega) (by omega)), TP_1 tc (fun k => rfl), by rw [if_pos rfl]; exact CL_put (CL_put (CL_put (CL_put (CL_put hLc))))⟩
  · rw [Bool.eq_false_iff.2 c, b2i_f, if_pos rfl, e_X1_readWork_183]
    exact isV_i ⟨Fr_mono sR_T gc, tc, by rw [if_neg (by decide)]; exact hLc⟩
theorem x1_readGround {D : Nat} (hD : 6 ≤ D) (i : Nat) {U : Vw} {n : Nat} (hn : U 3 0 = nI n) (hn40 : n ≤ 40) (ts : TS) (M : Mem) (hX : TX M tx N) (hT : TP M N 0 ts) (hL : CL M i U) : isV (EX L xs (D) q_X1_readGround [.inr (.inr (3, i)), .inr (.inr (1, 0))] M O) O (fun M' => Fr (sR i) M M' ∧ TP M' N 1 (cl tx N (nb tx N (nb tx N (nb tx N (nb tx N ts 0 (nI n - 1)) (nv tx N ts) (nI n - 1)) 0 3) 0 9)) ∧ CL M' i (if (cl tx N (nb tx N (nb tx N (nb tx N (nb tx N ts 0 (nI n - 1)) (nv tx N ts) (nI n - 1)) 0 3) 0 9)).isLeft = true then vgr U (nvN tx N ts) ((nvN tx N (nb tx N ts 0 (nI n - 1))) + 1) (nI (nvN tx N (nb tx N (nb tx N ts 0 (nI n - 1)) (nv tx N ts) (nI n - 1)))) (nI (nvN tx N (nb tx N (nb tx N (nb tx N ts 0 (nI n - 1)) (nv tx N ts) (nI n - 1)) 0 3))) else U)) := by
  obtain ⟨d, rfl⟩ : ∃ d, D = d + 2 := ⟨D - 2, by omega⟩
  refine isV_e (EX_in mi_X1_readGround rfl rfl rfl (ls := [some (.inr (.inr (3, i))), some (.inr (.inr (1, 0))), none, none, none, none, none]) rfl) ?_
  have hi40 := hi_m1 n (by omega)
  obtain ⟨M1, q1, f1, t1⟩ := x5_number L xs O (D := d + 1) (by omega) ts 0 (nI n - 1) (hi_lt (by omega)) M hX (b := 0) (by omega) hT
  have hX1 := TX_fr hX f1
  have g1 : Fr sT M M1 := f1
  have hL1 : CL M1 i U := CL_fr hL g1 (fun g k h => sT_ld h)
  rw [e_X1_readGround_0, (hL 3 0 rfl).trans hn, q1]
  simp only [xr_v, Nat.reduceAdd, Nat.add_zero]
  obtain ⟨M2, q2, f2, t2⟩ := x5_number L xs O (D := d + 1) (by omega) (nb tx N ts 0 (nI n - 1)) (nvC tx N ts 0 (nI n - 1)) (nI n - 1) (hi_lt (by omega)) M1 hX1 (b := 0) (by omega) t1
  rw [nb_C] at t2
  have hX2 := TX_fr hX1 f2
  have g2 : Fr sT M M2 := Fr_trans g1 f2
  have hL2 : CL M2 i U := CL_fr hL g2 (fun g k h => sT_ld h)
  rw [e_X1_readGround_11, (hL1 3 0 rfl).trans hn, q2]
  simp only [xr_v, Nat.reduceAdd, Nat.add_zero]
  obtain ⟨M3, q3, f3, t3⟩ := x5_number L xs O (D := d + 1) (by omega) (nb tx N (nb tx N ts 0 (nI n - 1)) (nv tx N ts) (nI n - 1)) 0 3 (by decide) M2 hX2 (b := 0) (by omega) t2
  have hX3 := TX_fr hX2 f3
  have g3 : Fr sT M M3 := Fr_trans g2 f3
  have hL3 : CL M3 i U := CL_fr hL g3 (fun g k h => sT_ld h)
  rw [e_X1_readGround_23, q3]
  simp only [xr_v, Nat.reduceAdd, Nat.add_zero]
  obtain ⟨M4, q4, f4, t4⟩ := x5_number L xs O (D := d + 1) (by omega) (nb tx N (nb tx N (nb tx N ts 0 (nI n - 1)) (nv tx N ts) (nI n - 1)) 0 3) 0 9 (by decide) M3 hX3 (b := 0) (by omega) t3
  have hX4 := TX_fr hX3 f4
  have g4 : Fr sT M M4 := Fr_trans g3 f4
  have hL4 : CL M4 i U := CL_fr hL g4 (fun g k h => sT_ld h)
  rw [e_X1_readGround_30, q4]
  simp only [xr_v, Nat.reduceAdd, Nat.add_zero]
  obtain ⟨Mc, qc, fc, tc⟩ := x5_closes L xs O (D := d + 1) (by omega) (nb tx N (nb tx N (nb tx N (nb tx N ts 0 (nI n - 1)) (nv tx N ts) (nI n - 1)) 0 3) 0 9) M4 hX4 t4
  have gc : Fr sT M Mc := Fr_trans g4 fc
  have hLc : CL Mc i U := CL_fr hL gc (fun g k h => sT_ld h)
  rw [e_X1_readGround_39, qc]
  simp only [xr_v, Nat.reduceAdd, Nat.add_zero]
  rw [e_X1_readGround_45]
  by_cases c : (cl tx N (nb tx N (nb tx N (nb tx N (nb tx N ts 0 (nI n - 1)) (nv tx N ts) (nI n - 1)) 0 3) 0 9)).isLeft = true
  · have l4 := cl_l c
    have l3 := nb_ll l4
    have l2 := nb_ll l3
    have l1 := nb_ll l2
    have y1 : nvC tx N ts 0 (nI n - 1) = nI (nvN tx N ts) := nvC_l l1
    obtain ⟨a1, b1⟩ := nb_in (hi_lt (by omega)) l1
    have y2 : nvC tx N (nb tx N ts 0 (nI n - 1)) (nI (nvN tx N ts)) (nI n - 1) = nI (nvN tx N (nb tx N ts 0 (nI n - 1))) := by
      rw [← nv_N (ts := ts)]
      exact nvC_l l2
    obtain ⟨a2, b2⟩ := nb_in (hi_lt (by omega)) l2
    have y3 : nvC tx N (nb tx N (nb tx N ts 0 (nI n - 1)) (nv tx N ts) (nI n - 1)) 0 3 = nI (nvN tx N (nb tx N (nb tx N ts 0 (nI n - 1)) (nv tx N ts) (nI n - 1))) := nvC_l l3
    obtain ⟨a3, b3⟩ := nb_in (by decide) l3
    have y4 : nvC tx N (nb tx N (nb tx N (nb tx N ts 0 (nI n - 1)) (nv tx N ts) (nI n - 1)) 0 3) 0 9 = nI (nvN tx N (nb tx N (nb tx N (nb tx N ts 0 (nI n - 1)) (nv tx N ts) (nI n - 1)) 0 3)) := nvC_l l4
    obtain ⟨a4, b4⟩ := nb_in (by decide) l4
    rw [c, b2i_t, if_neg (by decide), y1, y2, y3, y4]
    have hv1 : (nv tx N ts).toInt ≤ ((nvN tx N (nb tx N ts 0 (nI n - 1))) : Int) := a2
    rw [nv_N, hl_toInt (by omega)] at hv1
    refine loopA L xs O (P := fun r => isV r O _) (fun j ls M' => ls = [some (.inr (.inr (3, i))), some (.inr (.inr (1, 0))), some (.inl (nI (nvN tx N ts))), some (.inl (nI (nvN tx N (nb tx N ts 0 (nI n - 1))))), some (.inl (nI (nvN tx N (nb tx N (nb tx N ts 0 (nI n - 1)) (nv tx N ts) (nI n - 1))))), some (.inl (nI (nvN tx N (nb tx N (nb tx N (nb tx N ts 0 (nI n - 1)) (nv tx N ts) (nI n - 1)) 0 3)))), some (.inl (nI ((nvN tx N ts) + j)))] ∧ Fr (sR i) M M' ∧ (∀ k, M' 1 0 k = Mc 1 0 k) ∧ CL M' i (vgr U (nvN tx N ts) ((nvN tx N ts) + j) (nI (nvN tx N (nb tx N (nb tx N ts 0 (nI n - 1)) (nv tx N ts) (nI n - 1)))) (nI (nvN tx N (nb tx N (nb tx N (nb tx N ts 0 (nI n - 1)) (nv tx N ts) (nI n - 1)) 0 3))))) ((nvN tx N (nb tx N ts 0 (nI n - 1))) + 1 - (nvN tx N ts)) 100 (by omega) ?_ ?_ (Nat.le_of_lt (FU (by omega))) ⟨rfl, Fr_mono sR_T gc, fun _ => rfl, CL_eq hLc (fun g k => (vgr_0 (by omega)).symm)⟩
    · rintro f k j _ M' hj ⟨rfl, fr, he, hl⟩ ih
      rw [e_X1_readGround_51, if_neg (by rw [hl_lt (by omega) (by omega)]; omega), if_pos (in_40 (by omega)), if_pos (in_40 (by omega)), hl_cl (by omega), zadd_1]
      exact ih _ _ ⟨rfl, Fr_put (Fr_put fr (sR_l (by omega) (by omega))) (sR_l (by omega) (by omega)), fun k => he k, CL_eq (CL_put (CL_put hl)) (fun g k => vgr_s)⟩
    · rintro f k _ M' ⟨rfl, fr, he, hl⟩
      rw [e_X1_readGround_51, if_pos (by rw [hl_lt (by omega) (by omega)]; omega), e_X1_readGround_81]
      refine isV_i ⟨fr, TP_1 tc he, ?_⟩
      rw [show (nvN tx N ts) + ((nvN tx N (nb tx N ts 0 (nI n - 1))) + 1 - (nvN tx N ts)) = (nvN tx N (nb tx N ts 0 (nI n - 1))) + 1 by omega] at hl
      rw [if_pos rfl]
      exact hl
  · rw [Bool.eq_false_iff.2 c, b2i_f, if_pos rfl, e_X1_readGround_81]
    exact isV_i ⟨Fr_mono sR_T gc, tc, by rw [if_neg (by decide)]; exact hLc⟩
end
