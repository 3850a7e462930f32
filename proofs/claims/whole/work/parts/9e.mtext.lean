/-! A text read: the reference. -/
def MX (M : Mem) (tx : Nat → Nat) (N : Nat) : Prop := N ≤ 600 ∧ M 40 0 2 = nI N ∧ ∀ i, i < N → M 41 0 i = nI (tx i) ∧ tx i < 256
def MPT (M : Mem) (N : Nat) (ts : TS) : Prop := match ts with
  | .inl p => p ≤ N ∧ M 40 0 4 = nI p ∧ M 40 0 5 = 0 ∧ M 40 0 6 = -1
  | .inr e => (∃ p, p ≤ N ∧ M 40 0 4 = nI p) ∧ 1 ≤ e.1 ∧ e.1 ≤ 4 ∧ M 40 0 5 = nI e.1 ∧ M 40 0 6 = nI e.2
def sM (g _i k : Nat) : Bool := decide (g = 40 ∧ (k = 4 ∨ k = 5 ∨ k = 6))
def sM4 (g _i k : Nat) : Bool := decide (g = 40 ∧ k = 4)
theorem sM_4 {g i k : Nat} (h : sM g i k = false) : sM4 g i k = false := by
  have := of_decide_eq_false h
  exact decide_eq_false (by omega)
theorem MX_fr {M M' : Mem} {tx : Nat → Nat} {N : Nat} (h : MX M tx N) (fr : Fr sM M M') : MX M' tx N := ⟨h.1, (fr 40 0 2 rfl).trans h.2.1, fun i hi => ⟨(fr 41 0 i rfl).trans (h.2.2 i hi).1, (h.2.2 i hi).2⟩⟩
def bA (tx : Nat → Nat) (N p : Nat) : Int32 := if p < N then nI (tx p) else -1
theorem MPT_c {M : Mem} {N : Nat} {ts : TS} (h : MPT M N ts) : ∃ p, p ≤ N ∧ M 40 0 4 = nI p := by
  cases ts with
  | inl p => exact ⟨p, h.1, h.2.1⟩
  | inr e => exact h.1
theorem MPT_5 {M : Mem} {N : Nat} {e : Nat × Nat} (h : MPT M N (.inr e)) : ¬ M 40 0 5 = 0 := by
  rw [h.2.2.2.1, zeq_0 (by have := h.2.2.1; omega)]
  have := h.2.1
  omega
theorem nbOK_8 {x : Nat} {lo hi : Int32} (hhi : hi.toInt < 99999999) : (¬ nI (cap 100000000 x) < lo ∧ ¬ hi < nI (cap 100000000 x)) ↔ nbOK x lo hi = true := by
  unfold nbOK
  rw [decide_eq_true_eq]
  by_cases h : x < 99999999
  · have e1 : cap 100000000 x = x := if_pos (by omega)
    have e2 : cap 99999999 x = x := if_pos h
    rw [e1, e2]
  · have e2 : cap 99999999 x = 99999999 := if_neg h
    have h1 : ¬ ¬ hi < nI (cap 100000000 x) := by
      intro hn
      apply hn
      have hc := cap_le 100000000 x
      rw [i_lt, hl_toInt (by omega)]
      unfold cap
      split <;> omega
    have h2 : ¬ ¬ hi < nI (cap 99999999 x) := by
      intro hn
      apply hn
      rw [e2, i_lt, hl_toInt (by omega)]
      omega
    exact ⟨fun e => absurd e.2 h1, fun e => absurd e.2 h2⟩
section
variable (L : Nat) (xs : Nat → Int32) (O : Int64) {tx : Nat → Nat} {N : Nat}
theorem x7_byteAt {D : Nat} (hD : 2 ≤ D) (p : Nat) (hp : p ≤ 1300) (M : Mem) (hX : MX M tx N) : EX L xs (D) q_X7_byteAt [.inr (.inr (40, 0)), .inl (nI p)] M O = (some (.inl (some (.inl (bA tx N p))), M, O, 0, 0) : Res) := by
  obtain ⟨h600, h2, hb⟩ := hX
  obtain ⟨d, rfl⟩ : ∃ d, D = d + 2 := ⟨D - 2, by omega⟩
  refine (EX_in mi_X7_byteAt rfl rfl rfl (ls := [some (.inr (.inr (40, 0))), some (.inl (nI p))]) rfl).trans ?_
  unfold bA
  by_cases c : p < N
  · have b1 := (hb p c).1
    rw [if_pos c]
    simp (disch := first | omega | rfl | decide) only [e_X7_byteAt_0, e_X7_byteAt_18, xr_v, xr_n, hl_of, hl_cl, hl_toInt, hl_le, hl_lt, hl_eq, nI_add, hl_sub, pk_mul, hl_div, if_pos, if_neg, ↓reduceIte, Nat.reduceAdd, Nat.reduceSub, Nat.reduceMul, Nat.add_zero, Nat.zero_add, mp_s, mp_k, mp_i, mp_g, mr_s, mr_i, mr_g, zlt_0, zlt_1, zlt_2, zlt_3, zlt_4, zlt_5, zlt_6, zlt_8, zlt_12, zlt_15, zlt_20, zlt_24, zlt_36, zlt_40, zlt_48, zlt_80, zlt_97, zlt_120, zlt_256, zlt_600, zlt_99999999, zadd_1, zadd_2, zadd_5, zadd_6, zadd_8, zadd_20, zadd_24, zeq_0, zeq_1, zeq_2, zeq_3, zeq_4, zeq_5, zeq_6, zeq_7, zeq_8, zeq_13, zeq_14, zeq_20, zeq_32, zeq_59, zeq_60, zeq_80, zmul_2, zmul_4, zmul_6, zmul_8, zmul_10, zmul_24, zsub_1, zsub_2, zsub_10, zsub_48, zsub_97, zle_0, zle_1, zle_2, zle_6, zle_11, zle_200, zle_600, zle_100000000, ylt_0, ylt_1, ylt_2, ylt_3, ylt_6, ylt_9, ylt_20, ylt_24, ylt_57, ylt_60, ylt_99, ylt_120, ylt_122, ylt_999, ylt_9999, yle_0, yle_2, yle_4, yle_5, yle_6, yle_7, yle_8, yle_10, yle_12, yle_13, yle_15, yle_16, yle_20, yle_24, yle_40, yle_60, yle_64, yle_80, yadd_1, yadd_22, ymul_2, ymul_4, ymul_6, ymul_8, ymul_10, ymul_24, ymul_27, ymul_100, ysub_1, ysub_24, zdiv_2, zdiv_4, zdiv_24, h2, b1]
  · rw [if_neg c]
    simp (disch := first | omega | rfl | decide) only [e_X7_byteAt_0, e_X7_byteAt_18, xr_v, xr_n, hl_of, hl_cl, hl_toInt, hl_le, hl_lt, hl_eq, nI_add, hl_sub, pk_mul, hl_div, if_pos, if_neg, ↓reduceIte, Nat.reduceAdd, Nat.reduceSub, Nat.reduceMul, Nat.add_zero, Nat.zero_add, mp_s, mp_k, mp_i, mp_g, mr_s, mr_i, mr_g, zlt_0, zlt_1, zlt_2, zlt_3, zlt_4, zlt_5, zlt_6, zlt_8, zlt_12, zlt_15, zlt_20, zlt_24, zlt_36, zlt_40, zlt_48, zlt_80, zlt_97, zlt_120, zlt_256, zlt_600, zlt_99999999, zadd_1, zadd_2, zadd_5, zadd_6, zadd_8, zadd_20, zadd_24, zeq_0, zeq_1, zeq_2, zeq_3, zeq_4, zeq_5, zeq_6, zeq_7, zeq_8, zeq_13, zeq_14, zeq_20, zeq_32, zeq_59, zeq_60, zeq_80, zmul_2, zmul_4, zmul_6, zmul_8, zmul_10, zmul_24, zsub_1, zsub_2, zsub_10, zsub_48, zsub_97, zle_0, zle_1, zle_2, zle_6, zle_11, zle_200, zle_600, zle_100000000, ylt_0, ylt_1, ylt_2, ylt_3, ylt_6, ylt_9, ylt_20, ylt_24, ylt_57, ylt_60, ylt_99, ylt_120, ylt_122, ylt_999, ylt_9999, yle_0, yle_2, yle_4, yle_5, yle_6, yle_7, yle_8, yle_10, yle_12, yle_13, yle_15, yle_16, yle_20, yle_24, yle_40, yle_60, yle_64, yle_80, yadd_1, yadd_22, ymul_2, ymul_4, ymul_6, ymul_8, ymul_10, ymul_24, ymul_27, ymul_100, ysub_1, ysub_24, zdiv_2, zdiv_4, zdiv_24, h2]
theorem x7_blanks {D : Nat} (hD : 3 ≤ D) (p : Nat) (hp : p ≤ 700) (M : Mem) (hX : MX M tx N) (h4 : M 40 0 4 = nI p) : isV (EX L xs (D) q_X7_blanks [.inr (.inr (40, 0))] M O) O (fun M' => Fr sM4 M M' ∧ M' 40 0 4 = nI (scn tx N isB p)) := by
  obtain ⟨d, rfl⟩ : ∃ d, D = d + 2 := ⟨D - 2, by omega⟩
  refine isV_e (EX_in mi_X7_blanks rfl rfl rfl (ls := [some (.inr (.inr (40, 0)))]) rfl) ?_
  have h600 := hX.1
  refine loopA L xs O (P := fun r => isV r O _) (fun j ls M' => ls = [some (.inr (.inr (40, 0)))] ∧ Fr sM4 M M' ∧ M' 40 0 4 = nI (p + j) ∧ scn tx N isB (p + j) = scn tx N isB p) (N - p) 100 (by omega) ?_ ?_ (Nat.le_of_lt (FU (by omega))) ⟨rfl, Fr_refl, h4, rfl⟩
  · rintro f k j _ M' hj ⟨rfl, fr, h4, hs⟩ ih
    have hX' := MX_fr hX (Fr_mono (fun _ _ _ => sM_4) fr)
    have q := x7_byteAt L xs O (D := d + 1) (by omega) (p + j) (by omega) M' hX'
    have hb := (hX'.2.2 (p + j) (by omega)).2
    have eb : bA tx N (p + j) = nI (tx (p + j)) := if_pos (by omega)
    rw [eb] at q
    rw [e_X7_blanks_0, h4, q]
    simp only [xr_v, Nat.reduceAdd, Nat.add_zero]
    rw [e_X7_blanks_8]
    by_cases c : isB (tx (p + j)) = true
    · have c' : tx (p + j) = 32 := of_decide_eq_true c
      rw [if_pos (by rw [c']; rfl), h4, zadd_1]
      refine ih _ _ ⟨rfl, Fr_put fr rfl, mp_s, ?_⟩
      rw [← hs, scn_t (by omega) c]
      rfl
    · have c' : ¬ tx (p + j) = 32 := fun e => c (decide_eq_true e)
      rw [if_neg (by rw [zeq_32 (by omega)]; exact c')]
      refine isV_i ⟨fr, ?_⟩
      rw [h4, ← hs, scn_f (fun e => c e.2)]
  · rintro f k _ M' ⟨rfl, fr, h4, hs⟩
    have hX' := MX_fr hX (Fr_mono (fun _ _ _ => sM_4) fr)
    have q := x7_byteAt L xs O (D := d + 1) (by omega) (p + (N - p)) (by omega) M' hX'
    have eb : bA tx N (p + (N - p)) = -1 := if_neg (by omega)
    rw [eb] at q
    rw [e_X7_blanks_0, h4, q]
    simp only [xr_v, Nat.reduceAdd, Nat.add_zero]
    rw [e_X7_blanks_8, if_neg (by decide)]
    refine isV_i ⟨fr, ?_⟩
    rw [h4, ← hs, scn_f (by omega)]
theorem x7_wrong_0 {D : Nat} (hD : 2 ≤ D) (a b : Int32) (M : Mem) (h : M 40 0 5 = 0) : EX L xs (D) q_X7_wrong [.inr (.inr (40, 0)), .inl (a), .inl (b)] M O = (some (.inl none, mput (mput M 40 0 5 a) 40 0 6 b, O, 0, 0) : Res) := by
  obtain ⟨d, rfl⟩ : ∃ d, D = d + 2 := ⟨D - 2, by omega⟩
  refine (EX_in mi_X7_wrong rfl rfl rfl (ls := [some (.inr (.inr (40, 0))), some (.inl (a)), some (.inl (b))]) rfl).trans ?_
  rw [e_X7_wrong_0, if_pos h, e_X7_wrong_17]
theorem x7_wrong_1 {D : Nat} (hD : 2 ≤ D) (a b : Int32) (M : Mem) (h : ¬ M 40 0 5 = 0) : EX L xs (D) q_X7_wrong [.inr (.inr (40, 0)), .inl (a), .inl (b)] M O = (some (.inl none, M, O, 0, 0) : Res) := by
  obtain ⟨d, rfl⟩ : ∃ d, D = d + 2 := ⟨D - 2, by omega⟩
  refine (EX_in mi_X7_wrong rfl rfl rfl (ls := [some (.inr (.inr (40, 0))), some (.inl (a)), some (.inl (b))]) rfl).trans ?_
  rw [e_X7_wrong_0, if_neg h, e_X7_wrong_17]
theorem x7_isDigit {D : Nat} (hD : 2 ≤ D) (p : Nat) (hX : ∀ i, i < N → tx i < 256) (M : Mem) : EX L xs (D) q_X7_isDigit [.inl (bA tx N p)] M O = (some (.inl (some (.inl (b2i (decide (p < N) && isG (tx p))))), M, O, 0, 0) : Res) := by
  obtain ⟨d, rfl⟩ : ∃ d, D = d + 2 := ⟨D - 2, by omega⟩
  refine (EX_in mi_X7_isDigit rfl rfl rfl (ls := [some (.inl (bA tx N p))]) rfl).trans ?_
  unfold bA isG
  by_cases c : p < N
  · have hb := hX p c
    rw [if_pos c, decide_eq_true c, Bool.true_and]
    by_cases c1 : tx p < 48
    · rw [decide_eq_false (by omega)]
      simp (disch := first | omega | rfl | decide) only [e_X7_isDigit_0, e_X7_isDigit_16, e_X7_isDigit_17, xr_v, xr_n, hl_of, hl_cl, hl_toInt, hl_le, hl_lt, hl_eq, nI_add, hl_sub, pk_mul, hl_div, if_pos, if_neg, ↓reduceIte, Nat.reduceAdd, Nat.reduceSub, Nat.reduceMul, Nat.add_zero, Nat.zero_add, mp_s, mp_k, mp_i, mp_g, mr_s, mr_i, mr_g, zlt_0, zlt_1, zlt_2, zlt_3, zlt_4, zlt_5, zlt_6, zlt_8, zlt_12, zlt_15, zlt_20, zlt_24, zlt_36, zlt_40, zlt_48, zlt_80, zlt_97, zlt_120, zlt_256, zlt_600, zlt_99999999, zadd_1, zadd_2, zadd_5, zadd_6, zadd_8, zadd_20, zadd_24, zeq_0, zeq_1, zeq_2, zeq_3, zeq_4, zeq_5, zeq_6, zeq_7, zeq_8, zeq_13, zeq_14, zeq_20, zeq_32, zeq_59, zeq_60, zeq_80, zmul_2, zmul_4, zmul_6, zmul_8, zmul_10, zmul_24, zsub_1, zsub_2, zsub_10, zsub_48, zsub_97, zle_0, zle_1, zle_2, zle_6, zle_11, zle_200, zle_600, zle_100000000, ylt_0, ylt_1, ylt_2, ylt_3, ylt_6, ylt_9, ylt_20, ylt_24, ylt_57, ylt_60, ylt_99, ylt_120, ylt_122, ylt_999, ylt_9999, yle_0, yle_2, yle_4, yle_5, yle_6, yle_7, yle_8, yle_10, yle_12, yle_13, yle_15, yle_16, yle_20, yle_24, yle_40, yle_60, yle_64, yle_80, yadd_1, yadd_22, ymul_2, ymul_4, ymul_6, ymul_8, ymul_10, ymul_24, ymul_27, ymul_100, ysub_1, ysub_24, zdiv_2, zdiv_4, zdiv_24, true_or]
      rfl
    · by_cases c2 : 57 < tx p
      · rw [decide_eq_false (by omega)]
        simp (disch := first | omega | rfl | decide) only [e_X7_isDigit_0, e_X7_isDigit_16, e_X7_isDigit_17, xr_v, xr_n, hl_of, hl_cl, hl_toInt, hl_le, hl_lt, hl_eq, nI_add, hl_sub, pk_mul, hl_div, if_pos, if_neg, ↓reduceIte, Nat.reduceAdd, Nat.reduceSub, Nat.reduceMul, Nat.add_zero, Nat.zero_add, mp_s, mp_k, mp_i, mp_g, mr_s, mr_i, mr_g, zlt_0, zlt_1, zlt_2, zlt_3, zlt_4, zlt_5, zlt_6, zlt_8, zlt_12, zlt_15, zlt_20, zlt_24, zlt_36, zlt_40, zlt_48, zlt_80, zlt_97, zlt_120, zlt_256, zlt_600, zlt_99999999, zadd_1, zadd_2, zadd_5, zadd_6, zadd_8, zadd_20, zadd_24, zeq_0, zeq_1, zeq_2, zeq_3, zeq_4, zeq_5, zeq_6, zeq_7, zeq_8, zeq_13, zeq_14, zeq_20, zeq_32, zeq_59, zeq_60, zeq_80, zmul_2, zmul_4, zmul_6, zmul_8, zmul_10, zmul_24, zsub_1, zsub_2, zsub_10, zsub_48, zsub_97, zle_0, zle_1, zle_2, zle_6, zle_11, zle_200, zle_600, zle_100000000, ylt_0, ylt_1, ylt_2, ylt_3, ylt_6, ylt_9, ylt_20, ylt_24, ylt_57, ylt_60, ylt_99, ylt_120, ylt_122, ylt_999, ylt_9999, yle_0, yle_2, yle_4, yle_5, yle_6, yle_7, yle_8, yle_10, yle_12, yle_13, yle_15, yle_16, yle_20, yle_24, yle_40, yle_60, yle_64, yle_80, yadd_1, yadd_22, ymul_2, ymul_4, ymul_6, ymul_8, ymul_10, ymul_24, ymul_27, ymul_100, ysub_1, ysub_24, zdiv_2, zdiv_4, zdiv_24, true_or]
        rfl
      · rw [decide_eq_true (by omega)]
        simp (disch := first | omega | rfl | decide) only [e_X7_isDigit_0, e_X7_isDigit_16, e_X7_isDigit_17, xr_v, xr_n, hl_of, hl_cl, hl_toInt, hl_le, hl_lt, hl_eq, nI_add, hl_sub, pk_mul, hl_div, if_pos, if_neg, ↓reduceIte, Nat.reduceAdd, Nat.reduceSub, Nat.reduceMul, Nat.add_zero, Nat.zero_add, mp_s, mp_k, mp_i, mp_g, mr_s, mr_i, mr_g, zlt_0, zlt_1, zlt_2, zlt_3, zlt_4, zlt_5, zlt_6, zlt_8, zlt_12, zlt_15, zlt_20, zlt_24, zlt_36, zlt_40, zlt_48, zlt_80, zlt_97, zlt_120, zlt_256, zlt_600, zlt_99999999, zadd_1, zadd_2, zadd_5, zadd_6, zadd_8, zadd_20, zadd_24, zeq_0, zeq_1, zeq_2, zeq_3, zeq_4, zeq_5, zeq_6, zeq_7, zeq_8, zeq_13, zeq_14, zeq_20, zeq_32, zeq_59, zeq_60, zeq_80, zmul_2, zmul_4, zmul_6, zmul_8, zmul_10, zmul_24, zsub_1, zsub_2, zsub_10, zsub_48, zsub_97, zle_0, zle_1, zle_2, zle_6, zle_11, zle_200, zle_600, zle_100000000, ylt_0, ylt_1, ylt_2, ylt_3, ylt_6, ylt_9, ylt_20, ylt_24, ylt_57, ylt_60, ylt_99, ylt_120, ylt_122, ylt_999, ylt_9999, yle_0, yle_2, yle_4, yle_5, yle_6, yle_7, yle_8, yle_10, yle_12, yle_13, yle_15, yle_16, yle_20, yle_24, yle_40, yle_60, yle_64, yle_80, yadd_1, yadd_22, ymul_2, ymul_4, ymul_6, ymul_8, ymul_10, ymul_24, ymul_27, ymul_100, ysub_1, ysub_24, zdiv_2, zdiv_4, zdiv_24, or_true]
        rfl
  · rw [if_neg c, decide_eq_false c, Bool.false_and, e_X7_isDigit_0, if_pos (by decide), e_X7_isDigit_16, e_X7_isDigit_17, if_pos (Or.inl rfl)]
    rfl
theorem x7_number {D : Nat} (hD : 4 ≤ D) (ts : TS) (lo hi : Int32) (hhi : hi.toInt < 99999999) (M : Mem) (hX : MX M tx N) (hT : MPT M N ts) : isI (EX L xs (D) q_X7_number [.inr (.inr (40, 0)), .inl (lo), .inl (hi)] M O) O (nvM tx N ts lo hi) (fun M' => Fr sM M M' ∧ MPT M' N (nb tx N ts lo hi)) := by
  have h600 := hX.1
  obtain ⟨d, rfl⟩ : ∃ d, D = d + 2 := ⟨D - 2, by omega⟩
  refine isI_e (EX_in mi_X7_number rfl rfl rfl (ls := [some (.inr (.inr (40, 0))), some (.inl (lo)), some (.inl (hi)), none, none]) rfl) ?_
  cases ts with
  | inr e =>
    rw [e_X7_number_0, if_neg (MPT_5 hT)]
    exact isI_i ⟨Fr_refl, hT⟩
  | inl p =>
    obtain ⟨t1, t2, t3, t4⟩ := hT
    obtain ⟨M1, q1, f1, c1⟩ := x7_blanks L xs O (D := d + 1) (by omega) p (by omega) M hX t2
    have f1' : Fr sM M M1 := Fr_mono (fun _ _ _ => sM_4) f1
    have hX1 := MX_fr hX f1'
    have hp1 := scn_le (tx := tx) (c := isB) t1
    have z5 : M1 40 0 5 = 0 := (f1 40 0 5 rfl).trans t3
    have z6 : M1 40 0 6 = -1 := (f1 40 0 6 rfl).trans t4
    have hnb : nb tx N (.inl p) lo hi = _ := nb_l
    have hnv : nv tx N (.inl p) = nI (vl tx N (scn tx N isB p) 0) := rfl
    have hM0 : ∀ e, nb tx N (.inl p) lo hi = .inr e → nvM tx N (.inl p) lo hi = 0 := fun e h => by
      unfold nvM
      rw [h]
    have hM1 : ∀ e, nb tx N (.inl p) lo hi = .inl e → nvM tx N (.inl p) lo hi = nv tx N (.inl p) := fun e h => by
      unfold nvM
      rw [h]
    generalize scn tx N isB p = s at *
    have bd := fun M => x7_byteAt L xs O (D := d + 1) (by omega) s (by omega) M (tx := tx) (N := N)
    have dg := fun M => x7_isDigit L xs O (D := d + 1) (by omega) (tx := tx) (N := N) s (fun i hi => (hX.2.2 i hi).2) M
    rw [e_X7_number_0, if_pos t3, q1]
    simp only [xr_n, Nat.reduceAdd, Nat.add_zero]
    rw [e_X7_number_13, c1, bd M1 hX1]
    simp only [xr_v, Nat.reduceAdd, Nat.add_zero]
    rw [e_X7_number_29, dg M1]
    simp only [xr_v, Nat.reduceAdd, Nat.add_zero]
    rw [e_X7_number_32]
    by_cases c : s < N ∧ isG (tx s) = true
    · -- digits
      rw [decide_eq_true c.1, c.2, Bool.true_and, b2i_t, if_neg (by decide)]
      have hne : ¬ scn tx N isG s = s := by
        rw [scn_t c.1 c.2]
        have := scn_ge (tx := tx) (N := N) (c := isG) (s + 1)
        omega
      rw [if_neg hne] at hnb
      have fin : ∀ f k x q M', Fr sM4 M1 M' → M' 40 0 4 = nI q → q ≤ N → q = scn tx N isG s → x = vl tx N s 0 → ¬ (q < N ∧ isG (tx q) = true) → isI (BK L xs (EX L xs (d + 1)) mi_X7_number (RN L xs (d) mi_X7_number f) (k + 200) 44 [some (.inr (.inr (40, 0))), some (.inl (lo)), some (.inl (hi)), some (.inl (nI s)), some (.inl (nI (cap 100000000 x)))] [] M' O none 0 0) O (nvM tx N (.inl p) lo hi) (fun M' => Fr sM M M' ∧ MPT M' N (nb tx N (.inl p) lo hi)) := by
        intro f k x q M' fr h4 hq hq2 hx hend
        have frM : Fr sM M M' := Fr_trans f1' (Fr_mono (fun _ _ _ => sM_4) fr)
        have hX' := MX_fr hX frM
        have y5 : M' 40 0 5 = 0 := (fr 40 0 5 rfl).trans z5
        have y6 : M' 40 0 6 = -1 := (fr 40 0 6 rfl).trans z6
        have hdg : (decide (q < N) && isG (tx q)) = false := by
          by_cases e : q < N
          · rw [decide_eq_true e, Bool.true_and]
            cases e2 : isG (tx q) with
            | false => rfl
            | true => exact absurd ⟨e, e2⟩ hend
          · rw [decide_eq_false e, Bool.false_and]
        rw [e_X7_number_44, h4, x7_byteAt L xs O (D := d + 1) (by omega) q (by omega) M' hX']
        simp only [xr_v, Nat.reduceAdd, Nat.add_zero]
        rw [e_X7_number_52, x7_isDigit L xs O (D := d + 1) (by omega) (tx := tx) (N := N) q (fun i hi => (hX.2.2 i hi).2) M', hdg]
        simp only [xr_v, Nat.reduceAdd, Nat.add_zero]
        rw [b2i_f, e_X7_number_55, if_pos rfl]
        have h8 := nbOK_8 (x := x) (lo := lo) hhi
        rw [← hx, ← hq2] at hnb
        by_cases ok : nbOK x lo hi = true
        · obtain ⟨o1, o2⟩ := h8.mpr ok
          rw [if_pos ok] at hnb
          have hcx : nI (vl tx N s 0) = nI (cap 100000000 x) := by
            rw [← hx]
            have hle := o2
            rw [i_lt, hl_toInt (by have := cap_le 100000000 x; omega)] at hle
            unfold cap at hle ⊢
            by_cases hx9 : x < 100000000
            · rw [if_pos hx9]
            · rw [if_neg hx9] at hle
              omega
          rw [x7_r_in L xs O (D := d + 1) (by omega) _ lo hi M' o1 o2]
          simp only [xr_v, Nat.reduceAdd, Nat.add_zero]
          rw [e_X7_number_113, if_neg (by decide), e_X7_number_122, if_pos y5, e_X7_number_135, hM1 _ hnb, hnv, hcx, hnb]
          exact isI_i ⟨frM, hq, h4, y5, y6⟩
        · rw [if_neg ok] at hnb
          have hin : EX L xs (d + 1) q_X7_in [.inl (nI (cap 100000000 x)), .inl (lo), .inl (hi)] M' O = (some (.inl (some (.inl (0))), M', O, 0, 0) : Res) := by
            by_cases o1 : nI (cap 100000000 x) < lo
            · exact x7_r_lo L xs O (by omega) _ lo hi M' o1
            · by_cases o2 : hi < nI (cap 100000000 x)
              · exact x7_r_hi L xs O (by omega) _ lo hi M' o2
              · exact absurd (h8.mp ⟨o1, o2⟩) ok
          have y5' : ¬ mput (mput M' 40 0 5 2) 40 0 6 (nI s) 40 0 5 = 0 := by
            rw [mp_k (by omega), mp_s]
            decide
          rw [hin]
          simp only [xr_v, Nat.reduceAdd, Nat.add_zero]
          rw [e_X7_number_113, if_pos rfl, x7_wrong_0 L xs O (D := d + 1) (by omega) _ _ M' y5]
          simp only [xr_n, Nat.reduceAdd, Nat.add_zero]
          rw [e_X7_number_122, if_neg y5', e_X7_number_135, hM0 _ hnb, hnb]
          refine isI_i ⟨Fr_put (Fr_put frM rfl) rfl, ⟨q, hq, ?_⟩, by show 1 ≤ 2; omega, by show 2 ≤ 4; omega, ?_, mp_s⟩
          · rw [mp_k (by omega), mp_k (by omega)]
            exact h4
          · rw [mp_k (by omega), mp_s]
            rfl
      refine loopA L xs O (P := fun r => isI r O _ _) (fun j ls M' => ∃ x, ls = [some (.inr (.inr (40, 0))), some (.inl (lo)), some (.inl (hi)), some (.inl (nI s)), some (.inl (nI (cap 100000000 x)))] ∧ Fr sM4 M1 M' ∧ M' 40 0 4 = nI (s + j) ∧ scn tx N isG (s + j) = scn tx N isG s ∧ vl tx N (s + j) x = vl tx N s 0) (N - s) 400 (by omega) ?_ ?_ (Nat.le_of_lt (FU (by omega))) ⟨0, rfl, Fr_refl, c1, rfl, rfl⟩
      · rintro f k j _ M' hj ⟨x, rfl, fr, h4, hs, hv⟩ ih
        by_cases c : isG (tx (s + j)) = true
        · have hX' := MX_fr hX (Fr_trans f1' (Fr_mono (fun _ _ _ => sM_4) fr))
          have c' : 48 ≤ tx (s + j) ∧ tx (s + j) ≤ 57 := of_decide_eq_true c
          have hcl := cap_le 100000000 x
          have eb : bA tx N (s + j) = nI (tx (s + j)) := if_pos (by omega)
          have q2 := x7_byteAt L xs O (D := d + 1) (by omega) (s + j) (by omega) M' hX'
          have q3 := x7_isDigit L xs O (D := d + 1) (by omega) (tx := tx) (N := N) (s + j) (fun i hi => (hX.2.2 i hi).2) M'
          rw [c, decide_eq_true (show s + j < N by omega), Bool.true_and, b2i_t] at q3
          rw [e_X7_number_44, h4, q2]
          simp only [xr_v, Nat.reduceAdd, Nat.add_zero]
          rw [e_X7_number_52, q3]
          simp only [xr_v, Nat.reduceAdd, Nat.add_zero]
          rw [e_X7_number_55, if_neg (by decide), h4, q2]
          simp only [xr_v, Nat.reduceAdd, Nat.add_zero]
          rw [eb, ymul_10, e_X7_number_71, nI_add, show (48 : Int32) = nI 48 from rfl, hl_sub (by omega)]
          have hy : 10 * cap 100000000 x + tx (s + j) - 48 = 10 * cap 100000000 x + (tx (s + j) - 48) := by omega
          have ec := cap_s (C := 100000000) (x := x) (show tx (s + j) - 48 < 10 by omega)
          have next : ∀ k' a4 v, v = cap 100000000 (10 * x + (tx (s + j) - 48)) → isI (BK L xs (EX L xs (d + 1)) mi_X7_number (RN L xs (d) mi_X7_number f) (k' + 60) 91 [some (.inr (.inr (40, 0))), some (.inl (lo)), some (.inl (hi)), some (.inl (nI s)), some (.inl (a4))] [.inl (nI v)] M' O none 0 0) O (nvM tx N (.inl p) lo hi) (fun M' => Fr sM M M' ∧ MPT M' N (nb tx N (.inl p) lo hi)) := by
            intro k' a4 v hv'
            rw [e_X7_number_91, h4, zadd_1, hv']
            refine ih _ _ ⟨10 * x + (tx (s + j) - 48), rfl, Fr_put fr rfl, mp_s, ?_, ?_⟩
            · rw [← hs, scn_t (by omega) c]
              rfl
            · rw [← hv, vl_t (by omega) c]
              rfl
          rw [hy]
          by_cases cy : 10 * cap 100000000 x + (tx (s + j) - 48) ≤ 100000000
          · rw [if_pos (by rw [zle_100000000 (by omega)]; exact cy)]
            refine next _ _ _ ?_
            rw [← ec]
            generalize 10 * cap 100000000 x + (tx (s + j) - 48) = y at *
            unfold cap
            split <;> omega
          · rw [if_neg (by rw [zle_100000000 (by omega)]; exact cy)]
            refine next _ _ 100000000 ?_
            rw [← ec]
            generalize 10 * cap 100000000 x + (tx (s + j) - 48) = y at *
            unfold cap
            rw [if_neg (by omega)]
        · refine fin f (k + 200) x (s + j) M' fr h4 (by omega) ?_ ?_ (fun e => c e.2)
          · rw [← hs, scn_f (fun e => c e.2)]
          · rw [← hv, vl_f (fun e => c e.2)]
      · rintro f k _ M' ⟨x, rfl, fr, h4, hs, hv⟩
        refine fin f (k + 200) x (s + (N - s)) M' fr h4 (by omega) ?_ ?_ (by omega)
        · rw [← hs, scn_f (by omega)]
        · rw [← hv, vl_f (by omega)]
    · -- no digit
      have hdg : (decide (s < N) && isG (tx s)) = false := by
        by_cases e : s < N
        · rw [decide_eq_true e, Bool.true_and]
          cases e2 : isG (tx s) with
          | false => rfl
          | true => exact absurd ⟨e, e2⟩ c
        · rw [decide_eq_false e, Bool.false_and]
      rw [if_pos (scn_f c)] at hnb
      rw [hdg, b2i_f, if_pos rfl, c1, x7_wrong_0 L xs O (D := d + 1) (by omega) _ _ M1 z5]
      simp only [xr_n, Nat.reduceAdd, Nat.add_zero]
      generalize hM2 : mput (mput M1 40 0 5 1) 40 0 6 (nI s) = M2
      have fr2 : Fr sM M M2 := hM2 ▸ Fr_put (Fr_put f1' rfl) rfl
      have hX2 := MX_fr hX fr2
      have w4 : M2 40 0 4 = nI s := by rw [← hM2, mp_k (by omega), mp_k (by omega)]; exact c1
      have w5 : M2 40 0 5 = nI 1 := by rw [← hM2, mp_k (by omega), mp_s]; rfl
      have w5' : ¬ M2 40 0 5 = 0 := by rw [w5]; decide
      have w6 : M2 40 0 6 = nI s := by rw [← hM2, mp_s]
      have last : ∀ k, isI (BK L xs (EX L xs (d + 1)) mi_X7_number (RN L xs (d) mi_X7_number FUEL) (k + 60) 122 [some (.inr (.inr (40, 0))), some (.inl (lo)), some (.inl (hi)), some (.inl (nI s)), some (.inl (0))] [] M2 O none 0 0) O (nvM tx N (.inl p) lo hi) (fun M' => Fr sM M M' ∧ MPT M' N (nb tx N (.inl p) lo hi)) := by
        intro k
        rw [e_X7_number_122, if_neg w5', e_X7_number_135, hM0 _ hnb, hnb]
        exact isI_i ⟨fr2, ⟨s, hp1, w4⟩, by show 1 ≤ 1; omega, by show 1 ≤ 4; omega, w5, w6⟩
      rw [e_X7_number_44, w4, bd M2 hX2]
      simp only [xr_v, Nat.reduceAdd, Nat.add_zero]
      rw [e_X7_number_52, dg M2, hdg]
      simp only [xr_v, Nat.reduceAdd, Nat.add_zero]
      rw [b2i_f, e_X7_number_55, if_pos rfl, x7_in L xs O (D := d + 1) (by omega)]
      simp only [xr_v, Nat.reduceAdd, Nat.add_zero]
      rw [e_X7_number_113]
      by_cases o1 : (0 : Int32) < lo
      · rw [if_pos o1, if_pos rfl, x7_wrong_1 L xs O (D := d + 1) (by omega) _ _ M2 w5']
        simp only [xr_n, Nat.reduceAdd, Nat.add_zero]
        exact last _
      · rw [if_neg o1]
        by_cases o2 : hi < 0
        · rw [if_pos o2, if_pos rfl, x7_wrong_1 L xs O (D := d + 1) (by omega) _ _ M2 w5']
          simp only [xr_n, Nat.reduceAdd, Nat.add_zero]
          exact last _
        · rw [if_neg o2, if_neg (by decide)]
          exact last _
theorem x7_skipWord {D : Nat} (hD : 3 ≤ D) (p : Nat) (hp : p ≤ 700) (M : Mem) (hX : MX M tx N) (h4 : M 40 0 4 = nI p) : isV (EX L xs (D) q_X7_skipWord [.inr (.inr (40, 0))] M O) O (fun M' => Fr sM4 M M' ∧ M' 40 0 4 = nI (scn tx N isA p)) := by
  obtain ⟨d, rfl⟩ : ∃ d, D = d + 2 := ⟨D - 2, by omega⟩
  refine isV_e (EX_in mi_X7_skipWord rfl rfl rfl (ls := [some (.inr (.inr (40, 0)))]) rfl) ?_
  have h600 := hX.1
  refine loopA L xs O (P := fun r => isV r O _) (fun j ls M' => ls = [some (.inr (.inr (40, 0)))] ∧ Fr sM4 M M' ∧ M' 40 0 4 = nI (p + j) ∧ scn tx N isA (p + j) = scn tx N isA p) (N - p) 200 (by omega) ?_ ?_ (Nat.le_of_lt (FU (by omega))) ⟨rfl, Fr_refl, h4, rfl⟩
  · rintro f k j _ M' hj ⟨rfl, fr, h4, hs⟩ ih
    have hX' := MX_fr hX (Fr_mono (fun _ _ _ => sM_4) fr)
    have q := x7_byteAt L xs O (D := d + 1) (by omega) (p + j) (by omega) M' hX'
    have hb := (hX'.2.2 (p + j) (by omega)).2
    have eb : bA tx N (p + j) = nI (tx (p + j)) := if_pos (by omega)
    rw [eb] at q
    have stop : ¬ isA (tx (p + j)) = true → isV (some (.inl none, M', O, 0, 0)) O (fun M' => Fr sM4 M M' ∧ M' 40 0 4 = nI (scn tx N isA p)) := fun c => isV_i ⟨fr, by rw [h4, ← hs, scn_f (fun e => c e.2)]⟩
    rw [e_X7_skipWord_0, h4, q]
    simp only [xr_v, Nat.reduceAdd, Nat.add_zero]
    rw [e_X7_skipWord_8]
    by_cases c1 : tx (p + j) < 97
    · rw [if_pos (by rw [zlt_97 (by omega)]; exact c1), e_X7_skipWord_39]
      exact stop (fun e => by have := of_decide_eq_true e; omega)
    · rw [if_neg (by rw [zlt_97 (by omega)]; exact c1), h4, q]
      simp only [xr_v, Nat.reduceAdd, Nat.add_zero]
      rw [e_X7_skipWord_21]
      by_cases c2 : 122 < tx (p + j)
      · rw [if_pos (by rw [ylt_122 (by omega)]; exact c2), e_X7_skipWord_39]
        exact stop (fun e => by have := of_decide_eq_true e; omega)
      · rw [if_neg (by rw [ylt_122 (by omega)]; exact c2), h4, zadd_1]
        have c : isA (tx (p + j)) = true := decide_eq_true (by omega)
        refine ih _ _ ⟨rfl, Fr_put fr rfl, mp_s, ?_⟩
        rw [← hs, scn_t (by omega) c]
        rfl
  · rintro f k _ M' ⟨rfl, fr, h4, hs⟩
    have hX' := MX_fr hX (Fr_mono (fun _ _ _ => sM_4) fr)
    have q := x7_byteAt L xs O (D := d + 1) (by omega) (p + (N - p)) (by omega) M' hX'
    have eb : bA tx N (p + (N - p)) = -1 := if_neg (by omega)
    rw [eb] at q
    rw [e_X7_skipWord_0, h4, q]
    simp only [xr_v, Nat.reduceAdd, Nat.add_zero]
    rw [e_X7_skipWord_8, if_pos (by decide), e_X7_skipWord_39]
    refine isV_i ⟨fr, ?_⟩
    rw [h4, ← hs, scn_f (by omega)]
theorem x7_closes {D : Nat} (hD : 4 ≤ D) (ts : TS) (M : Mem) (hX : MX M tx N) (hT : MPT M N ts) : isV (EX L xs (D) q_X7_closes [.inr (.inr (40, 0))] M O) O (fun M' => Fr sM M M' ∧ MPT M' N (cl tx N ts)) := by
  have h600 := hX.1
  obtain ⟨d, rfl⟩ : ∃ d, D = d + 2 := ⟨D - 2, by omega⟩
  refine isV_e (EX_in mi_X7_closes rfl rfl rfl (ls := [some (.inr (.inr (40, 0)))]) rfl) ?_
  cases ts with
  | inr e =>
    rw [e_X7_closes_0, if_neg (MPT_5 hT)]
    exact isV_i ⟨Fr_refl, hT⟩
  | inl p =>
    obtain ⟨t1, t2, t3, t4⟩ := hT
    obtain ⟨M1, q1, f1, c1⟩ := x7_blanks L xs O (D := d + 1) (by omega) p (by omega) M hX t2
    have f1' : Fr sM M M1 := Fr_mono (fun _ _ _ => sM_4) f1
    have hX1 := MX_fr hX f1'
    have hp1 := scn_le (tx := tx) (c := isB) t1
    have z5 : M1 40 0 5 = 0 := (f1 40 0 5 rfl).trans t3
    have z6 : M1 40 0 6 = -1 := (f1 40 0 6 rfl).trans t4
    have hcl : cl tx N (.inl p) = if scn tx N isB p < N ∧ tx (scn tx N isB p) = 59 then .inl (scn tx N isB p + 1) else .inr (1, scn tx N isB p) := rfl
    rw [hcl]
    generalize scn tx N isB p = s at *
    rw [e_X7_closes_0, if_pos t3, q1]
    simp only [xr_n, Nat.reduceAdd, Nat.add_zero]
    rw [e_X7_closes_12, c1, x7_byteAt L xs O (D := d + 1) (by omega) s (by omega) M1 hX1]
    simp only [xr_v, Nat.reduceAdd, Nat.add_zero]
    rw [e_X7_closes_20]
    by_cases c : s < N ∧ tx s = 59
    · have eb : bA tx N s = 59 := by
        unfold bA
        rw [if_pos c.1, c.2]
        rfl
      rw [if_pos c, if_pos eb, c1, zadd_1, e_X7_closes_47]
      refine isV_i ⟨Fr_put f1' rfl, ?_, mp_s, ?_, ?_⟩
      · omega
      · rw [mp_k (by omega)]
        exact z5
      · rw [mp_k (by omega)]
        exact z6
    · have eb : ¬ bA tx N s = 59 := by
        unfold bA
        by_cases e : s < N
        · rw [if_pos e, zeq_59 (by have := (hX.2.2 s e).2; omega)]
          exact fun e2 => c ⟨e, e2⟩
        · rw [if_neg e]
          decide
      rw [if_neg c, if_neg eb, c1, x7_wrong_0 L xs O (D := d + 1) (by omega) _ _ M1 z5]
      simp only [xr_n, Nat.reduceAdd, Nat.add_zero]
      rw [e_X7_closes_47]
      refine isV_i ⟨Fr_put (Fr_put f1' rfl) rfl, ⟨s, hp1, ?_⟩, by show 1 ≤ 1; omega, by show 1 ≤ 4; omega, ?_, mp_s⟩
      · rw [mp_k (by omega), mp_k (by omega)]
        exact c1
      · rw [mp_k (by omega), mp_s]
        rfl
end
