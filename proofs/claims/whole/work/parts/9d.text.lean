/-! A text read: scanning; the class's TAPE. -/
def scF (tx : Nat → Nat) (N : Nat) (c : Nat → Bool) : Nat → Nat → Nat
  | 0, p => p
  | f + 1, p => if p < N ∧ c (tx p) = true then scF tx N c f (p + 1) else p
def scn (tx : Nat → Nat) (N : Nat) (c : Nat → Bool) (p : Nat) : Nat := scF tx N c (N - p) p
def isB (t : Nat) : Bool := decide (t = 32)
def isG (t : Nat) : Bool := decide (48 ≤ t ∧ t ≤ 57)
def isA (t : Nat) : Bool := decide (97 ≤ t ∧ t ≤ 122)
def vlF (tx : Nat → Nat) (N : Nat) : Nat → Nat → Nat → Nat
  | 0, _, v => v
  | f + 1, p, v => if p < N ∧ isG (tx p) = true then vlF tx N f (p + 1) (10 * v + (tx p - 48)) else v
def vl (tx : Nat → Nat) (N p v : Nat) : Nat := vlF tx N (N - p) p v
section
variable {tx : Nat → Nat} {N : Nat} {c : Nat → Bool}
theorem scn_t {p : Nat} (h : p < N) (hc : c (tx p) = true) : scn tx N c p = scn tx N c (p + 1) := by
  unfold scn
  obtain ⟨f, hf⟩ : ∃ f, N - p = f + 1 := ⟨N - p - 1, by omega⟩
  rw [hf, show N - (p + 1) = f by omega]
  exact if_pos ⟨h, hc⟩
theorem scn_f {p : Nat} (h : ¬ (p < N ∧ c (tx p) = true)) : scn tx N c p = p := by
  unfold scn
  cases N - p with
  | zero => rfl
  | succ f => exact if_neg h
theorem vl_t {p v : Nat} (h : p < N) (hc : isG (tx p) = true) : vl tx N p v = vl tx N (p + 1) (10 * v + (tx p - 48)) := by
  unfold vl
  obtain ⟨f, hf⟩ : ∃ f, N - p = f + 1 := ⟨N - p - 1, by omega⟩
  rw [hf, show N - (p + 1) = f by omega]
  exact if_pos ⟨h, hc⟩
theorem vl_f {p v : Nat} (h : ¬ (p < N ∧ isG (tx p) = true)) : vl tx N p v = v := by
  unfold vl
  cases N - p with
  | zero => rfl
  | succ f => exact if_neg h
theorem scn_b : ∀ r p, N - p ≤ r → p ≤ scn tx N c p ∧ (p ≤ N → scn tx N c p ≤ N) := by
  intro r
  induction r with
  | zero =>
    intro p h
    rw [scn_f (by omega)]
    exact ⟨Nat.le_refl _, fun h => h⟩
  | succ r ih =>
    intro p h
    by_cases e : p < N ∧ c (tx p) = true
    · rw [scn_t e.1 e.2]
      have := ih (p + 1) (by omega)
      exact ⟨by omega, fun _ => this.2 (by omega)⟩
    · rw [scn_f e]
      exact ⟨Nat.le_refl _, fun h => h⟩
theorem scn_ge (p : Nat) : p ≤ scn tx N c p := (scn_b _ p (Nat.le_refl _)).1
theorem scn_le {p : Nat} (h : p ≤ N) : scn tx N c p ≤ N := (scn_b _ p (Nat.le_refl _)).2 h
theorem scn_stop : ∀ r p, N - p ≤ r → ¬ (scn tx N c p < N ∧ c (tx (scn tx N c p)) = true) := by
  intro r
  induction r with
  | zero =>
    intro p h
    rw [scn_f (by omega)]
    omega
  | succ r ih =>
    intro p h
    by_cases e : p < N ∧ c (tx p) = true
    · rw [scn_t e.1 e.2]
      exact ih (p + 1) (by omega)
    · rw [scn_f e]
      exact e
theorem scn_end (p : Nat) : ¬ (scn tx N c p < N ∧ c (tx (scn tx N c p)) = true) := scn_stop _ p (Nat.le_refl _)
theorem scn_id (p : Nat) : scn tx N c (scn tx N c p) = scn tx N c p := scn_f (scn_end p)
end
def cap (C x : Nat) : Nat := if x < C then x else C
/-- where a reading stands: at a place, or at a FAULT (kind, place) -/
abbrev TS : Type := Nat ⊕ (Nat × Nat)
def nbOK (x : Nat) (lo hi : Int32) : Bool := decide (¬ nI (cap 99999999 x) < lo ∧ ¬ hi < nI (cap 99999999 x))
def nb (tx : Nat → Nat) (N : Nat) (ts : TS) (lo hi : Int32) : TS := match ts with
  | .inr e => .inr e
  | .inl p => if scn tx N isG (scn tx N isB p) = scn tx N isB p then .inr (1, scn tx N isB p) else if nbOK (vl tx N (scn tx N isB p) 0) lo hi = true then .inl (scn tx N isG (scn tx N isB p)) else .inr (2, scn tx N isB p)
theorem nb_l {tx : Nat → Nat} {N p : Nat} {lo hi : Int32} : nb tx N (.inl p) lo hi = if scn tx N isG (scn tx N isB p) = scn tx N isB p then .inr (1, scn tx N isB p) else if nbOK (vl tx N (scn tx N isB p) 0) lo hi = true then .inl (scn tx N isG (scn tx N isB p)) else .inr (2, scn tx N isB p) := rfl
def nv (tx : Nat → Nat) (N : Nat) (ts : TS) : Int32 := match ts with
  | .inr _ => 0
  | .inl p => nI (vl tx N (scn tx N isB p) 0)
def nvC (tx : Nat → Nat) (N : Nat) (ts : TS) (lo hi : Int32) : Int32 := match nb tx N ts lo hi with
  | .inr _ => lo
  | .inl _ => nv tx N ts
def nvM (tx : Nat → Nat) (N : Nat) (ts : TS) (lo hi : Int32) : Int32 := match nb tx N ts lo hi with
  | .inr _ => 0
  | .inl _ => nv tx N ts
def cl (tx : Nat → Nat) (N : Nat) (ts : TS) : TS := match ts with
  | .inr e => .inr e
  | .inl p => if scn tx N isB p < N ∧ tx (scn tx N isB p) = 59 then .inl (scn tx N isB p + 1) else .inr (1, scn tx N isB p)
/-- the class's TAPE holds the text -/
def TX (M : Mem) (tx : Nat → Nat) (N : Nat) : Prop := N ≤ 600 ∧ M 1 0 2 = nI N ∧ ∀ i, i < N → M 2 0 i = nI (tx i) ∧ tx i < 256
def TP (M : Mem) (N b : Nat) (ts : TS) : Prop := match ts with
  | .inl p => p ≤ N ∧ M 1 0 3 = nI p ∧ M 1 0 4 = 0 ∧ M 1 0 5 = -1
  | .inr e => (∃ p, p ≤ N + b ∧ M 1 0 3 = nI p) ∧ 1 ≤ e.1 ∧ e.1 ≤ 4 ∧ e.2 ≤ N ∧ M 1 0 4 = nI e.1 ∧ M 1 0 5 = nI e.2
def sT (g _i k : Nat) : Bool := decide (g = 1 ∧ (k = 3 ∨ k = 4 ∨ k = 5))
def sT3 (g _i k : Nat) : Bool := decide (g = 1 ∧ k = 3)
theorem sT_3 {g i k : Nat} (h : sT g i k = false) : sT3 g i k = false := by
  have := of_decide_eq_false h
  exact decide_eq_false (by omega)
theorem TX_fr {M M' : Mem} {tx : Nat → Nat} {N : Nat} (h : TX M tx N) (fr : Fr sT M M') : TX M' tx N := ⟨h.1, (fr 1 0 2 rfl).trans h.2.1, fun i hi => ⟨(fr 2 0 i rfl).trans (h.2.2 i hi).1, (h.2.2 i hi).2⟩⟩
section
variable (L : Nat) (xs : Nat → Int32) (O : Int64) {tx : Nat → Nat} {N : Nat}
theorem x5_isFrom {D : Nat} (hD : 2 ≤ D) (p lo hi : Nat) (hlo : lo < 1000) (hhi : hi < 1000) (hp : p ≤ 700) (M : Mem) (hX : TX M tx N) (h3 : M 1 0 3 = nI p) : EX L xs (D) q_X5_isFrom [.inr (.inr (1, 0)), .inl (nI lo), .inl (nI hi)] M O = (some (.inl (some (.inl (b2i (decide (p < N ∧ lo ≤ tx p ∧ tx p ≤ hi))))), M, O, 0, 0) : Res) := by
  obtain ⟨h600, h2, hb⟩ := hX
  obtain ⟨d, rfl⟩ : ∃ d, D = d + 2 := ⟨D - 2, by omega⟩
  refine (EX_in mi_X5_isFrom rfl rfl rfl (ls := [some (.inr (.inr (1, 0))), some (.inl (nI lo)), some (.inl (nI hi))]) rfl).trans ?_
  by_cases c : p < N
  · obtain ⟨b1, b2⟩ := hb p c
    by_cases c1 : tx p < lo
    · rw [decide_eq_false (by omega)]
      simp (disch := first | omega | rfl | decide) only [e_X5_isFrom_0, e_X5_isFrom_41, e_X5_isFrom_42, xr_v, xr_n, hl_of, hl_cl, hl_toInt, hl_le, hl_lt, hl_eq, nI_add, hl_sub, pk_mul, hl_div, if_pos, if_neg, ↓reduceIte, Nat.reduceAdd, Nat.reduceSub, Nat.reduceMul, Nat.add_zero, Nat.zero_add, mp_s, mp_k, mp_i, mp_g, mr_s, mr_i, mr_g, zlt_0, zlt_1, zlt_2, zlt_3, zlt_4, zlt_5, zlt_6, zlt_8, zlt_12, zlt_15, zlt_20, zlt_24, zlt_36, zlt_40, zlt_48, zlt_80, zlt_97, zlt_120, zlt_256, zlt_600, zlt_99999999, zadd_1, zadd_2, zadd_5, zadd_6, zadd_8, zadd_20, zadd_24, zeq_0, zeq_1, zeq_2, zeq_3, zeq_4, zeq_5, zeq_6, zeq_7, zeq_8, zeq_13, zeq_14, zeq_20, zeq_32, zeq_59, zeq_60, zeq_80, zmul_2, zmul_4, zmul_6, zmul_8, zmul_10, zmul_24, zsub_1, zsub_2, zsub_10, zsub_48, zsub_97, zle_0, zle_1, zle_2, zle_6, zle_11, zle_200, zle_600, zle_100000000, ylt_0, ylt_1, ylt_2, ylt_3, ylt_6, ylt_9, ylt_20, ylt_24, ylt_57, ylt_60, ylt_99, ylt_120, ylt_122, ylt_999, ylt_9999, yle_0, yle_2, yle_4, yle_5, yle_6, yle_7, yle_8, yle_10, yle_12, yle_13, yle_15, yle_16, yle_20, yle_24, yle_40, yle_60, yle_64, yle_80, yadd_1, yadd_22, ymul_2, ymul_4, ymul_6, ymul_8, ymul_10, ymul_24, ymul_27, ymul_100, ysub_1, ysub_24, zdiv_2, zdiv_4, zdiv_24, h2, h3, b1, true_or]
      rfl
    · by_cases c2 : hi < tx p
      · rw [decide_eq_false (by omega)]
        simp (disch := first | omega | rfl | decide) only [e_X5_isFrom_0, e_X5_isFrom_41, e_X5_isFrom_42, xr_v, xr_n, hl_of, hl_cl, hl_toInt, hl_le, hl_lt, hl_eq, nI_add, hl_sub, pk_mul, hl_div, if_pos, if_neg, ↓reduceIte, Nat.reduceAdd, Nat.reduceSub, Nat.reduceMul, Nat.add_zero, Nat.zero_add, mp_s, mp_k, mp_i, mp_g, mr_s, mr_i, mr_g, zlt_0, zlt_1, zlt_2, zlt_3, zlt_4, zlt_5, zlt_6, zlt_8, zlt_12, zlt_15, zlt_20, zlt_24, zlt_36, zlt_40, zlt_48, zlt_80, zlt_97, zlt_120, zlt_256, zlt_600, zlt_99999999, zadd_1, zadd_2, zadd_5, zadd_6, zadd_8, zadd_20, zadd_24, zeq_0, zeq_1, zeq_2, zeq_3, zeq_4, zeq_5, zeq_6, zeq_7, zeq_8, zeq_13, zeq_14, zeq_20, zeq_32, zeq_59, zeq_60, zeq_80, zmul_2, zmul_4, zmul_6, zmul_8, zmul_10, zmul_24, zsub_1, zsub_2, zsub_10, zsub_48, zsub_97, zle_0, zle_1, zle_2, zle_6, zle_11, zle_200, zle_600, zle_100000000, ylt_0, ylt_1, ylt_2, ylt_3, ylt_6, ylt_9, ylt_20, ylt_24, ylt_57, ylt_60, ylt_99, ylt_120, ylt_122, ylt_999, ylt_9999, yle_0, yle_2, yle_4, yle_5, yle_6, yle_7, yle_8, yle_10, yle_12, yle_13, yle_15, yle_16, yle_20, yle_24, yle_40, yle_60, yle_64, yle_80, yadd_1, yadd_22, ymul_2, ymul_4, ymul_6, ymul_8, ymul_10, ymul_24, ymul_27, ymul_100, ysub_1, ysub_24, zdiv_2, zdiv_4, zdiv_24, h2, h3, b1, true_or]
        rfl
      · rw [decide_eq_true (by omega)]
        simp (disch := first | omega | rfl | decide) only [e_X5_isFrom_0, e_X5_isFrom_41, e_X5_isFrom_42, xr_v, xr_n, hl_of, hl_cl, hl_toInt, hl_le, hl_lt, hl_eq, nI_add, hl_sub, pk_mul, hl_div, if_pos, if_neg, ↓reduceIte, Nat.reduceAdd, Nat.reduceSub, Nat.reduceMul, Nat.add_zero, Nat.zero_add, mp_s, mp_k, mp_i, mp_g, mr_s, mr_i, mr_g, zlt_0, zlt_1, zlt_2, zlt_3, zlt_4, zlt_5, zlt_6, zlt_8, zlt_12, zlt_15, zlt_20, zlt_24, zlt_36, zlt_40, zlt_48, zlt_80, zlt_97, zlt_120, zlt_256, zlt_600, zlt_99999999, zadd_1, zadd_2, zadd_5, zadd_6, zadd_8, zadd_20, zadd_24, zeq_0, zeq_1, zeq_2, zeq_3, zeq_4, zeq_5, zeq_6, zeq_7, zeq_8, zeq_13, zeq_14, zeq_20, zeq_32, zeq_59, zeq_60, zeq_80, zmul_2, zmul_4, zmul_6, zmul_8, zmul_10, zmul_24, zsub_1, zsub_2, zsub_10, zsub_48, zsub_97, zle_0, zle_1, zle_2, zle_6, zle_11, zle_200, zle_600, zle_100000000, ylt_0, ylt_1, ylt_2, ylt_3, ylt_6, ylt_9, ylt_20, ylt_24, ylt_57, ylt_60, ylt_99, ylt_120, ylt_122, ylt_999, ylt_9999, yle_0, yle_2, yle_4, yle_5, yle_6, yle_7, yle_8, yle_10, yle_12, yle_13, yle_15, yle_16, yle_20, yle_24, yle_40, yle_60, yle_64, yle_80, yadd_1, yadd_22, ymul_2, ymul_4, ymul_6, ymul_8, ymul_10, ymul_24, ymul_27, ymul_100, ysub_1, ysub_24, zdiv_2, zdiv_4, zdiv_24, h2, h3, b1, or_true]
        rfl
  · rw [decide_eq_false (by omega)]
    simp (disch := first | omega | rfl | decide) only [e_X5_isFrom_0, e_X5_isFrom_41, e_X5_isFrom_42, xr_v, xr_n, hl_of, hl_cl, hl_toInt, hl_le, hl_lt, hl_eq, nI_add, hl_sub, pk_mul, hl_div, if_pos, if_neg, ↓reduceIte, Nat.reduceAdd, Nat.reduceSub, Nat.reduceMul, Nat.add_zero, Nat.zero_add, mp_s, mp_k, mp_i, mp_g, mr_s, mr_i, mr_g, zlt_0, zlt_1, zlt_2, zlt_3, zlt_4, zlt_5, zlt_6, zlt_8, zlt_12, zlt_15, zlt_20, zlt_24, zlt_36, zlt_40, zlt_48, zlt_80, zlt_97, zlt_120, zlt_256, zlt_600, zlt_99999999, zadd_1, zadd_2, zadd_5, zadd_6, zadd_8, zadd_20, zadd_24, zeq_0, zeq_1, zeq_2, zeq_3, zeq_4, zeq_5, zeq_6, zeq_7, zeq_8, zeq_13, zeq_14, zeq_20, zeq_32, zeq_59, zeq_60, zeq_80, zmul_2, zmul_4, zmul_6, zmul_8, zmul_10, zmul_24, zsub_1, zsub_2, zsub_10, zsub_48, zsub_97, zle_0, zle_1, zle_2, zle_6, zle_11, zle_200, zle_600, zle_100000000, ylt_0, ylt_1, ylt_2, ylt_3, ylt_6, ylt_9, ylt_20, ylt_24, ylt_57, ylt_60, ylt_99, ylt_120, ylt_122, ylt_999, ylt_9999, yle_0, yle_2, yle_4, yle_5, yle_6, yle_7, yle_8, yle_10, yle_12, yle_13, yle_15, yle_16, yle_20, yle_24, yle_40, yle_60, yle_64, yle_80, yadd_1, yadd_22, ymul_2, ymul_4, ymul_6, ymul_8, ymul_10, ymul_24, ymul_27, ymul_100, ysub_1, ysub_24, zdiv_2, zdiv_4, zdiv_24, h2, h3, true_or]
    rfl
theorem x5_passBlanks {D : Nat} (hD : 3 ≤ D) (p : Nat) (hp : p ≤ 700) (M : Mem) (hX : TX M tx N) (h3 : M 1 0 3 = nI p) : isV (EX L xs (D) q_X5_passBlanks [.inr (.inr (1, 0))] M O) O (fun M' => Fr sT3 M M' ∧ M' 1 0 3 = nI (scn tx N isB p)) := by
  obtain ⟨d, rfl⟩ : ∃ d, D = d + 2 := ⟨D - 2, by omega⟩
  refine isV_e (EX_in mi_X5_passBlanks rfl rfl rfl (ls := [some (.inr (.inr (1, 0)))]) rfl) ?_
  have h600 := hX.1
  refine loopA L xs O (P := fun r => isV r O _) (fun j ls M' => ls = [some (.inr (.inr (1, 0)))] ∧ Fr sT3 M M' ∧ M' 1 0 3 = nI (p + j) ∧ scn tx N isB (p + j) = scn tx N isB p) (N - p) 100 (by omega) ?_ ?_ (Nat.le_of_lt (FU (by omega))) ⟨rfl, Fr_refl, h3, rfl⟩
  · rintro f k j _ M' hj ⟨rfl, fr, h3, hs⟩ ih
    have hX' := TX_fr hX (Fr_mono (fun _ _ _ => sT_3) fr)
    have h2 := hX'.2.1
    have q := x5_isFrom L xs O (D := d + 1) (by omega) (p + j) 32 32 (by omega) (by omega) (by omega) M' hX' h3
    by_cases c : isB (tx (p + j)) = true
    · have c' : tx (p + j) = 32 := of_decide_eq_true c
      rw [decide_eq_true (by omega), b2i_t] at q
      rw [e_X5_passBlanks_0, h2, h3, if_neg (by rw [hl_le (by omega) (by omega)]; omega)]
      rw [show (32 : Int32) = nI 32 from rfl, q]
      simp only [xr_v, Nat.reduceAdd, Nat.add_zero]
      rw [e_X5_passBlanks_19, if_neg (by decide), h3, zadd_1]
      refine ih _ _ ⟨rfl, Fr_put fr rfl, mp_s, ?_⟩
      rw [← hs, scn_t (by omega) c]
      rfl
    · have c' : ¬ tx (p + j) = 32 := fun e => c (decide_eq_true e)
      rw [decide_eq_false (by omega), b2i_f] at q
      rw [e_X5_passBlanks_0, h2, h3, if_neg (by rw [hl_le (by omega) (by omega)]; omega)]
      rw [show (32 : Int32) = nI 32 from rfl, q]
      simp only [xr_v, Nat.reduceAdd, Nat.add_zero]
      rw [e_X5_passBlanks_19, if_pos rfl, e_X5_passBlanks_35]
      refine isV_i ⟨fr, ?_⟩
      rw [h3, ← hs, scn_f (fun e => c e.2)]
  · rintro f k _ M' ⟨rfl, fr, h3, hs⟩
    have h2 := (TX_fr hX (Fr_mono (fun _ _ _ => sT_3) fr)).2.1
    rw [e_X5_passBlanks_0, h2, h3, if_pos (by rw [hl_le (by omega) (by omega)]; omega), e_X5_passBlanks_35]
    refine isV_i ⟨fr, ?_⟩
    rw [h3, ← hs, scn_f (by omega)]
theorem x5_blame_0 {D : Nat} (hD : 2 ≤ D) (a b : Int32) (M : Mem) (h : M 1 0 4 = 0) : EX L xs (D) q_X5_blame [.inr (.inr (1, 0)), .inl (a), .inl (b)] M O = (some (.inl none, mput (mput M 1 0 4 a) 1 0 5 b, O, 0, 0) : Res) := by
  obtain ⟨d, rfl⟩ : ∃ d, D = d + 2 := ⟨D - 2, by omega⟩
  refine (EX_in mi_X5_blame rfl rfl rfl (ls := [some (.inr (.inr (1, 0))), some (.inl (a)), some (.inl (b))]) rfl).trans ?_
  rw [e_X5_blame_0, if_pos h, e_X5_blame_17]
theorem x5_blame_1 {D : Nat} (hD : 2 ≤ D) (a b : Int32) (M : Mem) (h : ¬ M 1 0 4 = 0) : EX L xs (D) q_X5_blame [.inr (.inr (1, 0)), .inl (a), .inl (b)] M O = (some (.inl none, M, O, 0, 0) : Res) := by
  obtain ⟨d, rfl⟩ : ∃ d, D = d + 2 := ⟨D - 2, by omega⟩
  refine (EX_in mi_X5_blame rfl rfl rfl (ls := [some (.inr (.inr (1, 0))), some (.inl (a)), some (.inl (b))]) rfl).trans ?_
  rw [e_X5_blame_0, if_neg h, e_X5_blame_17]
theorem TP_c {M : Mem} {b : Nat} {ts : TS} (h : TP M N b ts) : ∃ p, p ≤ N + b ∧ M 1 0 3 = nI p := by
  cases ts with
  | inl p => exact ⟨p, by have := h.1; omega, h.2.1⟩
  | inr e => exact h.1
theorem TP_4 {M : Mem} {b : Nat} {e : Nat × Nat} (h : TP M N b (.inr e)) : ¬ M 1 0 4 = 0 := by
  rw [h.2.2.2.2.1, zeq_0 (by have := h.2.2.1; omega)]
  have := h.2.1
  omega
/-- the cursor moves, nothing else -/
theorem TP_3 {M M' : Mem} {b b' : Nat} {e : Nat × Nat} {p : Nat} (h : TP M N b (.inr e)) (fr : Fr sT3 M M') (hp : p ≤ N + b') (h3 : M' 1 0 3 = nI p) : TP M' N b' (.inr e) := ⟨⟨p, hp, h3⟩, h.2.1, h.2.2.1, h.2.2.2.1, (fr 1 0 4 rfl).trans h.2.2.2.2.1, (fr 1 0 5 rfl).trans h.2.2.2.2.2⟩
theorem scn_le1 {c : Nat → Bool} {p b : Nat} (h : p ≤ N + b) : scn tx N c p ≤ N + b := by
  by_cases e : p ≤ N
  · have := scn_le (tx := tx) (c := c) e
    omega
  · rw [scn_f (by omega)]
    exact h
theorem cap_le (C x : Nat) : cap C x ≤ C := by
  unfold cap
  split <;> omega
theorem cap_s {C x y : Nat} (hy : y < 10) : cap C (10 * cap C x + y) = cap C (10 * x + y) := by
  unfold cap
  by_cases h : x < C
  · rw [if_pos h]
  · rw [if_neg h]
    rw [if_neg (show ¬ 10 * x + y < C by omega)]
    split
    · omega
    · rfl
theorem x5_number {D : Nat} (hD : 4 ≤ D) (ts : TS) (lo hi : Int32) (hhi : hi.toInt < 99999999) (M : Mem) (hX : TX M tx N) {b : Nat} (hb1 : b ≤ 1) (hT : TP M N b ts) : isI (EX L xs (D) q_X5_number [.inr (.inr (1, 0)), .inl (lo), .inl (hi)] M O) O (nvC tx N ts lo hi) (fun M' => Fr sT M M' ∧ TP M' N b (nb tx N ts lo hi)) := by
  have h600 := hX.1
  obtain ⟨p, hp, h30⟩ := TP_c hT
  obtain ⟨d, rfl⟩ : ∃ d, D = d + 2 := ⟨D - 2, by omega⟩
  refine isI_e (EX_in mi_X5_number rfl rfl rfl (ls := [some (.inr (.inr (1, 0))), some (.inl (lo)), some (.inl (hi)), none, none]) rfl) ?_
  obtain ⟨M1, q1, f1, c1⟩ := x5_passBlanks L xs O (D := d + 1) (by omega) p (by omega) M hX h30
  have f1' : Fr sT M M1 := Fr_mono (fun _ _ _ => sT_3) f1
  have hp1 := scn_le1 (tx := tx) (c := isB) hp
  generalize hs1 : scn tx N isB p = s at *
  rw [e_X5_number_0, q1]
  simp only [xr_n, Nat.reduceAdd, Nat.add_zero]
  rw [e_X5_number_4, c1]
  -- behind the signs
  have fin : ∀ f k x q M', Fr sT3 M1 M' → M' 1 0 3 = nI q → q ≤ N + b → q = scn tx N isG s → x = vl tx N s 0 → isI (BK L xs (EX L xs (d + 1)) mi_X5_number (RN L xs (d) mi_X5_number f) (k + 200) 72 [some (.inr (.inr (1, 0))), some (.inl (lo)), some (.inl (hi)), some (.inl (nI s)), some (.inl (nI (cap 99999999 x)))] [] M' O none 0 0) O (nvC tx N ts lo hi) (fun M' => Fr sT M M' ∧ TP M' N b (nb tx N ts lo hi)) := by
    intro f k x q M' fr h3 hq hq2 hx
    have frT : Fr sT M M' := Fr_trans f1' (Fr_mono (fun _ _ _ => sT_3) fr)
    have frT3 : Fr sT3 M M' := Fr_trans f1 fr
    cases ts with
    | inr e =>
      have hT' : TP M' N b (.inr e) := TP_3 hT frT3 hq h3
      have n4 := TP_4 hT'
      have b1 := fun a b => x5_blame_1 L xs O (D := d + 1) (by omega) a b M' n4
      have r : isI (some (.inl (some (.inl lo)), M', O, 0, 0)) O (nvC tx N (.inr e) lo hi) (fun M' => Fr sT M M' ∧ TP M' N b (nb tx N (.inr e) lo hi)) := isI_i ⟨frT, hT'⟩
      by_cases d1 : q = s
      · simp (disch := first | omega | rfl | decide) only [e_X5_number_0, e_X5_number_4, e_X5_number_12, e_X5_number_72, e_X5_number_31, e_X5_number_86, e_X5_number_101, e_X5_number_107, e_X5_number_57, e_X5_number_120, xr_v, xr_n, hl_of, hl_cl, hl_toInt, hl_le, hl_lt, hl_eq, nI_add, hl_sub, pk_mul, hl_div, if_pos, if_neg, ↓reduceIte, Nat.reduceAdd, Nat.reduceSub, Nat.reduceMul, Nat.add_zero, Nat.zero_add, mp_s, mp_k, mp_i, mp_g, mr_s, mr_i, mr_g, zlt_0, zlt_1, zlt_2, zlt_3, zlt_4, zlt_5, zlt_6, zlt_8, zlt_12, zlt_15, zlt_20, zlt_24, zlt_36, zlt_40, zlt_48, zlt_80, zlt_97, zlt_120, zlt_256, zlt_600, zlt_99999999, zadd_1, zadd_2, zadd_5, zadd_6, zadd_8, zadd_20, zadd_24, zeq_0, zeq_1, zeq_2, zeq_3, zeq_4, zeq_5, zeq_6, zeq_7, zeq_8, zeq_13, zeq_14, zeq_20, zeq_32, zeq_59, zeq_60, zeq_80, zmul_2, zmul_4, zmul_6, zmul_8, zmul_10, zmul_24, zsub_1, zsub_2, zsub_10, zsub_48, zsub_97, zle_0, zle_1, zle_2, zle_6, zle_11, zle_200, zle_600, zle_100000000, ylt_0, ylt_1, ylt_2, ylt_3, ylt_6, ylt_9, ylt_20, ylt_24, ylt_57, ylt_60, ylt_99, ylt_120, ylt_122, ylt_999, ylt_9999, yle_0, yle_2, yle_4, yle_5, yle_6, yle_7, yle_8, yle_10, yle_12, yle_13, yle_15, yle_16, yle_20, yle_24, yle_40, yle_60, yle_64, yle_80, yadd_1, yadd_22, ymul_2, ymul_4, ymul_6, ymul_8, ymul_10, ymul_24, ymul_27, ymul_100, ysub_1, ysub_24, zdiv_2, zdiv_4, zdiv_24, h3, b1, n4]
        exact r
      · by_cases d2 : nI (cap 99999999 x) < lo
        · have n := cap_le 99999999 x
          rw [e_X5_number_72, h3, if_neg (by rw [hl_eq (by omega) (by omega)]; exact d1), if_pos d2, e_X5_number_101, b1]
          simp only [xr_n, Nat.reduceAdd, Nat.add_zero]
          rw [e_X5_number_107, if_neg n4, e_X5_number_120]
          exact r
        · rw [e_X5_number_72, h3, if_neg (by rw [hl_eq (by omega) (by omega)]; exact d1), if_neg d2]
          by_cases d3 : nI (cap 99999999 x) ≤ hi
          · rw [if_pos d3, e_X5_number_107, if_neg n4, e_X5_number_120]
            exact r
          · rw [if_neg d3, e_X5_number_101, b1]
            simp only [xr_n, Nat.reduceAdd, Nat.add_zero]
            rw [e_X5_number_107, if_neg n4, e_X5_number_120]
            exact r
    | inl p' =>
      obtain ⟨t1, t2, t3, t4⟩ := hT
      have hpp : p' = p := by
        rw [h30, hl_eq (by omega) (by omega)] at t2
        exact t2.symm
      subst hpp
      have z4 : M' 1 0 4 = 0 := (frT3 1 0 4 rfl).trans t3
      have z5 : M' 1 0 5 = -1 := (frT3 1 0 5 rfl).trans t4
      have hsN : s ≤ N := by rw [← hs1]; exact scn_le t1
      have b1 := fun a b => x5_blame_0 L xs O (D := d + 1) (by omega) a b M' z4
      have bad : ∀ e : Nat, 1 ≤ e → e ≤ 4 → nb tx N (.inl p') lo hi = .inr (e, s) → isI (some (.inl (some (.inl lo)), mput (mput M' 1 0 4 (nI e)) 1 0 5 (nI s), O, 0, 0)) O (nvC tx N (.inl p') lo hi) (fun M' => Fr sT M M' ∧ TP M' N b (nb tx N (.inl p') lo hi)) := by
        intro e he1 he2 hn
        have hv : nvC tx N (.inl p') lo hi = lo := by
          unfold nvC
          rw [hn]
        rw [hv, hn]
        refine isI_i ⟨Fr_put (Fr_put frT rfl) rfl, ⟨q, hq, ?_⟩, he1, he2, hsN, ?_, mp_s⟩
        · rw [mp_k (by omega), mp_k (by omega)]
          exact h3
        · rw [mp_k (by omega), mp_s]
      have hnb : nb tx N (.inl p') lo hi = if q = s then .inr (1, s) else if nbOK x lo hi = true then .inl q else .inr (2, s) := by
        rw [nb_l, hs1, ← hq2, ← hx]
      have z4' : ∀ e : Nat, 1 ≤ e → e ≤ 4 → ¬ mput (mput M' 1 0 4 (nI e)) 1 0 5 (nI s) 1 0 4 = 0 := by
        intro e h1 h2
        rw [mp_k (by omega), mp_s, zeq_0 (by omega)]
        omega
      have z4a : ¬ mput (mput M' 1 0 4 1) 1 0 5 (nI s) 1 0 4 = 0 := z4' 1 (by omega) (by omega)
      have z4b : ¬ mput (mput M' 1 0 4 2) 1 0 5 (nI s) 1 0 4 = 0 := z4' 2 (by omega) (by omega)
      by_cases d1 : q = s
      · rw [if_pos d1] at hnb
        rw [e_X5_number_72, h3, if_pos (by rw [d1]), b1]
        simp only [xr_n, Nat.reduceAdd, Nat.add_zero]
        rw [e_X5_number_86, e_X5_number_107, if_neg z4a, e_X5_number_120]
        exact bad 1 (by omega) (by omega) hnb
      · rw [if_neg d1] at hnb
        rw [e_X5_number_72, h3, if_neg (by rw [hl_eq (by omega) (by omega)]; exact d1)]
        have bad2 : nbOK x lo hi = false → ∀ k', isI (BK L xs (EX L xs (d + 1)) mi_X5_number (RN L xs (d) mi_X5_number f) (k' + 100) 101 [some (.inr (.inr (1, 0))), some (.inl (lo)), some (.inl (hi)), some (.inl (nI s)), some (.inl (nI (cap 99999999 x)))] [] M' O none 0 0) O (nvC tx N (.inl p') lo hi) (fun M' => Fr sT M M' ∧ TP M' N b (nb tx N (.inl p') lo hi)) := by
          intro hno k'
          rw [hno, if_neg Bool.false_ne_true] at hnb
          rw [e_X5_number_101, b1]
          simp only [xr_n, Nat.reduceAdd, Nat.add_zero]
          rw [e_X5_number_107, if_neg z4b, e_X5_number_120]
          exact bad 2 (by omega) (by omega) hnb
        by_cases d2 : nI (cap 99999999 x) < lo
        · rw [if_pos d2]
          exact bad2 (decide_eq_false (fun e => e.1 d2)) _
        · rw [if_neg d2]
          by_cases d3 : nI (cap 99999999 x) ≤ hi
          · have hok : nbOK x lo hi = true := decide_eq_true ⟨d2, nlt_le d3⟩
            rw [hok, if_pos rfl] at hnb
            have hv : nvC tx N (.inl p') lo hi = nv tx N (.inl p') := by
              unfold nvC
              rw [hnb]
            rw [if_pos d3, e_X5_number_107, if_pos z4, e_X5_number_120, hv, hnb]
            have hcx : nv tx N (.inl p') = nI (cap 99999999 x) := by
              show nI (vl tx N (scn tx N isB p') 0) = _
              rw [hs1, ← hx]
              have hle := (of_decide_eq_true hok).2
              rw [i_lt, hl_toInt (by have := cap_le 99999999 x; omega)] at hle
              unfold cap at hle ⊢
              by_cases hx9 : x < 99999999
              · rw [if_pos hx9]
              · rw [if_neg hx9] at hle
                omega
            rw [hcx]
            exact isI_i ⟨frT, by rw [hq2]; exact scn_le hsN, h3, z4, z5⟩
          · rw [if_neg d3]
            exact bad2 (decide_eq_false (fun e => d3 (le_nlt e.2))) _
  refine loopA L xs O (P := fun r => isI r O _ _) (fun j ls M' => ∃ x, ls = [some (.inr (.inr (1, 0))), some (.inl (lo)), some (.inl (hi)), some (.inl (nI s)), some (.inl (nI (cap 99999999 x)))] ∧ Fr sT3 M1 M' ∧ M' 1 0 3 = nI (s + j) ∧ scn tx N isG (s + j) = scn tx N isG s ∧ vl tx N (s + j) x = vl tx N s 0) (N - s) 300 (by omega) ?_ ?_ (Nat.le_of_lt (FU (by omega))) ⟨0, rfl, Fr_refl, c1, rfl, rfl⟩
  · rintro f k j _ M' hj ⟨x, rfl, fr, h3, hs, hv⟩ ih
    have hX' := TX_fr hX (Fr_trans f1' (Fr_mono (fun _ _ _ => sT_3) fr))
    have h2 := hX'.2.1
    have hb := hX'.2.2 (s + j) (by omega)
    have q := x5_isFrom L xs O (D := d + 1) (by omega) (s + j) 48 57 (by omega) (by omega) (by omega) M' hX' h3
    have hcl := cap_le 99999999 x
    rw [e_X5_number_12, h2, h3, if_neg (by rw [hl_le (by omega) (by omega)]; omega), show (48 : Int32) = nI 48 from rfl, show (57 : Int32) = nI 57 from rfl, q]
    simp only [xr_v, Nat.reduceAdd, Nat.add_zero]
    by_cases c : isG (tx (s + j)) = true
    · have c' : 48 ≤ tx (s + j) ∧ tx (s + j) ≤ 57 := of_decide_eq_true c
      rw [decide_eq_true (by omega), b2i_t, e_X5_number_31, if_neg (by decide), h3, if_pos (in_600 (by omega)), hl_cl (by omega), hb.1, zmul_10, nI_add, show (48 : Int32) = nI 48 from rfl, hl_sub (by omega)]
      have ec : (if nI (cap 99999999 x * 10 + tx (s + j) - 48) < 99999999 then nI (cap 99999999 x * 10 + tx (s + j) - 48) else 99999999) = nI (cap 99999999 (10 * x + (tx (s + j) - 48))) := by
        rw [← cap_s (show tx (s + j) - 48 < 10 by omega), show cap 99999999 x * 10 + tx (s + j) - 48 = 10 * cap 99999999 x + (tx (s + j) - 48) by omega]
        have hy : 10 * cap 99999999 x + (tx (s + j) - 48) < 2147483648 := by omega
        generalize 10 * cap 99999999 x + (tx (s + j) - 48) = y at *
        unfold cap
        by_cases cy : y < 99999999
        · rw [if_pos cy, if_pos (by rw [zlt_99999999 hy]; exact cy)]
        · rw [if_neg cy, if_neg (by rw [zlt_99999999 hy]; exact cy)]
          rfl
      rw [ec, e_X5_number_57, h3, zadd_1]
      refine ih _ _ ⟨10 * x + (tx (s + j) - 48), rfl, Fr_put fr rfl, mp_s, ?_, ?_⟩
      · rw [← hs, scn_t (by omega) c]
        rfl
      · rw [← hv, vl_t (by omega) c]
        rfl
    · have c' : ¬ (48 ≤ tx (s + j) ∧ tx (s + j) ≤ 57) := fun e => c (decide_eq_true e)
      rw [decide_eq_false (by omega), b2i_f, e_X5_number_31, if_pos rfl]
      refine fin f _ x (s + j) M' fr h3 (by omega) ?_ ?_
      · rw [← hs, scn_f (fun e => c e.2)]
      · rw [← hv, vl_f (fun e => c e.2)]
  · rintro f k _ M' ⟨x, rfl, fr, h3, hs, hv⟩
    have h2 := (TX_fr hX (Fr_trans f1' (Fr_mono (fun _ _ _ => sT_3) fr))).2.1
    rw [e_X5_number_12, h2, h3, if_pos (by rw [hl_le (by omega) (by omega)]; omega)]
    refine fin f _ x (s + (N - s)) M' fr h3 (by omega) ?_ ?_
    · rw [← hs, scn_f (by omega)]
    · rw [← hv, vl_f (by omega)]
theorem x5_closes {D : Nat} (hD : 4 ≤ D) (ts : TS) (M : Mem) (hX : TX M tx N) (hT : TP M N 0 ts) : isI (EX L xs (D) q_X5_closes [.inr (.inr (1, 0))] M O) O (b2i (cl tx N ts).isLeft) (fun M' => Fr sT M M' ∧ TP M' N 1 (cl tx N ts)) := by
  have h600 := hX.1
  obtain ⟨p, hp, h30⟩ : ∃ p, p ≤ N ∧ M 1 0 3 = nI p := TP_c hT
  obtain ⟨d, rfl⟩ : ∃ d, D = d + 2 := ⟨D - 2, by omega⟩
  refine isI_e (EX_in mi_X5_closes rfl rfl rfl (ls := [some (.inr (.inr (1, 0)))]) rfl) ?_
  obtain ⟨M1, q1, f1, c1⟩ := x5_passBlanks L xs O (D := d + 1) (by omega) p (by omega) M hX h30
  have f1' : Fr sT M M1 := Fr_mono (fun _ _ _ => sT_3) f1
  have hp1 := scn_le (tx := tx) (c := isB) hp
  have hX1 := TX_fr hX f1'
  have q2 := x5_isFrom L xs O (D := d + 1) (by omega) (scn tx N isB p) 59 59 (by omega) (by omega) (by omega) M1 hX1 c1
  rw [e_X5_closes_0, q1]
  simp only [xr_n, Nat.reduceAdd, Nat.add_zero]
  rw [e_X5_closes_4, show (59 : Int32) = nI 59 from rfl, q2]
  simp only [xr_v, Nat.reduceAdd, Nat.add_zero]
  rw [e_X5_closes_12]
  cases ts with
  | inr e =>
    have hT' : TP M1 N 0 (.inr e) := TP_3 hT f1 (show scn tx N isB p ≤ N + 0 by omega) c1
    have n4 := TP_4 hT'
    have b1 := fun a b => x5_blame_1 L xs O (D := d + 1) (by omega) a b M1 n4
    have n4' : ¬ mput M1 1 0 3 (nI (scn tx N isB p + 1)) 1 0 4 = 0 := by rw [mp_k (by omega)]; exact n4
    have key : ∀ k, isI (BK L xs (EX L xs (d + 1)) mi_X5_closes (RN L xs (d) mi_X5_closes FUEL) (k + 60) 24 [some (.inr (.inr (1, 0)))] [] M1 O none 0 0) O (b2i (cl tx N (.inr e)).isLeft) (fun M' => Fr sT M M' ∧ TP M' N 1 (cl tx N (.inr e))) := by
      intro k
      rw [e_X5_closes_24, c1, zadd_1]
      rw [if_neg n4, e_X5_closes_46, if_pos (Or.inl rfl)]
      exact isI_i ⟨Fr_put f1' rfl, TP_3 hT' (Fr_put Fr_refl rfl) (show scn tx N isB p + 1 ≤ N + 1 by omega) mp_s⟩
    by_cases c : scn tx N isB p < N ∧ 59 ≤ tx (scn tx N isB p) ∧ tx (scn tx N isB p) ≤ 59
    · rw [decide_eq_true c, b2i_t, if_neg (by decide)]
      exact key _
    · rw [decide_eq_false c, b2i_f, if_pos rfl, b1]
      simp only [xr_n, Nat.reduceAdd, Nat.add_zero]
      exact key _
  | inl p' =>
    obtain ⟨t1, t2, t3, t4⟩ := hT
    have hpp : p' = p := by
      rw [h30, hl_eq (by omega) (by omega)] at t2
      exact t2.symm
    subst hpp
    have z4 : M1 1 0 4 = 0 := (f1 1 0 4 rfl).trans t3
    have z5 : M1 1 0 5 = -1 := (f1 1 0 5 rfl).trans t4
    have hcl : cl tx N (.inl p') = if scn tx N isB p' < N ∧ tx (scn tx N isB p') = 59 then .inl (scn tx N isB p' + 1) else .inr (1, scn tx N isB p') := rfl
    by_cases c : scn tx N isB p' < N ∧ tx (scn tx N isB p') = 59
    · rw [if_pos c] at hcl
      rw [hcl, decide_eq_true (by omega), b2i_t, if_neg (by decide), e_X5_closes_24, c1, zadd_1, if_pos z4, e_X5_closes_46, if_pos (Or.inr rfl)]
      refine isI_i ⟨Fr_put f1' rfl, ?_, mp_s, ?_, ?_⟩
      · omega
      · rw [mp_k (by omega)]
        exact z4
      · rw [mp_k (by omega)]
        exact z5
    · rw [if_neg c] at hcl
      have z4a : ¬ mput (mput M1 1 0 4 1) 1 0 5 (nI (scn tx N isB p')) 1 0 4 = 0 := by
        rw [mp_k (by omega), mp_s]
        decide
      have c1a : mput (mput M1 1 0 4 1) 1 0 5 (nI (scn tx N isB p')) 1 0 3 = nI (scn tx N isB p') := by
        rw [mp_k (by omega), mp_k (by omega)]
        exact c1
      rw [hcl, decide_eq_false (by omega), b2i_f, if_pos rfl, c1, x5_blame_0 L xs O (D := d + 1) (by omega) _ _ M1 z4]
      simp only [xr_n, Nat.reduceAdd, Nat.add_zero]
      rw [e_X5_closes_24, if_neg z4a, c1a, zadd_1, e_X5_closes_46, if_pos (Or.inl rfl)]
      refine isI_i ⟨Fr_put (Fr_put (Fr_put f1' rfl) rfl) rfl, ⟨scn tx N isB p' + 1, by omega, mp_s⟩, by show 1 ≤ 1; omega, by show 1 ≤ 4; omega, hp1, ?_, ?_⟩
      · rw [mp_k (by omega), mp_k (by omega), mp_s]
        rfl
      · rw [mp_k (by omega), mp_s]
theorem x5_hasMore {D : Nat} (hD : 4 ≤ D) (ts : TS) (M : Mem) (hX : TX M tx N) (hT : TP M N 1 ts) : isI (EX L xs (D) q_X5_hasMore [.inr (.inr (1, 0))] M O) O (match ts with
    | .inl p => b2i (decide (scn tx N isB p < N))
    | .inr _ => 0) (fun M' => Fr sT M M' ∧ TP M' N 1 (match ts with
    | .inl p => .inl (scn tx N isB p)
    | .inr e => .inr e)) := by
  have h600 := hX.1
  obtain ⟨p, hp, h30⟩ := TP_c hT
  obtain ⟨d, rfl⟩ : ∃ d, D = d + 2 := ⟨D - 2, by omega⟩
  refine isI_e (EX_in mi_X5_hasMore rfl rfl rfl (ls := [some (.inr (.inr (1, 0)))]) rfl) ?_
  obtain ⟨M1, q1, f1, c1⟩ := x5_passBlanks L xs O (D := d + 1) (by omega) p (by omega) M hX h30
  have f1' : Fr sT M M1 := Fr_mono (fun _ _ _ => sT_3) f1
  have h2 := (TX_fr hX f1').2.1
  have hp1 := scn_le1 (tx := tx) (c := isB) hp
  rw [e_X5_hasMore_0, q1]
  simp only [xr_n, Nat.reduceAdd, Nat.add_zero]
  rw [e_X5_hasMore_4]
  cases ts with
  | inr e =>
    have hT' : TP M1 N 1 (.inr e) := TP_3 hT f1 hp1 c1
    rw [if_neg (TP_4 hT'), e_X5_hasMore_26, e_X5_hasMore_27, if_pos (Or.inl rfl)]
    exact isI_i ⟨f1', hT'⟩
  | inl p' =>
    obtain ⟨t1, t2, t3, t4⟩ := hT
    have hpp : p' = p := by
      rw [h30, hl_eq (by omega) (by omega)] at t2
      exact t2.symm
    subst hpp
    have z4 : M1 1 0 4 = 0 := (f1 1 0 4 rfl).trans t3
    have z5 : M1 1 0 5 = -1 := (f1 1 0 5 rfl).trans t4
    have hsN := scn_le (tx := tx) (c := isB) t1
    rw [if_pos z4, h2, c1]
    by_cases c : scn tx N isB p' < N
    · rw [if_neg (by rw [hl_le (by omega) (by omega)]; omega), e_X5_hasMore_27, if_pos (Or.inr rfl)]
      refine isI_x ?_ (isI_i ⟨f1', hsN, c1, z4, z5⟩)
      show b2i (decide (scn tx N isB p' < N)) = 1
      rw [decide_eq_true c]
      rfl
    · rw [if_pos (by rw [hl_le (by omega) (by omega)]; omega), e_X5_hasMore_26, e_X5_hasMore_27, if_pos (Or.inl rfl)]
      refine isI_x ?_ (isI_i ⟨f1', hsN, c1, z4, z5⟩)
      show b2i (decide (scn tx N isB p' < N)) = 0
      rw [decide_eq_false c]
      rfl
end
