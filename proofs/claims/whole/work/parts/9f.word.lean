/-! Words: their codes; the class finds them in its lists. -/
def wl (tx : Nat → Nat) (N p : Nat) : Nat := scn tx N isA p - p
def cdF (tx : Nat → Nat) (p : Nat) : Nat → Nat
  | 0 => 0
  | n + 1 => 27 * cdF tx p n + (tx (p + n) - 96)
/-- a word's code, as the reference has it -/
def wc (tx : Nat → Nat) (N p : Nat) : Int32 := if wl tx N p ≤ 6 then nI (cdF tx p (wl tx N p)) else -1
theorem scn_all {tx : Nat → Nat} {N : Nat} {c : Nat → Bool} : ∀ r p, N - p ≤ r → ∀ i, i < scn tx N c p - p → p + i < N ∧ c (tx (p + i)) = true := by
  intro r
  induction r with
  | zero =>
    intro p h i hi
    rw [scn_f (by omega)] at hi
    omega
  | succ r ih =>
    intro p h i hi
    by_cases e : p < N ∧ c (tx p) = true
    · rw [scn_t e.1 e.2] at hi
      by_cases e0 : i = 0
      · rw [e0]
        exact e
      · have := ih (p + 1) (by omega) (i - 1) (by omega)
        rw [show p + 1 + (i - 1) = p + i by omega] at this
        exact this
    · rw [scn_f e] at hi
      omega
theorem wl_let {tx : Nat → Nat} {N p i : Nat} (h : i < wl tx N p) : p + i < N ∧ 97 ≤ tx (p + i) ∧ tx (p + i) ≤ 122 := by
  have := scn_all (tx := tx) (N := N) (c := isA) _ p (Nat.le_refl _) i h
  exact ⟨this.1, of_decide_eq_true this.2⟩
def ch93 (j : Nat) : Nat := ([99, 101, 108, 108, 115, 32, 103, 114, 111, 117, 110, 100, 32, 119, 97, 108, 108, 32, 104, 111, 117, 115, 101, 32, 104, 117, 109, 32, 115, 111, 117, 114, 99, 101, 32, 115, 99, 114, 101, 101, 110, 32, 116, 97, 114, 32, 104, 117, 115, 104, 32, 102, 111, 97, 109, 32] : List Nat).getD j 0
def ch94 (j : Nat) : Nat := ([108, 97, 121, 101, 114, 32, 119, 105, 110, 100, 32, 119, 101, 105, 103, 104, 116, 32, 102, 105, 110, 101, 32] : List Nat).getD j 0
theorem ch93_s : ∀ j, j < 56 → str_93.getD j 0 = nI (ch93 j) := by decide +kernel
theorem ch94_s : ∀ j, j < 23 → str_94.getD j 0 = nI (ch94 j) := by decide +kernel
theorem ch93_b : ∀ j, j < 56 → ch93 j < 256 := by decide +kernel
theorem ch94_b : ∀ j, j < 23 → ch94 j < 256 := by decide +kernel
def nuF (ch : Nat → Nat) : Nat → Nat
  | 0 => 0
  | j + 1 => if ch j = 32 then nuF ch j + 1 else nuF ch j
def frF (ch : Nat → Nat) : Nat → Nat
  | 0 => 0
  | j + 1 => if ch j = 32 then j + 1 else frF ch j
def mtB (ch tx : Nat → Nat) (N p st en : Nat) : Bool := decide (en - st = wl tx N p ∧ ∀ i, i < en - st → tx (p + i) = ch (st + i))
def wPr (ch tx : Nat → Nat) (N p j : Nat) : Bool := decide (ch j = 32) && mtB ch tx N p (frF ch j) j
theorem nu_le (ch : Nat → Nat) : ∀ j, nuF ch j ≤ j := by
  intro j
  induction j with
  | zero => exact Nat.le_refl _
  | succ j ih =>
    unfold nuF
    split <;> omega
theorem fr_le (ch : Nat → Nat) : ∀ j, frF ch j ≤ j := by
  intro j
  induction j with
  | zero => exact Nat.le_refl _
  | succ j ih =>
    unfold frF
    split <;> omega
section
variable (L : Nat) (xs : Nat → Int32) (O : Int64) {tx : Nat → Nat} {N : Nat}
theorem ca_93 (d j : Nat) (hj : j < 56) (M : Mem) : EX L xs (d + 1) 901 [.inr (.inr (93, 0)), .inl (nI j)] M O = (some (.inl (some (.inl (nI (ch93 j)))), M, O, 0, 0) : Res) := by
  show (if 0 ≤ (nI j).toInt ∧ (nI j).toInt < ((str_93.length : Nat) : Int) then (some (.inl (some (.inl (str_93.getD (nI j).toNatClampNeg 0))), M, O, 0, 0) : Res) else none) = _
  have hl : str_93.length = 56 := by decide +kernel
  rw [hl, if_pos (hl_in hj (by omega)), hl_cl (by omega), ch93_s j hj]
theorem x5_isPart {D : Nat} (hD : 2 ≤ D) (st en p : Nat) (hst : st ≤ en) (hen : en ≤ 56) (hp : p ≤ 600) (M : Mem) (hX : TX M tx N) (h3 : M 1 0 3 = nI (scn tx N isA p)) (hpN : p ≤ N) : EX L xs (D) q_X5_isPart [.inr (.inr (1, 0)), .inr (.inr (93, 0)), .inl (nI st), .inl (nI en), .inl (nI p)] M O = (some (.inl (some (.inl (b2i (mtB ch93 tx N p st en)))), M, O, 0, 0) : Res) := by
  have h600 := hX.1
  have hsc := scn_le (tx := tx) (c := isA) hpN
  have hge := scn_ge (tx := tx) (N := N) (c := isA) p
  have hwl : scn tx N isA p - p = wl tx N p := rfl
  obtain ⟨d, rfl⟩ : ∃ d, D = d + 2 := ⟨D - 2, by omega⟩
  refine (EX_in mi_X5_isPart rfl rfl rfl (ls := [some (.inr (.inr (1, 0))), some (.inr (.inr (93, 0))), some (.inl (nI st)), some (.inl (nI en)), some (.inl (nI p)), none]) rfl).trans ?_
  rw [e_X5_isPart_0, h3, hl_sub hst, hl_sub hge]
  unfold mtB
  by_cases c : en - st = wl tx N p
  · rw [if_pos (by rw [hwl, c])]
    refine loopA L xs O (P := fun r => r = _) (fun j ls M' => ls = [some (.inr (.inr (1, 0))), some (.inr (.inr (93, 0))), some (.inl (nI st)), some (.inl (nI en)), some (.inl (nI p)), some (.inl (nI (st + j)))] ∧ (∀ i, i < j → tx (p + i) = ch93 (st + i)) ∧ M' = M) (en - st) 100 (by omega) ?_ ?_ (Nat.le_of_lt (FU (by omega))) ⟨rfl, fun i hi => absurd hi (by omega), rfl⟩
    · rintro f k j _ M' hj ⟨rfl, hm, e⟩ ih
      rw [e]
      have hlet := wl_let (tx := tx) (N := N) (p := p) (i := j) (by omega)
      have hb := hX.2.2 (p + j) hlet.1
      have hcb := ch93_b (st + j) (by omega)
      rw [e_X5_isPart_18, if_neg (by rw [hl_le (by omega) (by omega)]; omega), ca_93 L xs O d (st + j) (by omega) M]
      simp only [xr_v, Nat.reduceAdd, Nat.add_zero]
      rw [e_X5_isPart_30, nI_add, hl_sub (by omega), show p + (st + j) - st = p + j by omega, if_pos (in_600 (by omega)), hl_cl (by omega), hb.1]
      by_cases c2 : ch93 (st + j) = tx (p + j)
      · rw [if_pos (by rw [c2]), zadd_1]
        refine ih _ _ ⟨rfl, fun i hi => ?_, rfl⟩
        by_cases ei : i = j
        · rw [ei, c2]
        · exact hm i (by omega)
      · rw [if_neg (by rw [hl_eq (by omega) (by omega)]; exact c2), decide_eq_false (fun e => c2 (e.2 j hj).symm)]
        rfl
    · rintro f k _ M' ⟨rfl, hm, e⟩
      rw [e, e_X5_isPart_18, if_pos (by rw [hl_le (by omega) (by omega)]; omega), decide_eq_true ⟨c, hm⟩]
      rfl
  · rw [if_neg (by rw [hwl, hl_eq (by omega) (by omega)]; exact c), decide_eq_false (fun e => c e.1)]
    rfl
theorem x5_word {D : Nat} (hD : 4 ≤ D) (p : Nat) (M : Mem) (hX : TX M tx N) {b : Nat} (hT : TP M N b (.inl p)) : isI (EX L xs (D) q_X5_word [.inr (.inr (1, 0)), .inr (.inr (93, 0))] M O) O (match fnd (wPr ch93 tx N p) 56 with
    | some j => nI (nuF ch93 j)
    | none => -1) (fun M' => Fr sT M M' ∧ TP M' N 0 (match fnd (wPr ch93 tx N p) 56 with
    | some _ => .inl (scn tx N isA p)
    | none => .inr (1, p))) := by
  obtain ⟨t1, t2, t3, t4⟩ := hT
  have h600 := hX.1
  obtain ⟨d, rfl⟩ : ∃ d, D = d + 2 := ⟨D - 2, by omega⟩
  refine isI_e (EX_in mi_X5_word rfl rfl rfl (ls := [some (.inr (.inr (1, 0))), some (.inr (.inr (93, 0))), none, none, none, none]) rfl) ?_
  rw [e_X5_word_0, t2]
  refine loopC L xs O (P := fun r => isI r O _ _) (fun j ls M' => ∃ u3 u4 u5, ls = [some (.inr (.inr (1, 0))), some (.inr (.inr (93, 0))), some (.inl (nI p)), u3, u4, u5] ∧ Fr sT3 M M' ∧ M' 1 0 3 = nI (p + j) ∧ scn tx N isA (p + j) = scn tx N isA p) (N - p) 400 (by omega) ?_ ?_ (Nat.le_of_lt (FU (by omega))) ⟨_, _, _, rfl, Fr_refl, t2, rfl⟩
  · sorry
  · sorry
theorem ca_94 (d j : Nat) (hj : j < 23) (M : Mem) : EX L xs (d + 1) 901 [.inr (.inr (94, 0)), .inl (nI j)] M O = (some (.inl (some (.inl (nI (ch94 j)))), M, O, 0, 0) : Res) := by
  show (if 0 ≤ (nI j).toInt ∧ (nI j).toInt < ((str_94.length : Nat) : Int) then (some (.inl (some (.inl (str_94.getD (nI j).toNatClampNeg 0))), M, O, 0, 0) : Res) else none) = _
  have hl : str_94.length = 23 := by decide +kernel
  rw [hl, if_pos (hl_in hj (by omega)), hl_cl (by omega), ch94_s j hj]
theorem x5_isPart2 {D : Nat} (hD : 2 ≤ D) (st en p : Nat) (hst : st ≤ en) (hen : en ≤ 23) (hp : p ≤ 600) (M : Mem) (hX : TX M tx N) (h3 : M 1 0 3 = nI (scn tx N isA p)) (hpN : p ≤ N) : EX L xs (D) q_X5_isPart [.inr (.inr (1, 0)), .inr (.inr (94, 0)), .inl (nI st), .inl (nI en), .inl (nI p)] M O = (some (.inl (some (.inl (b2i (mtB ch94 tx N p st en)))), M, O, 0, 0) : Res) := by
  have h600 := hX.1
  have hsc := scn_le (tx := tx) (c := isA) hpN
  have hge := scn_ge (tx := tx) (N := N) (c := isA) p
  have hwl : scn tx N isA p - p = wl tx N p := rfl
  obtain ⟨d, rfl⟩ : ∃ d, D = d + 2 := ⟨D - 2, by omega⟩
  refine (EX_in mi_X5_isPart rfl rfl rfl (ls := [some (.inr (.inr (1, 0))), some (.inr (.inr (94, 0))), some (.inl (nI st)), some (.inl (nI en)), some (.inl (nI p)), none]) rfl).trans ?_
  rw [e2_X5_isPart_0, h3, hl_sub hst, hl_sub hge]
  unfold mtB
  by_cases c : en - st = wl tx N p
  · rw [if_pos (by rw [hwl, c])]
    refine loopA L xs O (P := fun r => r = _) (fun j ls M' => ls = [some (.inr (.inr (1, 0))), some (.inr (.inr (94, 0))), some (.inl (nI st)), some (.inl (nI en)), some (.inl (nI p)), some (.inl (nI (st + j)))] ∧ (∀ i, i < j → tx (p + i) = ch94 (st + i)) ∧ M' = M) (en - st) 100 (by omega) ?_ ?_ (Nat.le_of_lt (FU (by omega))) ⟨rfl, fun i hi => absurd hi (by omega), rfl⟩
    · rintro f k j _ M' hj ⟨rfl, hm, e⟩ ih
      rw [e]
      have hlet := wl_let (tx := tx) (N := N) (p := p) (i := j) (by omega)
      have hb := hX.2.2 (p + j) hlet.1
      have hcb := ch94_b (st + j) (by omega)
      rw [e2_X5_isPart_18, if_neg (by rw [hl_le (by omega) (by omega)]; omega), ca_94 L xs O d (st + j) (by omega) M]
      simp only [xr_v, Nat.reduceAdd, Nat.add_zero]
      rw [e2_X5_isPart_30, nI_add, hl_sub (by omega), show p + (st + j) - st = p + j by omega, if_pos (in_600 (by omega)), hl_cl (by omega), hb.1]
      by_cases c2 : ch94 (st + j) = tx (p + j)
      · rw [if_pos (by rw [c2]), zadd_1]
        refine ih _ _ ⟨rfl, fun i hi => ?_, rfl⟩
        by_cases ei : i = j
        · rw [ei, c2]
        · exact hm i (by omega)
      · rw [if_neg (by rw [hl_eq (by omega) (by omega)]; exact c2), decide_eq_false (fun e => c2 (e.2 j hj).symm)]
        rfl
    · rintro f k _ M' ⟨rfl, hm, e⟩
      rw [e, e2_X5_isPart_18, if_pos (by rw [hl_le (by omega) (by omega)]; omega), decide_eq_true ⟨c, hm⟩]
      rfl
  · rw [if_neg (by rw [hwl, hl_eq (by omega) (by omega)]; exact c), decide_eq_false (fun e => c e.1)]
    rfl
theorem x5_word2 {D : Nat} (hD : 4 ≤ D) (p : Nat) (M : Mem) (hX : TX M tx N) {b : Nat} (hT : TP M N b (.inl p)) : isI (EX L xs (D) q_X5_word [.inr (.inr (1, 0)), .inr (.inr (94, 0))] M O) O (match fnd (wPr ch94 tx N p) 23 with
    | some j => nI (nuF ch94 j)
    | none => -1) (fun M' => Fr sT M M' ∧ TP M' N 0 (match fnd (wPr ch94 tx N p) 23 with
    | some _ => .inl (scn tx N isA p)
    | none => .inr (1, p))) := by
  obtain ⟨t1, t2, t3, t4⟩ := hT
  have h600 := hX.1
  obtain ⟨d, rfl⟩ : ∃ d, D = d + 2 := ⟨D - 2, by omega⟩
  refine isI_e (EX_in mi_X5_word rfl rfl rfl (ls := [some (.inr (.inr (1, 0))), some (.inr (.inr (94, 0))), none, none, none, none]) rfl) ?_
  rw [e2_X5_word_0, t2]
  refine loopC L xs O (P := fun r => isI r O _ _) (fun j ls M' => ∃ u3 u4 u5, ls = [some (.inr (.inr (1, 0))), some (.inr (.inr (94, 0))), some (.inl (nI p)), u3, u4, u5] ∧ Fr sT3 M M' ∧ M' 1 0 3 = nI (p + j) ∧ scn tx N isA (p + j) = scn tx N isA p) (N - p) 400 (by omega) ?_ ?_ (Nat.le_of_lt (FU (by omega))) ⟨_, _, _, rfl, Fr_refl, t2, rfl⟩
  · sorry
  · sorry
end
