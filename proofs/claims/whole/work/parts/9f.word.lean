/-! Words: their codes; the class finds them in its lists. -/
def wl (tx : Nat → Nat) (N p : Nat) : Nat := scn tx N isA p - p
def cdF (tx : Nat → Nat) (p : Nat) : Nat → Nat
  | 0 => 0
  | n + 1 => 27 * cdF tx p n + (tx (p + n) - 96)
/-- a word's code, as the reference has it -/
def wc (tx : Nat → Nat) (N p : Nat) : Int32 := if wl tx N p ≤ 6 then nI (cdF tx p (wl tx N p)) else -1
theorem scn_all {tx : Nat → Nat} {N : Nat} {c : Nat → Bool} : ∀ r p, N - p ≤ r → ∀ i, i < scn tx N c p - p → p + i < N ∧ c (tx (p + i)) = true := by
  intro r
  induction r with
  | zero =>
    intro p h i hi
    rw [scn_f (by omega)] at hi
    omega
  | succ r ih =>
    intro p h i hi
    by_cases e : p < N ∧ c (tx p) = true
    · rw [scn_t e.1 e.2] at hi
      by_cases e0 : i = 0
      · rw [e0]
        exact e
      · have := ih (p + 1) (by omega) (i - 1) (by omega)
        rw [show p + 1 + (i - 1) = p + i by omega] at this
        exact this
    · rw [scn_f e] at hi
      omega
theorem wl_let {tx : Nat → Nat} {N p i : Nat} (h : i < wl tx N p) : p + i < N ∧ 97 ≤ tx (p + i) ∧ tx (p + i) ≤ 122 := by
  have := scn_all (tx := tx) (N := N) (c := isA) _ p (Nat.le_refl _) i h
  exact ⟨this.1, of_decide_eq_true this.2⟩
def ch93 (j : Nat) : Nat := ([99, 101, 108, 108, 115, 32, 103, 114, 111, 117, 110, 100, 32, 119, 97, 108, 108, 32, 104, 111, 117, 115, 101, 32, 104, 117, 109, 32, 115, 111, 117, 114, 99, 101, 32, 115, 99, 114, 101, 101, 110, 32, 116, 97, 114, 32, 104, 117, 115, 104, 32, 102, 111, 97, 109, 32] : List Nat).getD j 0
def ch94 (j : Nat) : Nat := ([108, 97, 121, 101, 114, 32, 119, 105, 110, 100, 32, 119, 101, 105, 103, 104, 116, 32, 102, 105, 110, 101, 32] : List Nat).getD j 0
theorem ch93_s : ∀ j, j < 56 → str_93.getD j 0 = nI (ch93 j) := by decide +kernel
theorem ch94_s : ∀ j, j < 23 → str_94.getD j 0 = nI (ch94 j) := by decide +kernel
theorem ch93_b : ∀ j, j < 56 → ch93 j < 256 := by decide +kernel
theorem ch94_b : ∀ j, j < 23 → ch94 j < 256 := by decide +kernel
def nuF (ch : Nat → Nat) : Nat → Nat
  | 0 => 0
  | j + 1 => if ch j = 32 then nuF ch j + 1 else nuF ch j
def frF (ch : Nat → Nat) : Nat → Nat
  | 0 => 0
  | j + 1 => if ch j = 32 then j + 1 else frF ch j
def mtB (ch tx : Nat → Nat) (N p st en : Nat) : Bool := decide (en - st = wl tx N p ∧ ∀ i, i < en - st → tx (p + i) = ch (st + i))
def wPr (ch tx : Nat → Nat) (N p j : Nat) : Bool := decide (ch j = 32) && mtB ch tx N p (frF ch j) j
theorem nu_le (ch : Nat → Nat) : ∀ j, nuF ch j ≤ j := by
  intro j
  induction j with
  | zero => exact Nat.le_refl _
  | succ j ih =>
    unfold nuF
    split <;> omega
theorem fr_le (ch : Nat → Nat) : ∀ j, frF ch j ≤ j := by
  intro j
  induction j with
  | zero => exact Nat.le_refl _
  | succ j ih =>
    unfold frF
    split <;> omega
section
variable (L : Nat) (xs : Nat → Int32) (O : Int64) {tx : Nat → Nat} {N : Nat}
theorem ca_93 (d j : Nat) (hj : j < 56) (M : Mem) : EX L xs (d + 1) 901 [.inr (.inr (93, 0)), .inl (nI j)] M O = (some (.inl (some (.inl (nI (ch93 j)))), M, O, 0, 0) : Res) := by
  show (if 0 ≤ (nI j).toInt ∧ (nI j).toInt < ((str_93.length : Nat) : Int) then (some (.inl (some (.inl (str_93.getD (nI j).toNatClampNeg 0))), M, O, 0, 0) : Res) else none) = _
  have hl : str_93.length = 56 := by decide +kernel
  rw [hl, if_pos (hl_in hj (by omega)), hl_cl (by omega), ch93_s j hj]
theorem x5_isPart {D : Nat} (hD : 2 ≤ D) (st en p : Nat) (hst : st ≤ en) (hen : en ≤ 56) (hp : p ≤ 600) (M : Mem) (hX : TX M tx N) (h3 : M 1 0 3 = nI (scn tx N isA p)) (hpN : p ≤ N) : EX L xs (D) q_X5_isPart [.inr (.inr (1, 0)), .inr (.inr (93, 0)), .inl (nI st), .inl (nI en), .inl (nI p)] M O = (some (.inl (some (.inl (b2i (mtB ch93 tx N p st en)))), M, O, 0, 0) : Res) := by
  have h600 := hX.1
  have hsc := scn_le (tx := tx) (c := isA) hpN
  have hge := scn_ge (tx := tx) (N := N) (c := isA) p
  have hwl : scn tx N isA p - p = wl tx N p := rfl
  obtain ⟨d, rfl⟩ : ∃ d, D = d + 2 := ⟨D - 2, by omega⟩
  refine (EX_in mi_X5_isPart rfl rfl rfl (ls := [some (.inr (.inr (1, 0))), some (.inr (.inr (93, 0))), some (.inl (nI st)), some (.inl (nI en)), some (.inl (nI p)), none]) rfl).trans ?_
  rw [e_X5_isPart_0, h3, hl_sub hst, hl_sub hge]
  unfold mtB
  by_cases c : en - st = wl tx N p
  · rw [if_pos (by rw [hwl, c])]
    refine loopA L xs O (P := fun r => r = _) (fun j ls M' => ls = [some (.inr (.inr (1, 0))), some (.inr (.inr (93, 0))), some (.inl (nI st)), some (.inl (nI en)), some (.inl (nI p)), some (.inl (nI (st + j)))] ∧ (∀ i, i < j → tx (p + i) = ch93 (st + i)) ∧ M' = M) (en - st) 100 (by omega) ?_ ?_ (Nat.le_of_lt (FU (by omega))) ⟨rfl, fun i hi => absurd hi (by omega), rfl⟩
    · rintro f k j _ M' hj ⟨rfl, hm, e⟩ ih
      rw [e]
      have hlet := wl_let (tx := tx) (N := N) (p := p) (i := j) (by omega)
      have hb := hX.2.2 (p + j) hlet.1
      have hcb := ch93_b (st + j) (by omega)
      rw [e_X5_isPart_18, if_neg (by rw [hl_le (by omega) (by omega)]; omega), ca_93 L xs O d (st + j) (by omega) M]
      simp only [xr_v, Nat.reduceAdd, Nat.add_zero]
      rw [e_X5_isPart_30, nI_add, hl_sub (by omega), show p + (st + j) - st = p + j by omega, if_pos (in_600 (by omega)), hl_cl (by omega), hb.1]
      by_cases c2 : ch93 (st + j) = tx (p + j)
      · rw [if_pos (by rw [c2]), zadd_1]
        refine ih _ _ ⟨rfl, fun i hi => ?_, rfl⟩
        by_cases ei : i = j
        · rw [ei, c2]
        · exact hm i (by omega)
      · rw [if_neg (by rw [hl_eq (by omega) (by omega)]; exact c2), decide_eq_false (fun e => c2 (e.2 j hj).symm)]
        rfl
    · rintro f k _ M' ⟨rfl, hm, e⟩
      rw [e, e_X5_isPart_18, if_pos (by rw [hl_le (by omega) (by omega)]; omega), decide_eq_true ⟨c, hm⟩]
      rfl
  · rw [if_neg (by rw [hwl, hl_eq (by omega) (by omega)]; exact c), decide_eq_false (fun e => c e.1)]
    rfl
theorem x5_word {D : Nat} (hD : 4 ≤ D) (p : Nat) (M : Mem) (hX : TX M tx N) {b : Nat} (hT : TP M N b (.inl p)) : isI (EX L xs (D) q_X5_word [.inr (.inr (1, 0)), .inr (.inr (93, 0))] M O) O (match fnd (wPr ch93 tx N p) 56 with
    | some j => nI (nuF ch93 j)
    | none => -1) (fun M' => Fr sT M M' ∧ TP M' N 0 (match fnd (wPr ch93 tx N p) 56 with
    | some _ => .inl (scn tx N isA p)
    | none => .inr (1, p))) := by
  obtain ⟨t1, t2, t3, t4⟩ := hT
  have h600 := hX.1
  obtain ⟨d, rfl⟩ : ∃ d, D = d + 2 := ⟨D - 2, by omega⟩
  refine isI_e (EX_in mi_X5_word rfl rfl rfl (ls := [some (.inr (.inr (1, 0))), some (.inr (.inr (93, 0))), none, none, none, none]) rfl) ?_
  rw [e_X5_word_0, t2]
  generalize hW : scn tx N isA p = W
  have hWN : W ≤ N := by
    rw [← hW]
    exact scn_le t1
  have fin : ∀ f k u3 u4 u5 M', 100 ≤ f → Fr sT3 M M' → M' 1 0 3 = nI W → isI (BK L xs (EX L xs (d + 1)) mi_X5_word (RN L xs (d) mi_X5_word f) (k + 300) 40 [some (.inr (.inr (1, 0))), some (.inr (.inr (93, 0))), some (.inl (nI p)), u3, u4, u5] [] M' O none 0 0) O (match fnd (wPr ch93 tx N p) 56 with
    | some j => nI (nuF ch93 j)
    | none => -1) (fun M' => Fr sT M M' ∧ TP M' N 0 (match fnd (wPr ch93 tx N p) 56 with
    | some _ => .inl W
    | none => .inr (1, p))) := by
    intro f k u3 u4 u5 M' hf fr h3
    have frT : Fr sT M M' := Fr_mono (fun _ _ _ => sT_3) fr
    have hX' := TX_fr hX frT
    rw [e_X5_word_40]
    refine loopA L xs O (P := fun r => isI r O _ _) (fun j ls M'' => ls = [some (.inr (.inr (1, 0))), some (.inr (.inr (93, 0))), some (.inl (nI p)), some (.inl (nI (nuF ch93 j))), some (.inl (nI (frF ch93 j))), some (.inl (nI j))] ∧ fnd (wPr ch93 tx N p) j = none ∧ M'' = M') 56 100 (by omega) ?_ ?_ (by omega) ⟨rfl, rfl, rfl⟩
    · rintro f k j _ M'' hj ⟨rfl, hn, e⟩ ih
      rw [e]
      have hnu := nu_le ch93 j
      have hfr := fr_le ch93 j
      have hcb := ch93_b j hj
      have hnuS : nuF ch93 (j + 1) = if ch93 j = 32 then nuF ch93 j + 1 else nuF ch93 j := rfl
      have hfrS : frF ch93 (j + 1) = if ch93 j = 32 then j + 1 else frF ch93 j := rfl
      rw [e_X5_word_48, e_X5_word_54, if_neg (by rw [show Int32.ofNat 56 = nI 56 from rfl, hl_le (by omega) (by omega)]; omega), ca_93 L xs O d j hj M']
      simp only [xr_v, Nat.reduceAdd, Nat.add_zero]
      rw [e_X5_word_63]
      by_cases c : ch93 j = 32
      · rw [if_pos (by rw [c]; rfl), x5_isPart L xs O (D := d + 1) (by omega) (frF ch93 j) j p hfr (by omega) (by omega) M' hX' (h3.trans (by rw [hW])) t1]
        simp only [xr_v, Nat.reduceAdd, Nat.add_zero]
        rw [e_X5_word_78]
        by_cases c2 : mtB ch93 tx N p (frF ch93 j) j = true
        · rw [c2, b2i_t, if_neg (by decide)]
          have hw : wPr ch93 tx N p j = true := by
            unfold wPr
            rw [c2, decide_eq_true c]
            rfl
          have e1 := fnd_s (fnd_n hn |>.trans (if_pos hw)) (56 - (j + 1))
          rw [show j + 1 + (56 - (j + 1)) = 56 by omega] at e1
          rw [e1]
          exact isI_i ⟨frT, hWN, h3, (fr 1 0 4 rfl).trans t3, (fr 1 0 5 rfl).trans t4⟩
        · have c2' : mtB ch93 tx N p (frF ch93 j) j = false := by
            cases h : mtB ch93 tx N p (frF ch93 j) j
            · rfl
            · exact absurd h c2
          rw [c2', b2i_f, if_pos rfl, e_X5_word_92, zadd_1, zadd_1]
          refine ih _ _ ⟨by rw [hnuS, hfrS, if_pos c, if_pos c], fnd_next hn ?_, rfl⟩
          unfold wPr
          rw [c2', Bool.and_false]
      · rw [if_neg (by rw [show (32 : Int32) = nI 32 from rfl, hl_eq (by omega) (by omega)]; exact c), e_X5_word_92, zadd_1]
        refine ih _ _ ⟨by rw [hnuS, hfrS, if_neg c, if_neg c], fnd_next hn ?_, rfl⟩
        unfold wPr
        rw [decide_eq_false c, Bool.false_and]
    · rintro f k _ M'' ⟨rfl, hn, e⟩
      rw [e, hn]
      rw [e_X5_word_48, e_X5_word_54, if_pos (by rw [show Int32.ofNat 56 = nI 56 from rfl, hl_le (by omega) (by omega)]; omega), x5_blame_0 L xs O (D := d + 1) (by omega) 1 (nI p) M' ((fr 1 0 4 rfl).trans t3)]
      simp only [xr_n, Nat.reduceAdd, Nat.add_zero]
      rw [e_X5_word_104]
      refine isI_i ⟨Fr_put (Fr_put frT rfl) rfl, ⟨W, by omega, ?_⟩, by omega, by omega, t1, ?_, mp_s⟩
      · rw [mp_k (by omega), mp_k (by omega), h3]
      · rw [mp_k (by omega), mp_s]
        rfl
  refine loopD L xs O (P := fun r => isI r O _ _) (fun j ls M' => ∃ u3 u4 u5, ls = [some (.inr (.inr (1, 0))), some (.inr (.inr (93, 0))), some (.inl (nI p)), u3, u4, u5] ∧ Fr sT3 M M' ∧ M' 1 0 3 = nI (p + j) ∧ scn tx N isA (p + j) = W) (N - p) 400 (by omega) ?_ ?_ (Nat.le_of_lt (FU (by omega))) ⟨_, _, _, rfl, Fr_refl, t2, hW⟩
  · rintro f k j _ M' hj hf ⟨u3, u4, u5, rfl, fr, h3, hs⟩ ih
    have hX' := TX_fr hX (Fr_mono (fun _ _ _ => sT_3) fr)
    have h2 := hX'.2.1
    have q := x5_isFrom L xs O (D := d + 1) (by omega) (p + j) 97 122 (by omega) (by omega) (by omega) M' hX' h3
    by_cases c : isA (tx (p + j)) = true
    · have c' : 97 ≤ tx (p + j) ∧ tx (p + j) ≤ 122 := of_decide_eq_true c
      rw [decide_eq_true (by omega), b2i_t] at q
      rw [e_X5_word_5, h2, h3, if_neg (by rw [hl_le (by omega) (by omega)]; omega)]
      rw [show (97 : Int32) = nI 97 from rfl, show (122 : Int32) = nI 122 from rfl, q]
      simp only [xr_v, Nat.reduceAdd, Nat.add_zero]
      rw [e_X5_word_24, if_neg (by decide), h3, zadd_1]
      refine ih _ _ ⟨_, _, _, rfl, Fr_put fr rfl, mp_s, ?_⟩
      rw [← hs, scn_t (by omega) c]
      rfl
    · have c' : ¬ (97 ≤ tx (p + j) ∧ tx (p + j) ≤ 122) := fun e => c (decide_eq_true e)
      rw [decide_eq_false (by omega), b2i_f] at q
      rw [e_X5_word_5, h2, h3, if_neg (by rw [hl_le (by omega) (by omega)]; omega)]
      rw [show (97 : Int32) = nI 97 from rfl, show (122 : Int32) = nI 122 from rfl, q]
      simp only [xr_v, Nat.reduceAdd, Nat.add_zero]
      rw [e_X5_word_24, if_pos rfl]
      refine fin _ _ _ _ _ _ ?_ fr ?_
      · have := FU (n := 1000) (by omega)
        omega
      · rw [h3, ← hs, scn_f (fun e => c e.2)]
  · rintro f k _ M' hf ⟨u3, u4, u5, rfl, fr, h3, hs⟩
    have h2 := (TX_fr hX (Fr_mono (fun _ _ _ => sT_3) fr)).2.1
    rw [e_X5_word_5, h2, h3, if_pos (by rw [hl_le (by omega) (by omega)]; omega)]
    refine fin _ _ _ _ _ _ ?_ fr ?_
    · have := FU (n := 1000) (by omega)
      omega
    · rw [h3, ← hs, scn_f (by omega)]
theorem ca_94 (d j : Nat) (hj : j < 23) (M : Mem) : EX L xs (d + 1) 901 [.inr (.inr (94, 0)), .inl (nI j)] M O = (some (.inl (some (.inl (nI (ch94 j)))), M, O, 0, 0) : Res) := by
  show (if 0 ≤ (nI j).toInt ∧ (nI j).toInt < ((str_94.length : Nat) : Int) then (some (.inl (some (.inl (str_94.getD (nI j).toNatClampNeg 0))), M, O, 0, 0) : Res) else none) = _
  have hl : str_94.length = 23 := by decide +kernel
  rw [hl, if_pos (hl_in hj (by omega)), hl_cl (by omega), ch94_s j hj]
theorem x5_isPart2 {D : Nat} (hD : 2 ≤ D) (st en p : Nat) (hst : st ≤ en) (hen : en ≤ 23) (hp : p ≤ 600) (M : Mem) (hX : TX M tx N) (h3 : M 1 0 3 = nI (scn tx N isA p)) (hpN : p ≤ N) : EX L xs (D) q_X5_isPart [.inr (.inr (1, 0)), .inr (.inr (94, 0)), .inl (nI st), .inl (nI en), .inl (nI p)] M O = (some (.inl (some (.inl (b2i (mtB ch94 tx N p st en)))), M, O, 0, 0) : Res) := by
  have h600 := hX.1
  have hsc := scn_le (tx := tx) (c := isA) hpN
  have hge := scn_ge (tx := tx) (N := N) (c := isA) p
  have hwl : scn tx N isA p - p = wl tx N p := rfl
  obtain ⟨d, rfl⟩ : ∃ d, D = d + 2 := ⟨D - 2, by omega⟩
  refine (EX_in mi_X5_isPart rfl rfl rfl (ls := [some (.inr (.inr (1, 0))), some (.inr (.inr (94, 0))), some (.inl (nI st)), some (.inl (nI en)), some (.inl (nI p)), none]) rfl).trans ?_
  rw [e2_X5_isPart_0, h3, hl_sub hst, hl_sub hge]
  unfold mtB
  by_cases c : en - st = wl tx N p
  · rw [if_pos (by rw [hwl, c])]
    refine loopA L xs O (P := fun r => r = _) (fun j ls M' => ls = [some (.inr (.inr (1, 0))), some (.inr (.inr (94, 0))), some (.inl (nI st)), some (.inl (nI en)), some (.inl (nI p)), some (.inl (nI (st + j)))] ∧ (∀ i, i < j → tx (p + i) = ch94 (st + i)) ∧ M' = M) (en - st) 100 (by omega) ?_ ?_ (Nat.le_of_lt (FU (by omega))) ⟨rfl, fun i hi => absurd hi (by omega), rfl⟩
    · rintro f k j _ M' hj ⟨rfl, hm, e⟩ ih
      rw [e]
      have hlet := wl_let (tx := tx) (N := N) (p := p) (i := j) (by omega)
      have hb := hX.2.2 (p + j) hlet.1
      have hcb := ch94_b (st + j) (by omega)
      rw [e2_X5_isPart_18, if_neg (by rw [hl_le (by omega) (by omega)]; omega), ca_94 L xs O d (st + j) (by omega) M]
      simp only [xr_v, Nat.reduceAdd, Nat.add_zero]
      rw [e2_X5_isPart_30, nI_add, hl_sub (by omega), show p + (st + j) - st = p + j by omega, if_pos (in_600 (by omega)), hl_cl (by omega), hb.1]
      by_cases c2 : ch94 (st + j) = tx (p + j)
      · rw [if_pos (by rw [c2]), zadd_1]
        refine ih _ _ ⟨rfl, fun i hi => ?_, rfl⟩
        by_cases ei : i = j
        · rw [ei, c2]
        · exact hm i (by omega)
      · rw [if_neg (by rw [hl_eq (by omega) (by omega)]; exact c2), decide_eq_false (fun e => c2 (e.2 j hj).symm)]
        rfl
    · rintro f k _ M' ⟨rfl, hm, e⟩
      rw [e, e2_X5_isPart_18, if_pos (by rw [hl_le (by omega) (by omega)]; omega), decide_eq_true ⟨c, hm⟩]
      rfl
  · rw [if_neg (by rw [hwl, hl_eq (by omega) (by omega)]; exact c), decide_eq_false (fun e => c e.1)]
    rfl
theorem x5_word2 {D : Nat} (hD : 4 ≤ D) (p : Nat) (M : Mem) (hX : TX M tx N) {b : Nat} (hT : TP M N b (.inl p)) : isI (EX L xs (D) q_X5_word [.inr (.inr (1, 0)), .inr (.inr (94, 0))] M O) O (match fnd (wPr ch94 tx N p) 23 with
    | some j => nI (nuF ch94 j)
    | none => -1) (fun M' => Fr sT M M' ∧ TP M' N 0 (match fnd (wPr ch94 tx N p) 23 with
    | some _ => .inl (scn tx N isA p)
    | none => .inr (1, p))) := by
  obtain ⟨t1, t2, t3, t4⟩ := hT
  have h600 := hX.1
  obtain ⟨d, rfl⟩ : ∃ d, D = d + 2 := ⟨D - 2, by omega⟩
  refine isI_e (EX_in mi_X5_word rfl rfl rfl (ls := [some (.inr (.inr (1, 0))), some (.inr (.inr (94, 0))), none, none, none, none]) rfl) ?_
  rw [e2_X5_word_0, t2]
  generalize hW : scn tx N isA p = W
  have hWN : W ≤ N := by
    rw [← hW]
    exact scn_le t1
  have fin : ∀ f k u3 u4 u5 M', 100 ≤ f → Fr sT3 M M' → M' 1 0 3 = nI W → isI (BK L xs (EX L xs (d + 1)) mi_X5_word (RN L xs (d) mi_X5_word f) (k + 300) 40 [some (.inr (.inr (1, 0))), some (.inr (.inr (94, 0))), some (.inl (nI p)), u3, u4, u5] [] M' O none 0 0) O (match fnd (wPr ch94 tx N p) 23 with
    | some j => nI (nuF ch94 j)
    | none => -1) (fun M' => Fr sT M M' ∧ TP M' N 0 (match fnd (wPr ch94 tx N p) 23 with
    | some _ => .inl W
    | none => .inr (1, p))) := by
    intro f k u3 u4 u5 M' hf fr h3
    have frT : Fr sT M M' := Fr_mono (fun _ _ _ => sT_3) fr
    have hX' := TX_fr hX frT
    rw [e2_X5_word_40]
    refine loopA L xs O (P := fun r => isI r O _ _) (fun j ls M'' => ls = [some (.inr (.inr (1, 0))), some (.inr (.inr (94, 0))), some (.inl (nI p)), some (.inl (nI (nuF ch94 j))), some (.inl (nI (frF ch94 j))), some (.inl (nI j))] ∧ fnd (wPr ch94 tx N p) j = none ∧ M'' = M') 23 100 (by omega) ?_ ?_ (by omega) ⟨rfl, rfl, rfl⟩
    · rintro f k j _ M'' hj ⟨rfl, hn, e⟩ ih
      rw [e]
      have hnu := nu_le ch94 j
      have hfr := fr_le ch94 j
      have hcb := ch94_b j hj
      have hnuS : nuF ch94 (j + 1) = if ch94 j = 32 then nuF ch94 j + 1 else nuF ch94 j := rfl
      have hfrS : frF ch94 (j + 1) = if ch94 j = 32 then j + 1 else frF ch94 j := rfl
      rw [e2_X5_word_48, e2_X5_word_54, if_neg (by rw [show Int32.ofNat 23 = nI 23 from rfl, hl_le (by omega) (by omega)]; omega), ca_94 L xs O d j hj M']
      simp only [xr_v, Nat.reduceAdd, Nat.add_zero]
      rw [e2_X5_word_63]
      by_cases c : ch94 j = 32
      · rw [if_pos (by rw [c]; rfl), x5_isPart2 L xs O (D := d + 1) (by omega) (frF ch94 j) j p hfr (by omega) (by omega) M' hX' (h3.trans (by rw [hW])) t1]
        simp only [xr_v, Nat.reduceAdd, Nat.add_zero]
        rw [e2_X5_word_78]
        by_cases c2 : mtB ch94 tx N p (frF ch94 j) j = true
        · rw [c2, b2i_t, if_neg (by decide)]
          have hw : wPr ch94 tx N p j = true := by
            unfold wPr
            rw [c2, decide_eq_true c]
            rfl
          have e1 := fnd_s (fnd_n hn |>.trans (if_pos hw)) (23 - (j + 1))
          rw [show j + 1 + (23 - (j + 1)) = 23 by omega] at e1
          rw [e1]
          exact isI_i ⟨frT, hWN, h3, (fr 1 0 4 rfl).trans t3, (fr 1 0 5 rfl).trans t4⟩
        · have c2' : mtB ch94 tx N p (frF ch94 j) j = false := by
            cases h : mtB ch94 tx N p (frF ch94 j) j
            · rfl
            · exact absurd h c2
          rw [c2', b2i_f, if_pos rfl, e2_X5_word_92, zadd_1, zadd_1]
          refine ih _ _ ⟨by rw [hnuS, hfrS, if_pos c, if_pos c], fnd_next hn ?_, rfl⟩
          unfold wPr
          rw [c2', Bool.and_false]
      · rw [if_neg (by rw [show (32 : Int32) = nI 32 from rfl, hl_eq (by omega) (by omega)]; exact c), e2_X5_word_92, zadd_1]
        refine ih _ _ ⟨by rw [hnuS, hfrS, if_neg c, if_neg c], fnd_next hn ?_, rfl⟩
        unfold wPr
        rw [decide_eq_false c, Bool.false_and]
    · rintro f k _ M'' ⟨rfl, hn, e⟩
      rw [e, hn]
      rw [e2_X5_word_48, e2_X5_word_54, if_pos (by rw [show Int32.ofNat 23 = nI 23 from rfl, hl_le (by omega) (by omega)]; omega), x5_blame_0 L xs O (D := d + 1) (by omega) 1 (nI p) M' ((fr 1 0 4 rfl).trans t3)]
      simp only [xr_n, Nat.reduceAdd, Nat.add_zero]
      rw [e2_X5_word_104]
      refine isI_i ⟨Fr_put (Fr_put frT rfl) rfl, ⟨W, by omega, ?_⟩, by omega, by omega, t1, ?_, mp_s⟩
      · rw [mp_k (by omega), mp_k (by omega), h3]
      · rw [mp_k (by omega), mp_s]
        rfl
  refine loopD L xs O (P := fun r => isI r O _ _) (fun j ls M' => ∃ u3 u4 u5, ls = [some (.inr (.inr (1, 0))), some (.inr (.inr (94, 0))), some (.inl (nI p)), u3, u4, u5] ∧ Fr sT3 M M' ∧ M' 1 0 3 = nI (p + j) ∧ scn tx N isA (p + j) = W) (N - p) 400 (by omega) ?_ ?_ (Nat.le_of_lt (FU (by omega))) ⟨_, _, _, rfl, Fr_refl, t2, hW⟩
  · rintro f k j _ M' hj hf ⟨u3, u4, u5, rfl, fr, h3, hs⟩ ih
    have hX' := TX_fr hX (Fr_mono (fun _ _ _ => sT_3) fr)
    have h2 := hX'.2.1
    have q := x5_isFrom L xs O (D := d + 1) (by omega) (p + j) 97 122 (by omega) (by omega) (by omega) M' hX' h3
    by_cases c : isA (tx (p + j)) = true
    · have c' : 97 ≤ tx (p + j) ∧ tx (p + j) ≤ 122 := of_decide_eq_true c
      rw [decide_eq_true (by omega), b2i_t] at q
      rw [e2_X5_word_5, h2, h3, if_neg (by rw [hl_le (by omega) (by omega)]; omega)]
      rw [show (97 : Int32) = nI 97 from rfl, show (122 : Int32) = nI 122 from rfl, q]
      simp only [xr_v, Nat.reduceAdd, Nat.add_zero]
      rw [e2_X5_word_24, if_neg (by decide), h3, zadd_1]
      refine ih _ _ ⟨_, _, _, rfl, Fr_put fr rfl, mp_s, ?_⟩
      rw [← hs, scn_t (by omega) c]
      rfl
    · have c' : ¬ (97 ≤ tx (p + j) ∧ tx (p + j) ≤ 122) := fun e => c (decide_eq_true e)
      rw [decide_eq_false (by omega), b2i_f] at q
      rw [e2_X5_word_5, h2, h3, if_neg (by rw [hl_le (by omega) (by omega)]; omega)]
      rw [show (97 : Int32) = nI 97 from rfl, show (122 : Int32) = nI 122 from rfl, q]
      simp only [xr_v, Nat.reduceAdd, Nat.add_zero]
      rw [e2_X5_word_24, if_pos rfl]
      refine fin _ _ _ _ _ _ ?_ fr ?_
      · have := FU (n := 1000) (by omega)
        omega
      · rw [h3, ← hs, scn_f (fun e => c e.2)]
  · rintro f k _ M' hf ⟨u3, u4, u5, rfl, fr, h3, hs⟩
    have h2 := (TX_fr hX (Fr_mono (fun _ _ _ => sT_3) fr)).2.1
    rw [e2_X5_word_5, h2, h3, if_pos (by rw [hl_le (by omega) (by omega)]; omega)]
    refine fin _ _ _ _ _ _ ?_ fr ?_
    · have := FU (n := 1000) (by omega)
      omega
    · rw [h3, ← hs, scn_f (by omega)]
end
