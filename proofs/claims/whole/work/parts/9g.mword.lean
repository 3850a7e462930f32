/-! Words: the reference reads their codes; which they are. -/
def dF (a : Nat → Nat) : Nat → Nat
  | 0 => 0
  | n + 1 => 27 * dF a n + a n
theorem dF_pos {a : Nat → Nat} {n : Nat} (h : ∀ i, i < n + 1 → 1 ≤ a i ∧ a i ≤ 26) : 1 ≤ dF a (n + 1) := by
  have := h n (by omega)
  show 1 ≤ 27 * dF a n + a n
  omega
theorem dF_inj {a b : Nat → Nat} : ∀ m n, (∀ i, i < m → 1 ≤ a i ∧ a i ≤ 26) → (∀ i, i < n → 1 ≤ b i ∧ b i ≤ 26) → dF a m = dF b n → m = n ∧ ∀ i, i < m → a i = b i := by
  intro m
  induction m with
  | zero =>
    intro n ha hb e
    cases n with
    | zero => exact ⟨rfl, fun i hi => absurd hi (by omega)⟩
    | succ n =>
      have := dF_pos hb
      have e0 : dF a 0 = 0 := rfl
      omega
  | succ m ih =>
    intro n ha hb e
    cases n with
    | zero =>
      have := dF_pos ha
      have e0 : dF b 0 = 0 := rfl
      omega
    | succ n =>
      have e' : 27 * dF a m + a m = 27 * dF b n + b n := e
      have h1 := ha m (by omega)
      have h2 := hb n (by omega)
      obtain ⟨h3, h4⟩ := ih n (fun i hi => ha i (by omega)) (fun i hi => hb i (by omega)) (by omega)
      subst h3
      refine ⟨rfl, fun i hi => ?_⟩
      by_cases c : i = m
      · rw [c]
        omega
      · exact h4 i (by omega)
theorem dF_lt {a : Nat → Nat} : ∀ n, (∀ i, i < n → 1 ≤ a i ∧ a i ≤ 26) → dF a n < 27 ^ n := by
  intro n
  induction n with
  | zero => intro _; exact Nat.one_pos
  | succ n ih =>
    intro h
    have := ih (fun i hi => h i (by omega))
    have h1 := h n (by omega)
    show 27 * dF a n + a n < 27 ^ n * 27
    omega
theorem dF_6 {a : Nat → Nat} {n : Nat} (hn : n ≤ 6) (h : ∀ i, i < n → 1 ≤ a i ∧ a i ≤ 26) : dF a n < 387420489 := by
  have h1 := dF_lt n h
  have h2 : 27 ^ n ≤ 27 ^ 6 := Nat.pow_le_pow_right (by omega) hn
  have h3 : 27 ^ 6 = 387420489 := by decide
  omega
theorem cdF_d (tx : Nat → Nat) (p : Nat) : ∀ n, cdF tx p n = dF (fun i => tx (p + i) - 96) n := by
  intro n
  induction n with
  | zero => rfl
  | succ n ih =>
    show 27 * cdF tx p n + _ = 27 * dF _ n + _
    rw [ih]
theorem dF_c {a b : Nat → Nat} : ∀ n, (∀ i, i < n → a i = b i) → dF a n = dF b n := by
  intro n
  induction n with
  | zero => intro _; rfl
  | succ n ih =>
    intro h
    show 27 * dF a n + a n = 27 * dF b n + b n
    rw [ih (fun i hi => h i (by omega)), h n (by omega)]
theorem wl_d {tx : Nat → Nat} {N p : Nat} : ∀ i, i < wl tx N p → 1 ≤ tx (p + i) - 96 ∧ tx (p + i) - 96 ≤ 26 := by
  intro i hi
  have := wl_let hi
  omega
/-- a word of a list is at p just if its code is -/
theorem mt_wc {ch tx : Nat → Nat} {N p st en : Nat} (h6 : en - st ≤ 6) (hc : ∀ i, i < en - st → 97 ≤ ch (st + i) ∧ ch (st + i) ≤ 122) : mtB ch tx N p st en = true ↔ wc tx N p = nI (dF (fun i => ch (st + i) - 96) (en - st)) := by
  have hd : ∀ i, i < en - st → 1 ≤ ch (st + i) - 96 ∧ ch (st + i) - 96 ≤ 26 := by
    intro i hi
    have := hc i hi
    omega
  have hlt := dF_6 h6 hd
  unfold mtB wc
  constructor
  · intro h
    obtain ⟨e1, e2⟩ := of_decide_eq_true h
    rw [← e1, if_pos h6, cdF_d]
    exact congrArg nI (dF_c _ (fun i hi => by rw [e2 i hi]))
  · intro h
    by_cases c : wl tx N p ≤ 6
    · rw [if_pos c, cdF_d] at h
      have h2 := dF_6 c (wl_d (tx := tx) (N := N) (p := p))
      have h3 := (nI_eq (by omega) (by omega)).1 h
      obtain ⟨e1, e2⟩ := dF_inj _ _ wl_d hd h3
      refine decide_eq_true ⟨e1.symm, fun i hi => ?_⟩
      have h4 := e2 i (by omega)
      have h5 := wl_let (tx := tx) (N := N) (p := p) (i := i) (by omega)
      have h7 := hc i hi
      have h8 : tx (p + i) - 96 = ch (st + i) - 96 := h4
      omega
    · rw [if_neg c] at h
      have : (-1 : Int32) < 0 := by decide
      rw [h, zlt_0 (by omega)] at this
      omega
theorem fnd_some {p : Nat → Bool} : ∀ {n j}, fnd p n = some j → j < n ∧ p j = true := by
  intro n
  induction n with
  | zero => intro j h; cases h
  | succ n ih =>
    intro j h
    cases e : fnd p n with
    | some x =>
      have h1 := fnd_s e 1
      rw [h] at h1
      obtain rfl : j = x := Option.some.inj h1
      have := ih e
      exact ⟨by omega, this.2⟩
    | none =>
      rw [fnd_n e] at h
      by_cases c : p n = true
      · rw [if_pos c] at h
        obtain rfl : n = j := Option.some.inj h
        exact ⟨by omega, c⟩
      · rw [if_neg c] at h
        cases h
theorem fnd_none {p : Nat → Bool} : ∀ {n}, fnd p n = none → ∀ j, j < n → p j = false := by
  intro n
  induction n with
  | zero => intro _ j hj; omega
  | succ n ih =>
    intro h j hj
    cases e : fnd p n with
    | some x =>
      have h1 := fnd_s e 1
      rw [h] at h1
      cases h1
    | none =>
      rw [fnd_n e] at h
      by_cases c : p n = true
      · rw [if_pos c] at h
        cases h
      · by_cases ej : j = n
        · rw [ej]
          cases h2 : p n
          · rfl
          · exact absurd h2 c
        · exact ih e j (by omega)
def kc (K : Nat) : Nat := ([1701829, 110319223, 453774, 4562600, 6412, 281027399, 274581644, 14625, 173294, 129073] : List Nat).getD K 0
def kr (K : Nat) : Nat := ([6415353, 459652, 332864552, 125042] : List Nat).getD K 0
theorem frd_93 : ∀ j, j < 56 → ch93 j = 32 → j - frF ch93 j ≤ 6 ∧ (∀ i, i < j - frF ch93 j → 97 ≤ ch93 (frF ch93 j + i) ∧ ch93 (frF ch93 j + i) ≤ 122) ∧ dF (fun i => ch93 (frF ch93 j + i) - 96) (j - frF ch93 j) = kc (nuF ch93 j) ∧ nuF ch93 j < 10 := by
  intro j hj
  have h : (List.range 56).all (fun j => !(Nat.beq (ch93 j) 32) || (Nat.ble (j - frF ch93 j) 6 && (List.range (j - frF ch93 j)).all (fun i => Nat.ble 97 (ch93 (frF ch93 j + i)) && Nat.ble (ch93 (frF ch93 j + i)) 122) && Nat.beq (dF (fun i => ch93 (frF ch93 j + i) - 96) (j - frF ch93 j)) (kc (nuF ch93 j)) && Nat.blt (nuF ch93 j) 10)) = true := by decide +kernel
  have h2 := List.all_eq_true.1 h j (List.mem_range.2 hj)
  intro e
  simp only [e, beq_s, Bool.not_true, Bool.false_or, Bool.and_eq_true] at h2
  obtain ⟨⟨⟨a, b⟩, c⟩, d⟩ := h2
  refine ⟨Nat.le_of_ble_eq_true a, fun i hi => ?_, Nat.eq_of_beq_eq_true c, Nat.le_of_ble_eq_true d⟩
  have := List.all_eq_true.1 b i (List.mem_range.2 hi)
  simp only [Bool.and_eq_true] at this
  exact ⟨Nat.le_of_ble_eq_true this.1, Nat.le_of_ble_eq_true this.2⟩
theorem frk_93 : ∀ K, K < 10 → ∃ j, j < 56 ∧ ch93 j = 32 ∧ nuF ch93 j = K := by decide +kernel
def kwC (tx : Nat → Nat) (N p : Nat) : Option Nat := (fnd (wPr ch93 tx N p) 56).map (nuF ch93)
theorem kwC_s {tx : Nat → Nat} {N p K : Nat} (h : kwC tx N p = some K) : K < 10 ∧ wc tx N p = nI (kc K) := by
  unfold kwC at h
  cases e : fnd (wPr ch93 tx N p) 56 with
  | none =>
    rw [e] at h
    cases h
  | some j =>
    rw [e] at h
    obtain rfl : nuF ch93 j = K := Option.some.inj h
    obtain ⟨h1, h2⟩ := fnd_some e
    unfold wPr at h2
    rw [Bool.and_eq_true] at h2
    obtain ⟨a, b, c, d⟩ := frd_93 j h1 (of_decide_eq_true h2.1)
    refine ⟨d, ?_⟩
    rw [← c]
    exact (mt_wc a b).1 h2.2
theorem kwC_n {tx : Nat → Nat} {N p : Nat} (h : kwC tx N p = none) : ∀ K, K < 10 → ¬ wc tx N p = nI (kc K) := by
  intro K hK e
  obtain ⟨j, hj, h1, h2⟩ := frk_93 K hK
  unfold kwC at h
  cases e2 : fnd (wPr ch93 tx N p) 56 with
  | some j =>
    rw [e2] at h
    cases h
  | none =>
    have h3 := fnd_none e2 j hj
    obtain ⟨a, b, c, d⟩ := frd_93 j hj h1
    unfold wPr at h3
    rw [decide_eq_true h1, Bool.true_and] at h3
    have h4 := (mt_wc (tx := tx) (N := N) (p := p) a b).2 (by rw [c, h2]; exact e)
    rw [h3] at h4
    cases h4
theorem frd_94 : ∀ j, j < 23 → ch94 j = 32 → j - frF ch94 j ≤ 6 ∧ (∀ i, i < j - frF ch94 j → 97 ≤ ch94 (frF ch94 j + i) ∧ ch94 (frF ch94 j + i) ≤ 122) ∧ dF (fun i => ch94 (frF ch94 j + i) - 96) (j - frF ch94 j) = kr (nuF ch94 j) ∧ nuF ch94 j < 4 := by
  intro j hj
  have h : (List.range 23).all (fun j => !(Nat.beq (ch94 j) 32) || (Nat.ble (j - frF ch94 j) 6 && (List.range (j - frF ch94 j)).all (fun i => Nat.ble 97 (ch94 (frF ch94 j + i)) && Nat.ble (ch94 (frF ch94 j + i)) 122) && Nat.beq (dF (fun i => ch94 (frF ch94 j + i) - 96) (j - frF ch94 j)) (kr (nuF ch94 j)) && Nat.blt (nuF ch94 j) 4)) = true := by decide +kernel
  have h2 := List.all_eq_true.1 h j (List.mem_range.2 hj)
  intro e
  simp only [e, beq_s, Bool.not_true, Bool.false_or, Bool.and_eq_true] at h2
  obtain ⟨⟨⟨a, b⟩, c⟩, d⟩ := h2
  refine ⟨Nat.le_of_ble_eq_true a, fun i hi => ?_, Nat.eq_of_beq_eq_true c, Nat.le_of_ble_eq_true d⟩
  have := List.all_eq_true.1 b i (List.mem_range.2 hi)
  simp only [Bool.and_eq_true] at this
  exact ⟨Nat.le_of_ble_eq_true this.1, Nat.le_of_ble_eq_true this.2⟩
theorem frk_94 : ∀ K, K < 4 → ∃ j, j < 23 ∧ ch94 j = 32 ∧ nuF ch94 j = K := by decide +kernel
def kwR (tx : Nat → Nat) (N p : Nat) : Option Nat := (fnd (wPr ch94 tx N p) 23).map (nuF ch94)
theorem kwR_s {tx : Nat → Nat} {N p K : Nat} (h : kwR tx N p = some K) : K < 4 ∧ wc tx N p = nI (kr K) := by
  unfold kwR at h
  cases e : fnd (wPr ch94 tx N p) 23 with
  | none =>
    rw [e] at h
    cases h
  | some j =>
    rw [e] at h
    obtain rfl : nuF ch94 j = K := Option.some.inj h
    obtain ⟨h1, h2⟩ := fnd_some e
    unfold wPr at h2
    rw [Bool.and_eq_true] at h2
    obtain ⟨a, b, c, d⟩ := frd_94 j h1 (of_decide_eq_true h2.1)
    refine ⟨d, ?_⟩
    rw [← c]
    exact (mt_wc a b).1 h2.2
theorem kwR_n {tx : Nat → Nat} {N p : Nat} (h : kwR tx N p = none) : ∀ K, K < 4 → ¬ wc tx N p = nI (kr K) := by
  intro K hK e
  obtain ⟨j, hj, h1, h2⟩ := frk_94 K hK
  unfold kwR at h
  cases e2 : fnd (wPr ch94 tx N p) 23 with
  | some j =>
    rw [e2] at h
    cases h
  | none =>
    have h3 := fnd_none e2 j hj
    obtain ⟨a, b, c, d⟩ := frd_94 j hj h1
    unfold wPr at h3
    rw [decide_eq_true h1, Bool.true_and] at h3
    have h4 := (mt_wc (tx := tx) (N := N) (p := p) a b).2 (by rw [c, h2]; exact e)
    rw [h3] at h4
    cases h4
section
variable (L : Nat) (xs : Nat → Int32) (O : Int64) {tx : Nat → Nat} {N : Nat}
theorem x7_wordHere {D : Nat} (hD : 4 ≤ D) (p : Nat) (hp : p ≤ N) (M : Mem) (hX : MX M tx N) (h4 : M 40 0 4 = nI p) : isI (EX L xs (D) q_X7_wordHere [.inr (.inr (40, 0))] M O) O (wc tx N (scn tx N isB p)) (fun M' => Fr sM4 M M' ∧ M' 40 0 4 = nI (scn tx N isB p)) := by
  obtain ⟨d, rfl⟩ : ∃ d, D = d + 2 := ⟨D - 2, by omega⟩
  refine isI_e (EX_in mi_X7_wordHere rfl rfl rfl (ls := [some (.inr (.inr (40, 0))), none, none]) rfl) ?_
  have h600 := hX.1
  obtain ⟨M1, q1, f1, c1⟩ := x7_blanks L xs O (D := d + 1) (by omega) p (by omega) M hX h4
  have hs1 := scn_le (tx := tx) (c := isB) hp
  generalize scn tx N isB p = s at *
  have hX' := MX_fr hX (Fr_mono (fun _ _ _ => sM_4) f1)
  have hsw : scn tx N isA s = s + wl tx N s := by
    have := scn_ge (tx := tx) (N := N) (c := isA) s
    unfold wl
    omega
  have hsN := scn_le (tx := tx) (c := isA) hs1
  have hend := scn_end (tx := tx) (N := N) (c := isA) s
  rw [hsw] at hsN hend
  rw [e_X7_wordHere_0, q1]
  simp only [xr_n, Nat.reduceAdd, Nat.add_zero]
  rw [e_X7_wordHere_4]
  refine loopA L xs O (P := fun r => isI r O _ _) (fun j ls M' => ls = [some (.inr (.inr (40, 0))), some (.inl (nI (cdF tx s (min j 6)))), some (.inl (nI j))] ∧ M' = M1) (wl tx N s) 300 (by omega) ?_ ?_ (Nat.le_of_lt (FU (by omega))) ⟨rfl, rfl⟩
  · rintro f k j _ M' hj ⟨rfl, e⟩ ih
    rw [e]
    have hlet := wl_let hj
    have q := x7_byteAt L xs O (D := d + 1) (by omega) (s + j) (by omega) M1 hX'
    have eb : bA tx N (s + j) = nI (tx (s + j)) := if_pos (by omega)
    rw [eb] at q
    rw [e_X7_wordHere_8, c1, nI_add, q]
    simp only [xr_v, Nat.reduceAdd, Nat.add_zero]
    rw [e_X7_wordHere_18, if_neg (by rw [zlt_97 (by omega)]; omega), c1, nI_add, q]
    simp only [xr_v, Nat.reduceAdd, Nat.add_zero]
    rw [e_X7_wordHere_33, if_neg (by rw [ylt_122 (by omega)]; omega)]
    by_cases c6 : 6 ≤ j
    · rw [if_pos (by rw [show (6 : Int32) = nI 6 from rfl, hl_le (by omega) (by omega)]; exact c6), e_X7_wordHere_68, zadd_1]
      refine ih _ _ ⟨?_, rfl⟩
      rw [show min (j + 1) 6 = min j 6 by omega]
    · rw [if_neg (by rw [show (6 : Int32) = nI 6 from rfl, hl_le (by omega) (by omega)]; exact c6), c1, nI_add, q]
      simp only [xr_v, Nat.reduceAdd, Nat.add_zero]
      rw [e_X7_wordHere_58, e_X7_wordHere_68, zadd_1]
      refine ih _ _ ⟨?_, rfl⟩
      rw [show min (j + 1) 6 = j + 1 by omega, show min j 6 = j by omega, show (27 : Int32) = nI 27 from rfl, pk_mul, nI_add, show (97 : Int32) = nI 97 from rfl, hl_sub (by omega), zadd_1]
      rw [show 27 * cdF tx s j + tx (s + j) - 97 + 1 = cdF tx s (j + 1) by
        show _ = 27 * cdF tx s j + (tx (s + j) - 96)
        omega]
  · rintro f k _ M' ⟨rfl, e⟩
    rw [e]
    have q := x7_byteAt L xs O (D := d + 1) (by omega) (s + wl tx N s) (by omega) M1 hX'
    have fin : ∀ k, isI (BK L xs (EX L xs (d + 1)) mi_X7_wordHere (RN L xs (d) mi_X7_wordHere f) (k + 200) 75 [some (.inr (.inr (40, 0))), some (.inl (nI (cdF tx s (min (wl tx N s) 6)))), some (.inl (nI (wl tx N s)))] [] M1 O none 0 0) O (wc tx N s) (fun M' => Fr sM4 M M' ∧ M' 40 0 4 = nI s) := by
      intro k
      rw [e_X7_wordHere_75]
      unfold wc
      by_cases c : wl tx N s ≤ 6
      · rw [if_pos (by rw [zle_6 (by omega)]; exact c), if_pos c, e_X7_wordHere_86, show min (wl tx N s) 6 = wl tx N s by omega]
        exact isI_i ⟨f1, c1⟩
      · rw [if_neg (by rw [zle_6 (by omega)]; exact c), if_neg c, e_X7_wordHere_86]
        exact isI_i ⟨f1, c1⟩
    rw [e_X7_wordHere_8, c1, nI_add, q]
    simp only [xr_v, Nat.reduceAdd, Nat.add_zero]
    by_cases cN : s + wl tx N s < N
    · have eb : bA tx N (s + wl tx N s) = nI (tx (s + wl tx N s)) := if_pos cN
      have hb := (hX'.2.2 _ cN).2
      have hno : ¬ (97 ≤ tx (s + wl tx N s) ∧ tx (s + wl tx N s) ≤ 122) := fun e => hend ⟨cN, decide_eq_true e⟩
      rw [eb] at q
      rw [eb]
      rw [e_X7_wordHere_18]
      by_cases c1' : tx (s + wl tx N s) < 97
      · rw [if_pos (by rw [zlt_97 (by omega)]; exact c1')]
        exact fin _
      · rw [if_neg (by rw [zlt_97 (by omega)]; exact c1'), c1, nI_add, q]
        simp only [xr_v, Nat.reduceAdd, Nat.add_zero]
        rw [e_X7_wordHere_33, if_pos (by rw [ylt_122 (by omega)]; omega)]
        exact fin _
    · have eb : bA tx N (s + wl tx N s) = -1 := if_neg cN
      rw [eb, e_X7_wordHere_18, if_pos (by decide)]
      exact fin _
def sx (x d : Nat) : Nat := if d = 0 then x else 27 * x + d
theorem sx_0 {x d : Nat} (h : d = 0) : sx x d = x := if_pos h
theorem sx_n {x d : Nat} (h : ¬ d = 0) : sx x d = 27 * x + d := if_neg h
def sixN (a b c d e f : Nat) : Nat := sx (sx (sx (27 * (27 * a + b) + c) d) e) f
theorem x7_six {D : Nat} (hD : 2 ≤ D) (a b c d' e f : Nat) (ha : a < 27) (hb : b < 27) (hc : c < 27) (hd : d' < 27) (he : e < 27) (hf : f < 27) (M : Mem) : EX L xs (D) q_X7_six [.inl (nI a), .inl (nI b), .inl (nI c), .inl (nI d'), .inl (nI e), .inl (nI f)] M O = (some (.inl (some (.inl (nI (sixN a b c d' e f)))), M, O, 0, 0) : Res) := by
  obtain ⟨d, rfl⟩ : ∃ d, D = d + 2 := ⟨D - 2, by omega⟩
  refine (EX_in mi_X7_six rfl rfl rfl (ls := [some (.inl (nI a)), some (.inl (nI b)), some (.inl (nI c)), some (.inl (nI d')), some (.inl (nI e)), some (.inl (nI f)), none]) rfl).trans ?_
  have s1 : ∀ x y : Nat, (27 : Int32) * nI x + nI y = nI (27 * x + y) := fun x y => by rw [hl_mulL, nI_add]
  have t69 : ∀ (k x : Nat) (l6 : Int32), BK L xs (EX L xs (d + 1)) mi_X7_six (RN L xs (d) mi_X7_six FUEL) (k + 8) 69 [some (.inl (nI a)), some (.inl (nI b)), some (.inl (nI c)), some (.inl (nI d')), some (.inl (nI e)), some (.inl (nI f)), some (.inl (l6))] [.inl (nI x)] M O none 0 0 = (some (.inl (some (.inl (nI x))), M, O, 0, 0) : Res) := fun k x l6 => by rw [e_X7_six_69]
  have t49 : ∀ (k x : Nat) (l6 : Int32), BK L xs (EX L xs (d + 1)) mi_X7_six (RN L xs (d) mi_X7_six FUEL) (k + 20) 49 [some (.inl (nI a)), some (.inl (nI b)), some (.inl (nI c)), some (.inl (nI d')), some (.inl (nI e)), some (.inl (nI f)), some (.inl (l6))] [.inl (nI x)] M O none 0 0 = (some (.inl (some (.inl (nI (sx x f)))), M, O, 0, 0) : Res) := by
    intro k x l6
    rw [e_X7_six_49]
    by_cases h : f = 0
    · rw [if_pos (by rw [h]; rfl), t69, sx_0 h]
    · rw [if_neg (by rw [zeq_0 (by omega)]; exact h), s1, t69, sx_n h]
  have t29 : ∀ (k x : Nat) (l6 : Int32), BK L xs (EX L xs (d + 1)) mi_X7_six (RN L xs (d) mi_X7_six FUEL) (k + 40) 29 [some (.inl (nI a)), some (.inl (nI b)), some (.inl (nI c)), some (.inl (nI d')), some (.inl (nI e)), some (.inl (nI f)), some (.inl (l6))] [.inl (nI x)] M O none 0 0 = (some (.inl (some (.inl (nI (sx (sx x e) f)))), M, O, 0, 0) : Res) := by
    intro k x l6
    rw [e_X7_six_29]
    by_cases h : e = 0
    · rw [if_pos (by rw [h]; rfl), t49, sx_0 h]
    · rw [if_neg (by rw [zeq_0 (by omega)]; exact h), s1, t49, sx_n h]
  unfold sixN
  rw [e_X7_six_0, s1, s1]
  by_cases h : d' = 0
  · rw [if_pos (by rw [h]; rfl), t29, sx_0 h]
  · rw [if_neg (by rw [zeq_0 (by omega)]; exact h), s1, t29, sx_n h]
theorem x7_isWord {D : Nat} (hD : 5 ≤ D) (p a b c d' e f : Nat) (hp : p ≤ N) (ha : a < 27) (hb : b < 27) (hc : c < 27) (hd : d' < 27) (he : e < 27) (hf : f < 27) (M : Mem) (hX : MX M tx N) (h4 : M 40 0 4 = nI p) (h5 : M 40 0 5 = 0) : isI (EX L xs (D) q_X7_isWord [.inr (.inr (40, 0)), .inl (nI a), .inl (nI b), .inl (nI c), .inl (nI d'), .inl (nI e), .inl (nI f)] M O) O (b2i (decide (wc tx N (scn tx N isB p) = nI (sixN a b c d' e f)))) (fun M' => Fr sM4 M M' ∧ M' 40 0 4 = nI (scn tx N isB p)) := by
  obtain ⟨d, rfl⟩ : ∃ d, D = d + 2 := ⟨D - 2, by omega⟩
  refine isI_e (EX_in mi_X7_isWord rfl rfl rfl (ls := [some (.inr (.inr (40, 0))), some (.inl (nI a)), some (.inl (nI b)), some (.inl (nI c)), some (.inl (nI d')), some (.inl (nI e)), some (.inl (nI f))]) rfl) ?_
  obtain ⟨M1, q1, f1, c1⟩ := x7_wordHere L xs O (D := d + 1) (by omega) p hp M hX h4
  rw [e_X7_isWord_0, if_pos h5, q1]
  simp only [xr_v, Nat.reduceAdd, Nat.add_zero]
  rw [e_X7_isWord_11, x7_six L xs O (D := d + 1) (by omega) a b c d' e f ha hb hc hd he hf M1]
  simp only [xr_v, Nat.reduceAdd, Nat.add_zero]
  rw [e_X7_isWord_23]
  by_cases cc : wc tx N (scn tx N isB p) = nI (sixN a b c d' e f)
  · rw [if_pos cc, decide_eq_true cc, e_X7_isWord_31, if_pos (Or.inr rfl)]
    exact isI_i ⟨f1, c1⟩
  · rw [if_neg cc, decide_eq_false cc, e_X7_isWord_30, e_X7_isWord_31, if_pos (Or.inl rfl)]
    exact isI_i ⟨f1, c1⟩
def mkK (K : Nat) : Nat := ([0, 7, 8, 1, 9, 2, 3, 4, 5, 6] : List Nat).getD K 0
theorem kc_inj : ∀ K, K < 10 → ∀ J, J < 10 → nI (kc K) = nI (kc J) → K = J := by decide +kernel
theorem kr_inj : ∀ K, K < 4 → ∀ J, J < 4 → nI (kr K) = nI (kr J) → K = J := by decide +kernel
theorem kwC_of {p K : Nat} (hK : K < 10) (h : wc tx N p = nI (kc K)) : kwC tx N p = some K := by
  cases e : kwC tx N p with
  | none => exact absurd h (kwC_n e K hK)
  | some J =>
    obtain ⟨h1, h2⟩ := kwC_s e
    rw [h] at h2
    rw [kc_inj K hK J h1 h2]
theorem kwC_no {p : Nat} (h : ∀ K, K < 10 → ¬ wc tx N p = nI (kc K)) : kwC tx N p = none := by
  cases e : kwC tx N p with
  | none => rfl
  | some J => exact absurd (kwC_s e).2 (h J (kwC_s e).1)
theorem kwR_of {p K : Nat} (hK : K < 4) (h : wc tx N p = nI (kr K)) : kwR tx N p = some K := by
  cases e : kwR tx N p with
  | none => exact absurd h (kwR_n e K hK)
  | some J =>
    obtain ⟨h1, h2⟩ := kwR_s e
    rw [h] at h2
    rw [kr_inj K hK J h1 h2]
theorem kwR_no {p : Nat} (h : ∀ K, K < 4 → ¬ wc tx N p = nI (kr K)) : kwR tx N p = none := by
  cases e : kwR tx N p with
  | none => rfl
  | some J => exact absurd (kwR_s e).2 (h J (kwR_s e).1)
theorem x7_kindHere {D : Nat} (hD : 6 ≤ D) (p : Nat) (hp : p ≤ N) (M : Mem) (hX : MX M tx N) (h4 : M 40 0 4 = nI p) (h5 : M 40 0 5 = 0) : isI (EX L xs (D) q_X7_kindHere [.inr (.inr (40, 0))] M O) O (match kwC tx N (scn tx N isB p) with
    | some K => nI (mkK K)
    | none => -1) (fun M' => Fr sM4 M M' ∧ M' 40 0 4 = nI (scn tx N isB p)) := by
  obtain ⟨d, rfl⟩ : ∃ d, D = d + 2 := ⟨D - 2, by omega⟩
  refine isI_e (EX_in mi_X7_kindHere rfl rfl rfl (ls := [some (.inr (.inr (40, 0)))]) rfl) ?_
  have hs := scn_le (tx := tx) (c := isB) hp
  have hid := scn_id (tx := tx) (N := N) (c := isB) p
  have one : ∀ M' q, Fr sM4 M M' → q ≤ N → scn tx N isB q = scn tx N isB p → M' 40 0 4 = nI q → ∀ a b c d' e f, a < 27 → b < 27 → c < 27 → d' < 27 → e < 27 → f < 27 → ∀ K, sixN a b c d' e f = kc K → ∃ M'', EX L xs (d + 1) q_X7_isWord [.inr (.inr (40, 0)), .inl (nI a), .inl (nI b), .inl (nI c), .inl (nI d'), .inl (nI e), .inl (nI f)] M' O = (some (.inl (some (.inl (b2i (decide (wc tx N (scn tx N isB p) = nI (kc K)))))), M'', O, 0, 0) : Res) ∧ Fr sM4 M M'' ∧ M'' 40 0 4 = nI (scn tx N isB p) := by
    intro M' q fr hq hqs hc a b c d' e f ha hb hc' hd he hf K hK
    obtain ⟨M'', q1, f1, c1⟩ := x7_isWord L xs O (D := d + 1) (by omega) q a b c d' e f hq ha hb hc' hd he hf M' (MX_fr hX (Fr_mono (fun _ _ _ => sM_4) fr)) hc ((fr 40 0 5 rfl).trans h5)
    rw [hqs, hK] at q1
    rw [hqs] at c1
    exact ⟨M'', q1, Fr_trans fr f1, c1⟩
  generalize hsp : scn tx N isB p = s at *
  obtain ⟨M1, q1, f1, c1⟩ := one M p Fr_refl hp hsp h4 3 5 12 12 19 0 (by decide) (by decide) (by decide) (by decide) (by decide) (by decide) 0 (by decide)
  rw [e_X7_kindHere_0, show EX L xs (d + 1) q_X7_isWord [.inr (.inr (40, 0)), .inl 3, .inl 5, .inl 12, .inl 12, .inl 19, .inl 0] M O = _ from q1]
  simp only [xr_v, Nat.reduceAdd, Nat.add_zero]
  by_cases k0 : wc tx N s = nI (kc 0)
  · rw [decide_eq_true k0, b2i_t, e_X7_kindHere_13, if_neg (by decide), kwC_of (by omega) k0]
    exact isI_i ⟨f1, c1⟩
  rw [decide_eq_false k0, b2i_f, e_X7_kindHere_13]
  obtain ⟨M2, q2, f2, c2⟩ := one M1 s f1 hs hid c1 8 15 21 19 5 0 (by decide) (by decide) (by decide) (by decide) (by decide) (by decide) 3 (by decide)
  rw [if_pos rfl, show EX L xs (d + 1) q_X7_isWord [.inr (.inr (40, 0)), .inl 8, .inl 15, .inl 21, .inl 19, .inl 5, .inl 0] M1 O = _ from q2]
  simp only [xr_v, Nat.reduceAdd, Nat.add_zero]
  by_cases k3 : wc tx N s = nI (kc 3)
  · rw [decide_eq_true k3, b2i_t, e_X7_kindHere_32, if_neg (by decide), kwC_of (by omega) k3]
    exact isI_i ⟨f2, c2⟩
  rw [decide_eq_false k3, b2i_f, e_X7_kindHere_32]
  obtain ⟨M3, q3, f3, c3⟩ := one M2 s f2 hs hid c2 19 15 21 18 3 5 (by decide) (by decide) (by decide) (by decide) (by decide) (by decide) 5 (by decide)
  rw [if_pos rfl, show EX L xs (d + 1) q_X7_isWord [.inr (.inr (40, 0)), .inl 19, .inl 15, .inl 21, .inl 18, .inl 3, .inl 5] M2 O = _ from q3]
  simp only [xr_v, Nat.reduceAdd, Nat.add_zero]
  by_cases k5 : wc tx N s = nI (kc 5)
  · rw [decide_eq_true k5, b2i_t, e_X7_kindHere_51, if_neg (by decide), kwC_of (by omega) k5]
    exact isI_i ⟨f3, c3⟩
  rw [decide_eq_false k5, b2i_f, e_X7_kindHere_51]
  obtain ⟨M4, q4, f4, c4⟩ := one M3 s f3 hs hid c3 19 3 18 5 5 14 (by decide) (by decide) (by decide) (by decide) (by decide) (by decide) 6 (by decide)
  rw [if_pos rfl, show EX L xs (d + 1) q_X7_isWord [.inr (.inr (40, 0)), .inl 19, .inl 3, .inl 18, .inl 5, .inl 5, .inl 14] M3 O = _ from q4]
  simp only [xr_v, Nat.reduceAdd, Nat.add_zero]
  by_cases k6 : wc tx N s = nI (kc 6)
  · rw [decide_eq_true k6, b2i_t, e_X7_kindHere_69, if_neg (by decide), kwC_of (by omega) k6]
    exact isI_i ⟨f4, c4⟩
  rw [decide_eq_false k6, b2i_f, e_X7_kindHere_69]
  obtain ⟨M5, q5, f5, c5⟩ := one M4 s f4 hs hid c4 20 1 18 0 0 0 (by decide) (by decide) (by decide) (by decide) (by decide) (by decide) 7 (by decide)
  rw [if_pos rfl, show EX L xs (d + 1) q_X7_isWord [.inr (.inr (40, 0)), .inl 20, .inl 1, .inl 18, .inl 0, .inl 0, .inl 0] M4 O = _ from q5]
  simp only [xr_v, Nat.reduceAdd, Nat.add_zero]
  by_cases k7 : wc tx N s = nI (kc 7)
  · rw [decide_eq_true k7, b2i_t, e_X7_kindHere_86, if_neg (by decide), kwC_of (by omega) k7]
    exact isI_i ⟨f5, c5⟩
  rw [decide_eq_false k7, b2i_f, e_X7_kindHere_86]
  obtain ⟨M6, q6, f6, c6⟩ := one M5 s f5 hs hid c5 8 21 19 8 0 0 (by decide) (by decide) (by decide) (by decide) (by decide) (by decide) 8 (by decide)
  rw [if_pos rfl, show EX L xs (d + 1) q_X7_isWord [.inr (.inr (40, 0)), .inl 8, .inl 21, .inl 19, .inl 8, .inl 0, .inl 0] M5 O = _ from q6]
  simp only [xr_v, Nat.reduceAdd, Nat.add_zero]
  by_cases k8 : wc tx N s = nI (kc 8)
  · rw [decide_eq_true k8, b2i_t, e_X7_kindHere_105, if_neg (by decide), kwC_of (by omega) k8]
    exact isI_i ⟨f6, c6⟩
  rw [decide_eq_false k8, b2i_f, e_X7_kindHere_105]
  obtain ⟨M7, q7, f7, c7⟩ := one M6 s f6 hs hid c6 6 15 1 13 0 0 (by decide) (by decide) (by decide) (by decide) (by decide) (by decide) 9 (by decide)
  rw [if_pos rfl, show EX L xs (d + 1) q_X7_isWord [.inr (.inr (40, 0)), .inl 6, .inl 15, .inl 1, .inl 13, .inl 0, .inl 0] M6 O = _ from q7]
  simp only [xr_v, Nat.reduceAdd, Nat.add_zero]
  by_cases k9 : wc tx N s = nI (kc 9)
  · rw [decide_eq_true k9, b2i_t, e_X7_kindHere_123, if_neg (by decide), kwC_of (by omega) k9]
    exact isI_i ⟨f7, c7⟩
  rw [decide_eq_false k9, b2i_f, e_X7_kindHere_123]
  obtain ⟨M8, q8, f8, c8⟩ := one M7 s f7 hs hid c7 7 18 15 21 14 4 (by decide) (by decide) (by decide) (by decide) (by decide) (by decide) 1 (by decide)
  rw [if_pos rfl, show EX L xs (d + 1) q_X7_isWord [.inr (.inr (40, 0)), .inl 7, .inl 18, .inl 15, .inl 21, .inl 14, .inl 4] M7 O = _ from q8]
  simp only [xr_v, Nat.reduceAdd, Nat.add_zero]
  by_cases k1 : wc tx N s = nI (kc 1)
  · rw [decide_eq_true k1, b2i_t, e_X7_kindHere_144, if_neg (by decide), kwC_of (by omega) k1]
    exact isI_i ⟨f8, c8⟩
  rw [decide_eq_false k1, b2i_f, e_X7_kindHere_144]
  obtain ⟨M9, q9, f9, c9⟩ := one M8 s f8 hs hid c8 23 1 12 12 0 0 (by decide) (by decide) (by decide) (by decide) (by decide) (by decide) 2 (by decide)
  rw [if_pos rfl, show EX L xs (d + 1) q_X7_isWord [.inr (.inr (40, 0)), .inl 23, .inl 1, .inl 12, .inl 12, .inl 0, .inl 0] M8 O = _ from q9]
  simp only [xr_v, Nat.reduceAdd, Nat.add_zero]
  by_cases k2 : wc tx N s = nI (kc 2)
  · rw [decide_eq_true k2, b2i_t, e_X7_kindHere_163, if_neg (by decide), kwC_of (by omega) k2]
    exact isI_i ⟨f9, c9⟩
  rw [decide_eq_false k2, b2i_f, e_X7_kindHere_163]
  obtain ⟨M10, q10, f10, c10⟩ := one M9 s f9 hs hid c9 8 21 13 0 0 0 (by decide) (by decide) (by decide) (by decide) (by decide) (by decide) 4 (by decide)
  rw [if_pos rfl, show EX L xs (d + 1) q_X7_isWord [.inr (.inr (40, 0)), .inl 8, .inl 21, .inl 13, .inl 0, .inl 0, .inl 0] M9 O = _ from q10]
  simp only [xr_v, Nat.reduceAdd, Nat.add_zero]
  by_cases k4 : wc tx N s = nI (kc 4)
  · rw [decide_eq_true k4, b2i_t, e_X7_kindHere_182, if_neg (by decide), e_X7_kindHere_191, kwC_of (by omega) k4]
    exact isI_i ⟨f10, c10⟩
  rw [decide_eq_false k4, b2i_f, e_X7_kindHere_182]
  rw [if_pos rfl, e_X7_kindHere_191, kwC_no (tx := tx) (N := N) (p := s) (fun K hK => match K, hK with
    | 0, _ => k0
    | 1, _ => k1
    | 2, _ => k2
    | 3, _ => k3
    | 4, _ => k4
    | 5, _ => k5
    | 6, _ => k6
    | 7, _ => k7
    | 8, _ => k8
    | 9, _ => k9
    | K + 10, h => absurd h (by omega))]
  exact isI_i ⟨f10, c10⟩
end
