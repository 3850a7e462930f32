/-! The reference: how LOUD its SOURCES are, who hears. -/
def srcF (V : Vw) (A : Nat → Int32) (n s y : Nat) : Int32 := loudF V A n (vN V 10 s) 1 (V 11 s) (V 12 s) y
def sndF (V : Vw) (s h : Nat) : Bool := decide ((V 13 s >>> (nI h &&& 31)) &&& 1 = 1)
def mostF (V : Vw) (A : Nat → Int32) (n h y : Nat) : Nat → Int32
  | 0 => 0
  | s + 1 => if sndF V s h = true then imax (mostF V A n h y s) (srcF V A n s y) else mostF V A n h y s
def hearF (V : Vw) (A : Nat → Int32) (n ns h k : Nat) : Bool := decide (¬ mostF V A n h (vN V 7 k) ns < needF (V 8) (V 9) k h)
def oneF (V : Vw) (A : Nat → Int32) (n h k s : Nat) : Bool := sndF V s h && decide (¬ srcF V A n s (vN V 7 k) < needF (V 8) (V 9) k h)
def LL (M : Mem) (V : Vw) (A : Nat → Int32) (n ns : Nat) : Prop := ∀ s, s < ns → ∀ y, y < n → M 81 s y = srcF V A n s y
def sQ (g _i _k : Nat) : Bool := Nat.ble 77 g && Nat.ble g 81
theorem sQ_so {g i k : Nat} (h : sQ g i k = false) : sSo g i k = false := by
  unfold sQ at h
  unfold sSo
  have h2 : ¬ (77 ≤ g ∧ g ≤ 81) := by
    intro a
    rw [Nat.ble_eq_true_of_le a.1, Nat.ble_eq_true_of_le a.2] at h
    cases h
  rw [beq_n (by omega), beq_n (by omega), beq_n (by omega)]
  rfl
theorem sQ_out {g i k : Nat} (h : g < 77 ∨ 81 < g) : sQ g i k = false := by
  unfold sQ
  cases e : Nat.ble 77 g with
  | false => rfl
  | true =>
    cases e2 : Nat.ble g 81 with
    | false => rfl
    | true =>
      have := Nat.le_of_ble_eq_true e
      have := Nat.le_of_ble_eq_true e2
      omega
theorem MD_fr {S : Nat → Nat → Nat → Bool} {M M' : Mem} {V : Vw} {n nh ns : Nat} (h : MD M V n nh ns) (fr : Fr S M M') (hs : ∀ g i k, 73 ≤ g → g ≤ 76 → S g i k = false) : MD M' V n nh ns :=
  ⟨fun j hj => ⟨(fr 73 0 j (hs _ _ _ (by omega) (by omega))).trans (h.1 j hj).1, (fr 74 0 j (hs _ _ _ (by omega) (by omega))).trans (h.1 j hj).2⟩, fun k hk => (fr 75 0 k (hs _ _ _ (by omega) (by omega))).trans (h.2.1 k hk), fun s hs' => (fr 76 0 s (hs _ _ _ (by omega) (by omega))).trans (h.2.2 s hs')⟩
theorem humF_congr {f g : Nat → Int32} (h : ∀ j, j < 24 → f j = g j) (hour : Nat) : ∀ r, humF f hour r = humF g hour r := by
  intro r
  induction r with
  | zero => rfl
  | succ r ih =>
    unfold humF
    rw [h _ (Nat.mod_lt _ (by omega)), ih]
/-- the reference's LAND is laid as V, its AIRS are As -/
def MV (M : Mem) (V : Vw) (As : Nat → Nat → Int32) (n nh ns nw na : Nat) : Prop := VOK V n nh ns nw ∧ MS M V n nh ns nw ∧ MD M V n nh ns ∧ M 40 0 26 = nI na ∧ na ≤ 6 ∧ ∀ a, a < na → MA M a (As a)
theorem MV_fr {S : Nat → Nat → Nat → Bool} {M M' : Mem} {V : Vw} {As : Nat → Nat → Int32} {n nh ns nw na : Nat} (h : MV M V As n nh ns nw na) (fr : Fr S M M') (hs : ∀ g i k, 44 ≤ g → g ≤ 76 → S g i k = false) (h40 : S 40 0 26 = false) : MV M' V As n nh ns nw na :=
  ⟨h.1, MS_fr h.2.1 fr (fun g i k a b => hs g i k a (by omega)), MD_fr h.2.2.1 fr (fun g i k a b => hs g i k (by omega) b), (fr 40 0 26 h40).trans h.2.2.2.1, h.2.2.2.2.1, fun a ha => MA_fr (h.2.2.2.2.2 a ha) fr (fun k => hs 67 a k (by omega) (by omega))⟩
theorem MV_q {M M' : Mem} {V : Vw} {As : Nat → Nat → Int32} {n nh ns nw na : Nat} (h : MV M V As n nh ns nw na) (fr : Fr sQ M M') : MV M' V As n nh ns nw na := MV_fr h fr (fun g i k a b => sQ_out (Or.inl (by omega))) rfl
section
variable (L : Nat) (xs : Nat → Int32) (O : Int64) {V : Vw} {As : Nat → Nat → Int32} {n nh ns nw na : Nat}
theorem x7_soundsOf {D : Nat} (hD : 8 ≤ D) (a s : Nat) (ha : a < na) (hs : s < ns) (M : Mem) (hM : MV M V As n nh ns nw na) :
    isV (EX L xs (D) q_X7_soundsOf [.inr (.inr (40, 0)), .inl (nI a), .inl (nI s)] M O) O (fun M' => Fr sSo M M' ∧ ∀ y, y < n → M' 79 0 y = srcF V (As a) n s y) := by
  obtain ⟨hV, hS, hD', -, h6, hA⟩ := hM
  have vs := (hV.2.2.2.2.2.2.2.2.2.2.2.2.2.1) s hs
  have v7 : ns ≤ 6 := hV.2.2.2.2.2.2.2.1
  obtain ⟨g0, g2, -⟩ := hS.2.2.2.2.2.2.2.1 s hs
  have g76 := hD'.2.2 s hs
  have hin := in_6 (show s < 6 by omega)
  obtain ⟨d, rfl⟩ : ∃ d, D = d + 2 := ⟨D - 2, by omega⟩
  refine isV_e (EX_in mi_X7_soundsOf rfl rfl rfl (ls := [some (.inr (.inr (40, 0))), some (.inl (nI a)), some (.inl (nI s))]) rfl) ?_
  rw [e_X7_soundsOf_0, if_pos hin, if_pos hin, if_pos hin, hl_cl (by omega), Nat.zero_add, g0, g2, g76, vs.1]
  obtain ⟨M1, q1, f1, r1⟩ := x7_sounds L xs O (D := d + 1) (by omega) (up := 1) (lv := V 11 s) (pt := V 12 s) hV a (by omega) M (MG_of hS hD') (hA a ha) vs.2
  rw [q1]
  simp only [xr_n, Nat.reduceAdd, Nat.add_zero]
  rw [e_X7_soundsOf_28]
  exact isV_i ⟨f1, r1⟩
theorem ll_in (d : Nat) (A : Nat → Int32) (a1 : Int32) (s : Nat) (hs : s < 6) (v5 : n ≤ 40) (M0 : Mem) (h0 : M0 44 0 0 = nI n) (hr : ∀ y, y < n → M0 79 0 y = srcF V A n s y) (P : Res → Prop) : ∀ r fuel k j M, j + r = n → r ≤ fuel → Fr (sRow 81 s) M0 M → (∀ y, y < j → M 81 s y = srcF V A n s y) →
    (∀ f' a3 M', fuel ≤ f' + r → Fr (sRow 81 s) M0 M' → (∀ y, y < n → M' 81 s y = srcF V A n s y) → P (RN L xs (d) mi_X7_laysLoud (f') 2 [some (.inr (.inr (40, 0))), some (.inl (a1)), some (.inl (nI (s + 1))), some (.inl (a3))] M' O none 0 0)) →
    P (BK L xs (EX L xs (d + 1)) mi_X7_laysLoud (RN L xs (d) mi_X7_laysLoud fuel) (k + 200) 20 [some (.inr (.inr (40, 0))), some (.inl (a1)), some (.inl (nI s)), some (.inl (nI j))] [] M O none 0 0) := by
  intro r
  induction r with
  | zero =>
    intro fuel k j M hj hf fr h hex
    have h44 : M 44 0 0 = nI n := (fr 44 0 0 rfl).trans h0
    simp (disch := first | omega | rfl | decide) only [e_X7_laysLoud_20, xr_v, xr_n, hl_of, hl_cl, hl_toInt, hl_le, hl_lt, hl_eq, nI_add, hl_sub, pk_mul, hl_div, if_pos, if_neg, ↓reduceIte, Nat.reduceAdd, Nat.reduceSub, Nat.reduceMul, Nat.add_zero, Nat.zero_add, mp_s, mp_k, mp_i, mp_g, mr_s, mr_i, mr_g, zlt_0, zlt_1, zlt_2, zlt_3, zlt_4, zlt_5, zlt_6, zlt_8, zlt_12, zlt_15, zlt_20, zlt_24, zlt_36, zlt_40, zlt_48, zlt_80, zlt_97, zlt_120, zlt_256, zlt_600, zlt_99999999, zadd_1, zadd_2, zadd_5, zadd_6, zadd_8, zadd_20, zadd_24, zeq_0, zeq_1, zeq_2, zeq_3, zeq_4, zeq_5, zeq_6, zeq_7, zeq_8, zeq_13, zeq_14, zeq_20, zeq_32, zeq_59, zeq_60, zeq_80, zmul_2, zmul_4, zmul_6, zmul_8, zmul_10, zmul_24, zsub_1, zsub_2, zsub_10, zsub_48, zsub_97, zle_0, zle_1, zle_2, zle_6, zle_11, zle_200, zle_600, zle_100000000, ylt_0, ylt_1, ylt_2, ylt_3, ylt_6, ylt_9, ylt_20, ylt_24, ylt_57, ylt_60, ylt_99, ylt_120, ylt_122, ylt_999, ylt_9999, yle_0, yle_2, yle_4, yle_5, yle_6, yle_7, yle_8, yle_10, yle_12, yle_13, yle_15, yle_16, yle_20, yle_24, yle_40, yle_60, yle_64, yle_80, yadd_1, yadd_22, ymul_2, ymul_4, ymul_6, ymul_8, ymul_10, ymul_24, ymul_27, ymul_100, ysub_1, ysub_24, zdiv_2, zdiv_4, zdiv_24, h44]
    exact hex fuel _ M (by omega) fr (fun i hi => h i (by omega))
  | succ r ih =>
    intro fuel k j M hj hf fr h hex
    obtain ⟨f, rfl⟩ : ∃ f, fuel = f + 1 := ⟨fuel - 1, by omega⟩
    have h44 : M 44 0 0 = nI n := (fr 44 0 0 rfl).trans h0
    have g79 := (fr 79 0 j rfl).trans (hr j (by omega))
    simp (disch := first | omega | rfl | decide) only [e_X7_laysLoud_20, xr_v, xr_n, hl_of, hl_cl, hl_toInt, hl_le, hl_lt, hl_eq, nI_add, hl_sub, pk_mul, hl_div, if_pos, if_neg, ↓reduceIte, Nat.reduceAdd, Nat.reduceSub, Nat.reduceMul, Nat.add_zero, Nat.zero_add, mp_s, mp_k, mp_i, mp_g, mr_s, mr_i, mr_g, zlt_0, zlt_1, zlt_2, zlt_3, zlt_4, zlt_5, zlt_6, zlt_8, zlt_12, zlt_15, zlt_20, zlt_24, zlt_36, zlt_40, zlt_48, zlt_80, zlt_97, zlt_120, zlt_256, zlt_600, zlt_99999999, zadd_1, zadd_2, zadd_5, zadd_6, zadd_8, zadd_20, zadd_24, zeq_0, zeq_1, zeq_2, zeq_3, zeq_4, zeq_5, zeq_6, zeq_7, zeq_8, zeq_13, zeq_14, zeq_20, zeq_32, zeq_59, zeq_60, zeq_80, zmul_2, zmul_4, zmul_6, zmul_8, zmul_10, zmul_24, zsub_1, zsub_2, zsub_10, zsub_48, zsub_97, zle_0, zle_1, zle_2, zle_6, zle_11, zle_200, zle_600, zle_100000000, ylt_0, ylt_1, ylt_2, ylt_3, ylt_6, ylt_9, ylt_20, ylt_24, ylt_57, ylt_60, ylt_99, ylt_120, ylt_122, ylt_999, ylt_9999, yle_0, yle_2, yle_4, yle_5, yle_6, yle_7, yle_8, yle_10, yle_12, yle_13, yle_15, yle_16, yle_20, yle_24, yle_40, yle_60, yle_64, yle_80, yadd_1, yadd_22, ymul_2, ymul_4, ymul_6, ymul_8, ymul_10, ymul_24, ymul_27, ymul_100, ysub_1, ysub_24, zdiv_2, zdiv_4, zdiv_24, h44, g79]
    refine P_e (RN_s _ _ _ _ _ _ _ _ _ _ _ _) ?_
    refine ih f _ (j + 1) _ (by omega) (by omega) (Fr_put fr (sRow_s _ _ _)) ?_ (fun f' k' M' e => hex f' k' M' (by omega))
    intro i hi
    by_cases e : i = j
    · rw [e, mp_s]
    · rw [mp_k e]
      exact h i (by omega)
theorem sRow_q {s g i k : Nat} (h : sQ g i k = false) : sRow 81 s g i k = false := by
  unfold sRow
  cases e : Nat.beq g 81 with
  | false => rfl
  | true =>
    obtain rfl := Nat.eq_of_beq_eq_true e
    cases h
theorem ll_out (d : Nat) (hd : 8 ≤ d + 1) (a : Nat) (ha : a < na) (M0 : Mem) (hM : MV M0 V As n nh ns nw na) (Q : Mem → Prop) (hQ : ∀ M', Fr sQ M0 M' → LL M' V (As a) n ns → Q M') : ∀ r fuel k s u3 M, s + r = ns → r * 41 ≤ fuel → Fr sQ M0 M → (∀ t, t < s → ∀ y, y < n → M 81 t y = srcF V (As a) n t y) →
    isV (BK L xs (EX L xs (d + 1)) mi_X7_laysLoud (RN L xs (d) mi_X7_laysLoud fuel) (k + 300) 2 [some (.inr (.inr (40, 0))), some (.inl (nI a)), some (.inl (nI s)), u3] [] M O none 0 0) O Q := by
  have v7 : ns ≤ 6 := hM.1.2.2.2.2.2.2.2.1
  have v5 : n ≤ 40 := hM.1.2.2.2.2.2.1
  intro r
  induction r with
  | zero =>
    intro fuel k s u3 M hj hf fr h
    obtain rfl : s = ns := by omega
    have h44 : M 44 0 2 = nI s := (fr 44 0 2 rfl).trans hM.2.1.2.2.1
    rw [e_X7_laysLoud_2, h44, if_pos (by rw [hl_le (by omega) (by omega)]; omega)]
    exact isV_i (hQ M fr h)
  | succ r ih =>
    intro fuel k s u3 M hj hf fr h
    have h44 : M 44 0 2 = nI ns := (fr 44 0 2 rfl).trans hM.2.1.2.2.1
    obtain ⟨M1, q1, f1, r1⟩ := x7_soundsOf L xs O (D := d + 1) (by omega) a s ha (by omega) M (MV_q hM fr)
    have fr1 := Fr_trans fr (Fr_mono (fun _ _ _ => sQ_so) f1)
    rw [e_X7_laysLoud_2, h44, if_neg (by rw [hl_le (by omega) (by omega)]; omega), q1]
    simp only [xr_n, Nat.reduceAdd, Nat.add_zero]
    rw [e_X7_laysLoud_18]
    refine ll_in L xs O d (As a) (nI a) s (by omega) v5 M1 ((fr1 44 0 0 rfl).trans hM.2.1.1) r1 (fun r => isV r O Q) n fuel _ 0 M1 (by omega) (by omega) Fr_refl (fun y hy => absurd hy (by omega)) ?_
    intro f' a3 M' hf' fr' hr'
    obtain ⟨f, rfl⟩ : ∃ f, f' = f + 1 := ⟨f' - 1, by omega⟩
    refine isV_e (RN_s _ _ _ _ _ _ _ _ _ _ _ _) ?_
    refine ih f _ (s + 1) _ M' (by omega) (by omega) (Fr_trans fr1 (Fr_mono (fun _ _ _ => sRow_q) fr')) ?_
    intro t ht y hy
    by_cases e : t = s
    · rw [e]
      exact hr' y hy
    · rw [fr' 81 t y (sRow_i e), f1 81 t y rfl]
      exact h t (by omega) y hy
theorem x7_laysLoud {D : Nat} (hD : 9 ≤ D) (a : Nat) (ha : a < na) (M : Mem) (hM : MV M V As n nh ns nw na) :
    isV (EX L xs (D) q_X7_laysLoud [.inr (.inr (40, 0)), .inl (nI a)] M O) O (fun M' => Fr sQ M M' ∧ LL M' V (As a) n ns) := by
  have v7 : ns ≤ 6 := hM.1.2.2.2.2.2.2.2.1
  obtain ⟨d, rfl⟩ : ∃ d, D = d + 2 := ⟨D - 2, by omega⟩
  refine isV_e (EX_in mi_X7_laysLoud rfl rfl rfl (ls := [some (.inr (.inr (40, 0))), some (.inl (nI a)), none, none]) rfl) ?_
  rw [e_X7_laysLoud_0]
  exact ll_out L xs O d (by omega) a ha M hM _ (fun M' a b => ⟨a, b⟩) ns FUEL _ 0 none M (by omega) (Nat.le_of_lt (FU (by omega))) Fr_refl (fun t ht => absurd ht (by omega))
theorem x7_doesSound {D : Nat} (hD : 2 ≤ D) (s h : Nat) (hs : s < ns) (v7 : ns ≤ 6) (M : Mem) (hS : MS M V n nh ns nw) : EX L xs (D) q_X7_doesSound [.inr (.inr (40, 0)), .inl (nI s), .inl (nI h)] M O = (some (.inl (some (.inl (b2i (sndF V s h)))), M, O, 0, 0) : Res) := by
  have g3 := (hS.2.2.2.2.2.2.2.1 s hs).2.2
  obtain ⟨d, rfl⟩ : ∃ d, D = d + 2 := ⟨D - 2, by omega⟩
  refine (EX_in mi_X7_doesSound rfl rfl rfl (ls := [some (.inr (.inr (40, 0))), some (.inl (nI s)), some (.inl (nI h))]) rfl).trans ?_
  rw [e_X7_doesSound_0, if_pos (in_6 (by omega)), hl_cl (by omega), Nat.zero_add, g3]
  unfold sndF
  by_cases c : (V 13 s >>> (nI h &&& 31)) &&& 1 = 1
  · rw [if_pos c, decide_eq_true c, e_X7_doesSound_21, if_pos (Or.inr rfl), b2i_t]
  · rw [if_neg c, decide_eq_false c, e_X7_doesSound_21, if_pos (Or.inl rfl), b2i_f]
theorem most_l (d : Nat) (hd : 2 ≤ d + 1) (A : Nat → Int32) (v7 : ns ≤ 6) (v5 : n ≤ 40) (y h : Nat) (hy : y < n) (M : Mem) (hS : MS M V n nh ns nw) (hL : LL M V A n ns) : ∀ r fuel k s, s + r = ns → r ≤ fuel →
    BK L xs (EX L xs (d + 1)) mi_X7_most (RN L xs (d) mi_X7_most fuel) (k + 100) 5 [some (.inr (.inr (40, 0))), some (.inl (nI y)), some (.inl (nI h)), some (.inl (mostF V A n h y s)), some (.inl (nI s))] [] M O none 0 0 = (some (.inl (some (.inl (mostF V A n h y ns))), M, O, 0, 0) : Res) := by
  have h44 := hS.2.2.1
  intro r
  induction r with
  | zero =>
    intro fuel k s hj hf
    obtain rfl : s = ns := by omega
    simp (disch := first | omega | rfl | decide) only [e_X7_most_0, e_X7_most_5, e_X7_most_23, e_X7_most_49, xr_v, xr_n, hl_of, hl_cl, hl_toInt, hl_le, hl_lt, hl_eq, nI_add, hl_sub, pk_mul, hl_div, if_pos, if_neg, ↓reduceIte, Nat.reduceAdd, Nat.reduceSub, Nat.reduceMul, Nat.add_zero, Nat.zero_add, mp_s, mp_k, mp_i, mp_g, mr_s, mr_i, mr_g, zlt_0, zlt_1, zlt_2, zlt_3, zlt_4, zlt_5, zlt_6, zlt_8, zlt_12, zlt_15, zlt_20, zlt_24, zlt_36, zlt_40, zlt_48, zlt_80, zlt_97, zlt_120, zlt_256, zlt_600, zlt_99999999, zadd_1, zadd_2, zadd_5, zadd_6, zadd_8, zadd_20, zadd_24, zeq_0, zeq_1, zeq_2, zeq_3, zeq_4, zeq_5, zeq_6, zeq_7, zeq_8, zeq_13, zeq_14, zeq_20, zeq_32, zeq_59, zeq_60, zeq_80, zmul_2, zmul_4, zmul_6, zmul_8, zmul_10, zmul_24, zsub_1, zsub_2, zsub_10, zsub_48, zsub_97, zle_0, zle_1, zle_2, zle_6, zle_11, zle_200, zle_600, zle_100000000, ylt_0, ylt_1, ylt_2, ylt_3, ylt_6, ylt_9, ylt_20, ylt_24, ylt_57, ylt_60, ylt_99, ylt_120, ylt_122, ylt_999, ylt_9999, yle_0, yle_2, yle_4, yle_5, yle_6, yle_7, yle_8, yle_10, yle_12, yle_13, yle_15, yle_16, yle_20, yle_24, yle_40, yle_60, yle_64, yle_80, yadd_1, yadd_22, ymul_2, ymul_4, ymul_6, ymul_8, ymul_10, ymul_24, ymul_27, ymul_100, ysub_1, ysub_24, zdiv_2, zdiv_4, zdiv_24, h44]
  | succ r ih =>
    intro fuel k s hj hf
    obtain ⟨f, rfl⟩ : ∃ f, fuel = f + 1 := ⟨fuel - 1, by omega⟩
    have q1 := x7_doesSound L xs O (D := d + 1) (by omega) s h (by omega) v7 M hS
    have g81 := hL s (by omega) y hy
    have ih' := ih f 2900 (s + 1) (by omega) (by omega)
    have hm : mostF V A n h y (s + 1) = if sndF V s h = true then imax (mostF V A n h y s) (srcF V A n s y) else mostF V A n h y s := rfl
    cases c : sndF V s h with
    | false =>
      rw [c, b2i_f] at q1
      rw [hm, c, if_neg Bool.false_ne_true] at ih'
      simp (disch := first | omega | rfl | decide) only [e_X7_most_0, e_X7_most_5, e_X7_most_23, e_X7_most_49, xr_v, xr_n, hl_of, hl_cl, hl_toInt, hl_le, hl_lt, hl_eq, nI_add, hl_sub, pk_mul, hl_div, if_pos, if_neg, ↓reduceIte, Nat.reduceAdd, Nat.reduceSub, Nat.reduceMul, Nat.add_zero, Nat.zero_add, mp_s, mp_k, mp_i, mp_g, mr_s, mr_i, mr_g, zlt_0, zlt_1, zlt_2, zlt_3, zlt_4, zlt_5, zlt_6, zlt_8, zlt_12, zlt_15, zlt_20, zlt_24, zlt_36, zlt_40, zlt_48, zlt_80, zlt_97, zlt_120, zlt_256, zlt_600, zlt_99999999, zadd_1, zadd_2, zadd_5, zadd_6, zadd_8, zadd_20, zadd_24, zeq_0, zeq_1, zeq_2, zeq_3, zeq_4, zeq_5, zeq_6, zeq_7, zeq_8, zeq_13, zeq_14, zeq_20, zeq_32, zeq_59, zeq_60, zeq_80, zmul_2, zmul_4, zmul_6, zmul_8, zmul_10, zmul_24, zsub_1, zsub_2, zsub_10, zsub_48, zsub_97, zle_0, zle_1, zle_2, zle_6, zle_11, zle_200, zle_600, zle_100000000, ylt_0, ylt_1, ylt_2, ylt_3, ylt_6, ylt_9, ylt_20, ylt_24, ylt_57, ylt_60, ylt_99, ylt_120, ylt_122, ylt_999, ylt_9999, yle_0, yle_2, yle_4, yle_5, yle_6, yle_7, yle_8, yle_10, yle_12, yle_13, yle_15, yle_16, yle_20, yle_24, yle_40, yle_60, yle_64, yle_80, yadd_1, yadd_22, ymul_2, ymul_4, ymul_6, ymul_8, ymul_10, ymul_24, ymul_27, ymul_100, ysub_1, ysub_24, zdiv_2, zdiv_4, zdiv_24, h44, q1]
      exact RN_of ih'
    | true =>
      rw [c, b2i_t] at q1
      rw [hm, c, if_pos rfl] at ih'
      by_cases c2 : srcF V A n s y ≤ mostF V A n h y s
      · rw [show imax (mostF V A n h y s) (srcF V A n s y) = mostF V A n h y s from if_neg (nlt_le c2)] at ih'
        simp (disch := first | omega | rfl | decide) only [e_X7_most_0, e_X7_most_5, e_X7_most_23, e_X7_most_49, xr_v, xr_n, hl_of, hl_cl, hl_toInt, hl_le, hl_lt, hl_eq, nI_add, hl_sub, pk_mul, hl_div, if_pos, if_neg, ↓reduceIte, Nat.reduceAdd, Nat.reduceSub, Nat.reduceMul, Nat.add_zero, Nat.zero_add, mp_s, mp_k, mp_i, mp_g, mr_s, mr_i, mr_g, zlt_0, zlt_1, zlt_2, zlt_3, zlt_4, zlt_5, zlt_6, zlt_8, zlt_12, zlt_15, zlt_20, zlt_24, zlt_36, zlt_40, zlt_48, zlt_80, zlt_97, zlt_120, zlt_256, zlt_600, zlt_99999999, zadd_1, zadd_2, zadd_5, zadd_6, zadd_8, zadd_20, zadd_24, zeq_0, zeq_1, zeq_2, zeq_3, zeq_4, zeq_5, zeq_6, zeq_7, zeq_8, zeq_13, zeq_14, zeq_20, zeq_32, zeq_59, zeq_60, zeq_80, zmul_2, zmul_4, zmul_6, zmul_8, zmul_10, zmul_24, zsub_1, zsub_2, zsub_10, zsub_48, zsub_97, zle_0, zle_1, zle_2, zle_6, zle_11, zle_200, zle_600, zle_100000000, ylt_0, ylt_1, ylt_2, ylt_3, ylt_6, ylt_9, ylt_20, ylt_24, ylt_57, ylt_60, ylt_99, ylt_120, ylt_122, ylt_999, ylt_9999, yle_0, yle_2, yle_4, yle_5, yle_6, yle_7, yle_8, yle_10, yle_12, yle_13, yle_15, yle_16, yle_20, yle_24, yle_40, yle_60, yle_64, yle_80, yadd_1, yadd_22, ymul_2, ymul_4, ymul_6, ymul_8, ymul_10, ymul_24, ymul_27, ymul_100, ysub_1, ysub_24, zdiv_2, zdiv_4, zdiv_24, h44, q1, g81, c2]
        exact RN_of ih'
      · rw [show imax (mostF V A n h y s) (srcF V A n s y) = srcF V A n s y from if_pos (lt_nle c2)] at ih'
        simp (disch := first | omega | rfl | decide) only [e_X7_most_0, e_X7_most_5, e_X7_most_23, e_X7_most_49, xr_v, xr_n, hl_of, hl_cl, hl_toInt, hl_le, hl_lt, hl_eq, nI_add, hl_sub, pk_mul, hl_div, if_pos, if_neg, ↓reduceIte, Nat.reduceAdd, Nat.reduceSub, Nat.reduceMul, Nat.add_zero, Nat.zero_add, mp_s, mp_k, mp_i, mp_g, mr_s, mr_i, mr_g, zlt_0, zlt_1, zlt_2, zlt_3, zlt_4, zlt_5, zlt_6, zlt_8, zlt_12, zlt_15, zlt_20, zlt_24, zlt_36, zlt_40, zlt_48, zlt_80, zlt_97, zlt_120, zlt_256, zlt_600, zlt_99999999, zadd_1, zadd_2, zadd_5, zadd_6, zadd_8, zadd_20, zadd_24, zeq_0, zeq_1, zeq_2, zeq_3, zeq_4, zeq_5, zeq_6, zeq_7, zeq_8, zeq_13, zeq_14, zeq_20, zeq_32, zeq_59, zeq_60, zeq_80, zmul_2, zmul_4, zmul_6, zmul_8, zmul_10, zmul_24, zsub_1, zsub_2, zsub_10, zsub_48, zsub_97, zle_0, zle_1, zle_2, zle_6, zle_11, zle_200, zle_600, zle_100000000, ylt_0, ylt_1, ylt_2, ylt_3, ylt_6, ylt_9, ylt_20, ylt_24, ylt_57, ylt_60, ylt_99, ylt_120, ylt_122, ylt_999, ylt_9999, yle_0, yle_2, yle_4, yle_5, yle_6, yle_7, yle_8, yle_10, yle_12, yle_13, yle_15, yle_16, yle_20, yle_24, yle_40, yle_60, yle_64, yle_80, yadd_1, yadd_22, ymul_2, ymul_4, ymul_6, ymul_8, ymul_10, ymul_24, ymul_27, ymul_100, ysub_1, ysub_24, zdiv_2, zdiv_4, zdiv_24, h44, q1, g81, c2]
        exact RN_of ih'
theorem x7_most {D : Nat} (hD : 3 ≤ D) (A : Nat → Int32) (v7 : ns ≤ 6) (v5 : n ≤ 40) (y h : Nat) (hy : y < n) (M : Mem) (hS : MS M V n nh ns nw) (hL : LL M V A n ns) : EX L xs (D) q_X7_most [.inr (.inr (40, 0)), .inl (nI y), .inl (nI h)] M O = (some (.inl (some (.inl (mostF V A n h y ns))), M, O, 0, 0) : Res) := by
  obtain ⟨d, rfl⟩ : ∃ d, D = d + 2 := ⟨D - 2, by omega⟩
  refine (EX_in mi_X7_most rfl rfl rfl (ls := [some (.inr (.inr (40, 0))), some (.inl (nI y)), some (.inl (nI h)), none, none]) rfl).trans ?_
  rw [e_X7_most_0]
  exact most_l L xs O d (by omega) A v7 v5 y h hy M hS hL ns FUEL _ 0 (by omega) (Nat.le_of_lt (FU (by omega)))
theorem x7_needs {D : Nat} (hD : 3 ≤ D) (k h : Nat) (hk : k < nh) (hh : h < 24) (v6 : nh ≤ 8) (M : Mem) (hS : MS M V n nh ns nw) (hD' : MD M V n nh ns) : EX L xs (D) q_X7_needs [.inr (.inr (40, 0)), .inl (nI k), .inl (nI h)] M O = (some (.inl (some (.inl (needF (V 8) (V 9) k h))), M, O, 0, 0) : Res) := by
  have g75 := hD'.2.1 k hk
  obtain ⟨d, rfl⟩ : ∃ d, D = d + 2 := ⟨D - 2, by omega⟩
  refine (EX_in mi_X7_needs rfl rfl rfl (ls := [some (.inr (.inr (40, 0))), some (.inl (nI k)), some (.inl (nI h)), none]) rfl).trans ?_
  have q := x7_humOf L xs O (D := d + 1) (by omega) h hh M
  rw [humF_congr hS.2.2.2.2.2.2.1] at q
  rw [e_X7_needs_0, if_pos (in_8 (by omega)), hl_cl (by omega), g75, q]
  simp only [xr_v, Nat.reduceAdd, Nat.add_zero]
  rw [e_X7_needs_11]
  unfold needF
  by_cases c : V 8 k + humF (V 9) h 24 ≤ 1
  · rw [if_pos c, if_neg (nlt_le c), e_X7_needs_23]
  · rw [if_neg c, if_pos (lt_nle c), e_X7_needs_23]
theorem x7_hearsAny {D : Nat} (hD : 4 ≤ D) (A : Nat → Int32) (k h : Nat) (hk : k < nh) (hh : h < 24) (M : Mem) (hM : MV M V As n nh ns nw na) (hL : LL M V A n ns) : EX L xs (D) q_X7_hearsAny [.inr (.inr (40, 0)), .inl (nI k), .inl (nI h)] M O = (some (.inl (some (.inl (b2i (hearF V A n ns h k)))), M, O, 0, 0) : Res) := by
  obtain ⟨hV, hS, hD', -, -, -⟩ := hM
  have v5 : n ≤ 40 := hV.2.2.2.2.2.1
  have v6 : nh ≤ 8 := hV.2.2.2.2.2.2.1
  have v7 : ns ≤ 6 := hV.2.2.2.2.2.2.2.1
  have vc := hV.2.2.2.2.2.2.2.2.2.2.2.2.1 k hk
  have g56 := hS.2.2.2.2.2.1 k hk
  obtain ⟨d, rfl⟩ : ∃ d, D = d + 2 := ⟨D - 2, by omega⟩
  refine (EX_in mi_X7_hearsAny rfl rfl rfl (ls := [some (.inr (.inr (40, 0))), some (.inl (nI k)), some (.inl (nI h))]) rfl).trans ?_
  rw [e_X7_hearsAny_0, if_pos (in_8 (by omega)), hl_cl (by omega), Nat.zero_add, g56, vc.1, x7_most L xs O (D := d + 1) (by omega) A v7 v5 _ h vc.2 M hS hL]
  simp only [xr_v, Nat.reduceAdd, Nat.add_zero]
  rw [e_X7_hearsAny_13, x7_needs L xs O (D := d + 1) (by omega) k h hk hh v6 M hS hD']
  simp only [xr_v, Nat.reduceAdd, Nat.add_zero]
  rw [e_X7_hearsAny_19]
  unfold hearF
  by_cases c : mostF V A n h (vN V 7 k) ns < needF (V 8) (V 9) k h
  · rw [if_pos c, decide_eq_false (fun e => e c), e_X7_hearsAny_27, if_pos (Or.inl rfl), b2i_f]
  · rw [if_neg c, decide_eq_true c, e_X7_hearsAny_27, if_pos (Or.inr rfl), b2i_t]
theorem x7_hearsOne {D : Nat} (hD : 4 ≤ D) (A : Nat → Int32) (k s h : Nat) (hk : k < nh) (hs : s < ns) (hh : h < 24) (M : Mem) (hM : MV M V As n nh ns nw na) (hL : LL M V A n ns) : EX L xs (D) q_X7_hearsOne [.inr (.inr (40, 0)), .inl (nI k), .inl (nI s), .inl (nI h)] M O = (some (.inl (some (.inl (b2i (oneF V A n h k s)))), M, O, 0, 0) : Res) := by
  obtain ⟨hV, hS, hD', -, -, -⟩ := hM
  have v5 : n ≤ 40 := hV.2.2.2.2.2.1
  have v6 : nh ≤ 8 := hV.2.2.2.2.2.2.1
  have v7 : ns ≤ 6 := hV.2.2.2.2.2.2.2.1
  have vc := hV.2.2.2.2.2.2.2.2.2.2.2.2.1 k hk
  have g56 := hS.2.2.2.2.2.1 k hk
  have g81 := hL s hs _ vc.2
  obtain ⟨d, rfl⟩ : ∃ d, D = d + 2 := ⟨D - 2, by omega⟩
  refine (EX_in mi_X7_hearsOne rfl rfl rfl (ls := [some (.inr (.inr (40, 0))), some (.inl (nI k)), some (.inl (nI s)), some (.inl (nI h))]) rfl).trans ?_
  rw [e_X7_hearsOne_0, x7_doesSound L xs O (D := d + 1) (by omega) s h hs v7 M hS]
  simp only [xr_v, Nat.reduceAdd, Nat.add_zero]
  unfold oneF
  cases c : sndF V s h with
  | false =>
    rw [b2i_f, e_X7_hearsOne_6, if_pos rfl, e_X7_hearsOne_37, e_X7_hearsOne_38, if_pos (Or.inl rfl), Bool.false_and, b2i_f]
  | true =>
    rw [b2i_t, e_X7_hearsOne_6, if_neg (by decide), if_pos (in_6 (by omega)), if_pos (in_8 (by omega)), hl_cl (by omega), hl_cl (by omega), Nat.zero_add, Nat.zero_add, g56, vc.1, if_pos (in_40 (by omega)), hl_cl (by omega), g81, x7_needs L xs O (D := d + 1) (by omega) k h hk hh v6 M hS hD']
    simp only [xr_v, Nat.reduceAdd, Nat.add_zero]
    rw [e_X7_hearsOne_30, Bool.true_and]
    by_cases c : srcF V A n s (vN V 7 k) < needF (V 8) (V 9) k h
    · rw [if_pos c, decide_eq_false (fun e => e c), e_X7_hearsOne_37, e_X7_hearsOne_38, if_pos (Or.inl rfl), b2i_f]
    · rw [if_neg c, decide_eq_true c, e_X7_hearsOne_38, if_pos (Or.inr rfl), b2i_t]
end
