/-! BELL: a RAY is never louder than what the air alone leaves. -/
def dblN : Nat → Nat
  | 0 => 0
  | i + 1 => if nI (i + 1) &&& (nI (i + 1) - 1) = 0 then dblN i + 1 else dblN i
def eatN (p i : Nat) : Nat := p * i + 6 * dblN i
theorem dbl_s (i : Nat) : dblN (i + 1) = if nI (i + 1) &&& (nI (i + 1) - 1) = 0 then dblN i + 1 else dblN i := rfl
theorem dbl_c : ∀ t, t < 40 → ∀ j, j < 7 → (j = 0 ∨ 2 ^ (j - 1) ≤ t) → t < 2 ^ j → dblN t = j := by decide +kernel
theorem abs_d : ∀ x, x < 40 → ∀ y, y < 40 → (if (0 : Int32) ≤ nI y - nI x then nI y - nI x else 0 - (nI y - nI x)) = nI (dist x y) := by decide +kernel
theorem far_d : ∀ x, x < 40 → ∀ y, y < 40 → (if nI y ≤ nI x then nI x - nI y else nI y - nI x) = nI (dist x y) := by decide +kernel
theorem ge_n : ∀ k, k < 4 → ∃ g, g ≤ 9 ∧ geats k = nI g := by
  intro k hk
  obtain rfl | rfl | rfl | rfl : k = 0 ∨ k = 1 ∨ k = 2 ∨ k = 3 := by omega
  · exact ⟨3, by omega, rfl⟩
  · exact ⟨6, by omega, rfl⟩
  · exact ⟨0, by omega, rfl⟩
  · exact ⟨9, by omega, rfl⟩
theorem sub2 {q g e : Nat} (hq : q ≤ 1000) (hg : g ≤ 1000) (he : e ≤ 1000) (h : 0 < nI q - nI g - nI e) : g + e < q ∧ nI q - nI g - nI e = nI (q - (g + e)) := by
  have e1 : nI q - nI g - nI e = nI q - nI (g + e) := by
    rw [← nI_add]
    exact Int32.sub_sub (a := nI q) (b := nI g) (c := nI e)
  rw [e1] at h ⊢
  rw [i_lt, pk_sub_toInt (by omega) (by omega)] at h
  have e0 : (0 : Int32).toInt = 0 := by decide
  have h2 : g + e < q := by omega
  exact ⟨h2, hl_sub (by omega)⟩
theorem ray_le {V : Vw} {A : Nat → Int32} {n x nh ns nw : Nat} {up : Int32} {l p : Nat} (hV : VOK V n nh ns nw) (hx : x < n) (hl : l ≤ 120) (hp : p ≤ 3) (rt : Bool) (s0 : Int32) : ∀ i z, rayF V A n x up (nI l) (nI p) rt s0 i = some z → ∃ q, z.2.2 = nI q ∧ 1 ≤ q ∧ q + eatN p i ≤ l := by
  intro i
  induction i with
  | zero =>
    intro z h
    unfold rayF at h
    by_cases c : 0 < nI l
    · rw [if_pos c] at h
      cases h
      rw [ylt_0 (by omega)] at c
      exact ⟨l, rfl, by omega, by unfold eatN dblN; omega⟩
    · rw [if_neg c] at h
      cases h
  | succ i ih =>
    intro z h
    have h' : (rayF V A n x up (nI l) (nI p) rt s0 i).bind (fun z => (yAt n rt x (i + 1)).bind fun y => rStep V A (twI rt) (nI p) y (nI (i + 1)) z) = some z := h
    cases hz : rayF V A n x up (nI l) (nI p) rt s0 i with
    | none =>
      rw [hz] at h'
      cases h'
    | some z0 =>
      obtain ⟨q, hq, hq1, hq2⟩ := ih z0 hz
      rw [hz] at h'
      have h2 : (yAt n rt x (i + 1)).bind (fun y => rStep V A (twI rt) (nI p) y (nI (i + 1)) z0) = some z := h'
      cases hy : yAt n rt x (i + 1) with
      | none =>
        rw [hy] at h2
        cases h2
      | some y =>
        rw [hy] at h2
        have h3 : rStep V A (twI rt) (nI p) y (nI (i + 1)) z0 = some z := h2
        have hyn := yAt_lt hx hy
        obtain ⟨e, he, hee, hes⟩ : ∃ e, e ≤ 9 ∧ rEat (nI p) (nI (i + 1)) = nI e ∧ eatN p (i + 1) = eatN p i + e := by
          unfold rEat eatN
          rw [dbl_s]
          have hm : p * (i + 1) = p * i + p := Nat.mul_succ p i
          by_cases c : nI (i + 1) &&& (nI (i + 1) - 1) = 0
          · rw [if_pos c, if_pos c]
            exact ⟨p + 6, by omega, zadd_6 p, by omega⟩
          · rw [if_neg c, if_neg c]
            exact ⟨p, by omega, rfl, by omega⟩
        have key : ∀ g, g ≤ 9 → ∀ pl s, rEnd V A (twI rt) (nI p) y (nI (i + 1)) pl s (nI q - nI g) = some z → ∃ q, z.2.2 = nI q ∧ 1 ≤ q ∧ q + eatN p (i + 1) ≤ l := by
          intro g hg pl s hE
          obtain ⟨hE1, hE2⟩ := rEnd_p hE
          rw [hee] at hE1 hE2
          obtain ⟨a, b⟩ := sub2 (by omega) (by omega) (by omega) hE2
          refine ⟨q - (g + e), ?_, by omega, by omega⟩
          rw [hE1]
          exact b
        unfold rStep at h3
        by_cases c : V 5 y < z0.1 + z0.2.1
        · rw [if_pos c, hq] at h3
          rw [show nI q = nI q - nI 0 from (hl_sub (a := q) (b := 0) (by omega)).symm] at h3
          exact key 0 (by omega) _ _ h3
        · rw [if_neg c, hq] at h3
          obtain ⟨g, hg, hge⟩ := ge_n _ (hV.2.2.2.2.2.2.2.2.2.1 y hyn).2
          rw [hge] at h3
          exact key g hg _ _ h3
theorem acc_le {V : Vw} {A : Nat → Int32} {n x : Nat} {up lv pt : Int32} {rt : Bool} {i B : Nat} (h : ∀ j, (cF V A n x up lv pt rt i j).toInt ≤ (B : Int)) : ∀ j, (accF V A n x up lv pt rt i j).toInt ≤ (B : Int) := by
  intro j
  induction j with
  | zero =>
    have e0 : (0 : Int32).toInt = 0 := by decide
    show (0 : Int32).toInt ≤ _
    omega
  | succ j ih =>
    show (imax _ _).toInt ≤ _
    unfold imax
    split
    · exact h j
    · exact ih
theorem loud_le {V : Vw} {A : Nat → Int32} {n x nh ns nw : Nat} {up : Int32} {l p : Nat} (hV : VOK V n nh ns nw) (hx : x < n) (hl : l ≤ 120) (hp : p ≤ 3) (y : Nat) : (loudF V A n x up (nI l) (nI p) y).toInt ≤ ((l - eatN p (dist x y) : Nat) : Int) := by
  unfold loudF rowF
  by_cases e : y = x
  · rw [if_pos e, e, hl_toInt (by omega)]
    have : dist x x = 0 := by unfold dist; split <;> omega
    rw [this]
    unfold eatN dblN
    omega
  · rw [if_neg e]
    refine acc_le (fun j => ?_) 10
    unfold cF
    cases hz : rayF V A n x up (nI l) (nI p) (sd x y) (slI j) (dist x y) with
    | none =>
      have e0 : (0 : Int32).toInt = 0 := by decide
      show (0 : Int32).toInt ≤ _
      omega
    | some z =>
      obtain ⟨q, hq, hq1, hq2⟩ := ray_le hV hx hl hp _ _ _ _ hz
      show (if 2 < z.1 - _ then (0 : Int32) else z.2.2).toInt ≤ _
      split
      · have e0 : (0 : Int32).toInt = 0 := by decide
        omega
      · rw [hq, hl_toInt (by omega)]
        omega
theorem need_1 (ears hums : Nat → Int32) (k h : Nat) : 1 ≤ (needF ears hums k h).toInt := by
  have e1 : (1 : Int32).toInt = 1 := by decide
  unfold needF
  split
  · rename_i c
    rw [i_lt] at c
    omega
  · omega
def allB (R : Nat → Int32) (V : Vw) (h : Nat) (hs : Int32) : Nat → Bool
  | 0 => true
  | k + 1 => allB R V h hs k && (!bitB hs k || decide (needF (V 8) (V 9) k h ≤ R (vN V 7 k)))
def mayB (V : Vw) (l p x h : Nat) (hs : Int32) : Nat → Bool
  | 0 => true
  | k + 1 => mayB V l p x h hs k && (!bitB hs k || decide (needF (V 8) (V 9) k h ≤ nI l - nI (eatN p (dist x (vN V 7 k)))))
theorem allB_f {R : Nat → Int32} {V : Vw} {h : Nat} {hs : Int32} {j : Nat} (e : allB R V h hs j = false) : ∀ r, allB R V h hs (j + r) = false := by
  intro r
  induction r with
  | zero => exact e
  | succ r ih =>
    show (allB R V h hs (j + r) && _) = false
    rw [ih, Bool.false_and]
theorem mayB_f {V : Vw} {l p x h : Nat} {hs : Int32} {j : Nat} (e : mayB V l p x h hs j = false) : ∀ r, mayB V l p x h hs (j + r) = false := by
  intro r
  induction r with
  | zero => exact e
  | succ r ih =>
    show (mayB V l p x h hs (j + r) && _) = false
    rw [ih, Bool.false_and]
theorem dist_lt {x y n : Nat} (hx : x < n) (hy : y < n) : dist x y < n := by
  unfold dist
  split <;> omega
theorem dbl_le : ∀ t, t < 40 → dblN t ≤ 6 := by decide +kernel
theorem may_all {V : Vw} {A : Nat → Int32} {n x nh ns nw h : Nat} {up : Int32} {l p : Nat} {hs : Int32} (hV : VOK V n nh ns nw) (hx : x < n) (hl : l ≤ 120) (hp : p ≤ 3) : ∀ j, j ≤ nh → mayB V l p x h hs j = false → allB (loudF V A n x up (nI l) (nI p)) V h hs j = false := by
  have v5 : n ≤ 40 := hV.2.2.2.2.2.1
  intro j
  induction j with
  | zero => intro _ e; cases e
  | succ j ih =>
    intro hj e
    unfold mayB at e
    unfold allB
    rw [Bool.and_eq_false_iff] at e ⊢
    rcases e with e | e
    · exact Or.inl (ih (by omega) e)
    · right
      rw [Bool.or_eq_false_iff] at e ⊢
      refine ⟨e.1, decide_eq_false (fun h1 => ?_)⟩
      have vc := (hV.2.2.2.2.2.2.2.2.2.2.2.2.1 j (by omega)).2
      have h2 := of_decide_eq_false e.2
      have h3 := loud_le (A := A) (up := up) hV hx hl hp (vN V 7 j)
      have h4 := need_1 (V 8) (V 9) j h
      have h5 := dist_lt hx vc
      have h6 := dbl_le (dist x (vN V 7 j)) (by omega)
      have h7 : eatN p (dist x (vN V 7 j)) ≤ 3 * 40 + 36 := by
        unfold eatN
        have := Nat.mul_le_mul hp (show dist x (vN V 7 j) ≤ 40 by omega)
        omega
      rw [i_le] at h1 h2
      rw [pk_sub_toInt (by omega) (by omega)] at h2
      omega
section
variable (L : Nat) (xs : Nat → Int32) (O : Int64)
theorem x6_airEats {D : Nat} (hD : 2 ≤ D) (p t : Nat) (ht : t < 40) (M : Mem) : EX L xs (D) q_X6_airEats [.inl (nI p), .inl (nI t)] M O = (some (.inl (some (.inl (nI (eatN p t)))), M, O, 0, 0) : Res) := by
  obtain ⟨d, rfl⟩ : ∃ d, D = d + 2 := ⟨D - 2, by omega⟩
  refine (EX_in mi_X6_airEats rfl rfl rfl (ls := [some (.inl (nI p)), some (.inl (nI t)), none, none]) rfl).trans ?_
  rw [e_X6_airEats_0]
  have fin : ∀ f k j, j < 7 → (j = 0 ∨ 2 ^ (j - 1) ≤ t) → t < 2 ^ j → BK L xs (EX L xs (d + 1)) mi_X6_airEats (RN L xs (d) mi_X6_airEats f) (k + 60) 25 [some (.inl (nI p)), some (.inl (nI t)), some (.inl (nI j)), some (.inl (nI (2 ^ j)))] [] M O none 0 0 = (some (.inl (some (.inl (nI (eatN p t)))), M, O, 0, 0) : Res) := by
    intro f k j hj h1 h2
    rw [e_X6_airEats_25, pk_mul, ymul_6, nI_add]
    unfold eatN
    rw [dbl_c t ht j hj h1 h2]
  refine loopA L xs O (P := fun r => r = (some (.inl (some (.inl (nI (eatN p t)))), M, O, 0, 0) : Res)) (fun j ls M' => ls = [some (.inl (nI p)), some (.inl (nI t)), some (.inl (nI j)), some (.inl (nI (2 ^ j)))] ∧ (j = 0 ∨ 2 ^ (j - 1) ≤ t) ∧ M' = M) 6 100 (by omega) ?_ ?_ (Nat.le_of_lt (FU (by omega))) ⟨rfl, Or.inl rfl, rfl⟩
  · rintro f k j _ M' hj ⟨rfl, h1, e⟩ ih
    rw [e]
    have hp : 2 ^ j ≤ 32 := Nat.pow_le_pow_right (by omega) (show j ≤ 5 by omega)
    have hp2 : 2 ^ (j + 1) = 2 ^ j * 2 := Nat.pow_succ 2 j
    by_cases c : t < 2 ^ j
    · rw [e_X6_airEats_4, if_pos (by rw [hl_lt (by omega) (by omega)]; exact c)]
      exact fin f _ j (by omega) h1 c
    · rw [e_X6_airEats_4, if_neg (by rw [hl_lt (by omega) (by omega)]; exact c), if_neg (by rw [yle_40 (by omega)]; omega), zadd_1, zmul_2, ← hp2]
      exact ih _ _ ⟨rfl, Or.inr (by rw [show j + 1 - 1 = j by omega]; omega), rfl⟩
  · rintro f k _ M' ⟨rfl, h1, e⟩
    rw [e, e_X6_airEats_4, if_pos (by rw [hl_lt (by omega) (by decide)]; omega)]
    exact fin f _ 6 (by omega) h1 (by omega)
theorem x6_mayReach {M0 : Mem} {V : Vw} {As : Nat → Nat → Int32} {n nh ns nw na : Nat} {D : Nat} (hD : 4 ≤ D) (x l p h : Nat) (hs : Int32) (hx : x < n) (hh : h < 24) (M : Mem) (hM : CQ M0 V As n nh ns nw na M) : EX L xs (D) q_X6_mayReach [.inr (.inr (0, 0)), .inl (nI x), .inl (nI l), .inl (nI p), .inl (nI h), .inl (hs)] M O = (some (.inl (some (.inl (b2i (mayB V l p x h hs nh)))), M, O, 0, 0) : Res) := by
  have hV := hM.2.1
  have v5 : n ≤ 40 := hV.2.2.2.2.2.1
  have v6 : nh ≤ 8 := hV.2.2.2.2.2.2.1
  have v7 : ns ≤ 6 := hV.2.2.2.2.2.2.2.1
  have v8 : nw ≤ 8 := hV.2.2.2.2.2.2.2.2.1
  have h6 : na ≤ 6 := hM.2.2.2.2.1
  have g0 := (hM.2.2.1 3 0 rfl).trans hV.1
  have g4 := (hM.2.2.1 3 4 rfl).trans hV.2.1
  have g8 := (hM.2.2.1 3 8 rfl).trans hV.2.2.1
  have g13 := (hM.2.2.1 3 13 rfl).trans hV.2.2.2.1
  have g6 := hM.2.2.2.1
  obtain ⟨d, rfl⟩ : ∃ d, D = d + 2 := ⟨D - 2, by omega⟩
  refine (EX_in mi_X6_mayReach rfl rfl rfl (ls := [some (.inr (.inr (0, 0))), some (.inl (nI x)), some (.inl (nI l)), some (.inl (nI p)), some (.inl (nI h)), some (.inl (hs)), none, none]) rfl).trans ?_
  rw [e_X6_mayReach_0]
  refine loopA L xs O (P := fun r => r = (some (.inl (some (.inl (b2i (mayB V l p x h hs nh)))), M, O, 0, 0) : Res)) (fun j ls M' => ∃ u7, ls = [some (.inr (.inr (0, 0))), some (.inl (nI x)), some (.inl (nI l)), some (.inl (nI p)), some (.inl (nI h)), some (.inl (hs)), some (.inl (nI j)), u7] ∧ mayB V l p x h hs j = true ∧ M' = M) nh 100 (by omega) ?_ ?_ (Nat.le_of_lt (FU (by omega))) ⟨_, rfl, rfl, rfl⟩
  · rintro f k j _ M' hj ⟨u7, rfl, hb, e⟩ ih
    rw [e]
    have vc := hV.2.2.2.2.2.2.2.2.2.2.2.2.1 j hj
    have vc2 := vc.2
    have g7 := (hM.2.2.1 7 j (decide_eq_true (show j < 8 by omega))).trans vc.1
    have q1 := x6_bit L xs O (D := d + 1) (by omega) hs j M
    have ea := abs_d x (by omega) (vN V 7 j) (by omega)
    have hs1 : mayB V l p x h hs (j + 1) = (mayB V l p x h hs j && (!bitB hs j || decide (needF (V 8) (V 9) j h ≤ nI l - nI (eatN p (dist x (vN V 7 j)))))) := rfl
    rw [hb, Bool.true_and] at hs1
    rw [e_X6_mayReach_3, g4, if_neg (by rw [hl_le (by omega) (by omega)]; omega), if_pos (in_8 (by omega)), hl_cl (by omega), g7, ea, e_X6_mayReach_30, q1]
    simp only [xr_v, Nat.reduceAdd, Nat.add_zero]
    rw [e_X6_mayReach_39]
    cases c : bitB hs j with
    | false =>
      rw [c] at hs1
      rw [b2i_f, if_pos rfl, e_X6_mayReach_66, zadd_1]
      exact ih _ _ ⟨_, rfl, hs1, rfl⟩
    | true =>
      rw [c] at hs1
      have hd1 := dist_lt hx vc2
      rw [b2i_t, if_neg (by decide), x6_airEats L xs O (D := d + 1) (by omega) p _ (show dist x (vN V 7 j) < 40 by omega) M]
      simp only [xr_v, Nat.reduceAdd, Nat.add_zero]
      rw [e_X6_mayReach_49, x1_need L xs O (D := d + 1) (by omega) 2 j h (by omega) hh M hM.2.2.1]
      simp only [xr_v, Nat.reduceAdd, Nat.add_zero]
      rw [e_X6_mayReach_61]
      by_cases c2 : needF (V 8) (V 9) j h ≤ nI l - nI (eatN p (dist x (vN V 7 j)))
      · rw [if_pos c2, e_X6_mayReach_66, zadd_1]
        exact ih _ _ ⟨_, rfl, hs1.trans (by rw [decide_eq_true c2]; rfl), rfl⟩
      · rw [if_neg c2]
        have h3 := mayB_f (hs1.trans (by rw [decide_eq_false c2]; rfl)) (nh - (j + 1))
        rw [show j + 1 + (nh - (j + 1)) = nh by omega] at h3
        rw [h3]
        rfl
  · rintro f k _ M' ⟨u7, rfl, hb, e⟩
    rw [e, e_X6_mayReach_3, g4, if_pos (by rw [hl_le (by omega) (by omega)]; omega), hb]
    rfl
theorem x6_allHear {M0 : Mem} {V : Vw} {As : Nat → Nat → Int32} {n nh ns nw na : Nat} {D : Nat} (hD : 4 ≤ D) (h : Nat) (hs : Int32) (R : Nat → Int32) (hh : h < 24) (M : Mem) (hM : CQ M0 V As n nh ns nw na M) (hR : ∀ y, y < 40 → M 29 0 y = R y) : EX L xs (D) q_X6_allHear [.inr (.inr (0, 0)), .inr (.inr (29, 0)), .inl (nI h), .inl (hs)] M O = (some (.inl (some (.inl (b2i (allB R V h hs nh)))), M, O, 0, 0) : Res) := by
  have hV := hM.2.1
  have v5 : n ≤ 40 := hV.2.2.2.2.2.1
  have v6 : nh ≤ 8 := hV.2.2.2.2.2.2.1
  have v7 : ns ≤ 6 := hV.2.2.2.2.2.2.2.1
  have v8 : nw ≤ 8 := hV.2.2.2.2.2.2.2.2.1
  have h6 : na ≤ 6 := hM.2.2.2.2.1
  have g0 := (hM.2.2.1 3 0 rfl).trans hV.1
  have g4 := (hM.2.2.1 3 4 rfl).trans hV.2.1
  have g8 := (hM.2.2.1 3 8 rfl).trans hV.2.2.1
  have g13 := (hM.2.2.1 3 13 rfl).trans hV.2.2.2.1
  have g6 := hM.2.2.2.1
  obtain ⟨d, rfl⟩ : ∃ d, D = d + 2 := ⟨D - 2, by omega⟩
  refine (EX_in mi_X6_allHear rfl rfl rfl (ls := [some (.inr (.inr (0, 0))), some (.inr (.inr (29, 0))), some (.inl (nI h)), some (.inl (hs)), none]) rfl).trans ?_
  rw [e_X6_allHear_0]
  refine loopA L xs O (P := fun r => r = (some (.inl (some (.inl (b2i (allB R V h hs nh)))), M, O, 0, 0) : Res)) (fun j ls M' => ls = [some (.inr (.inr (0, 0))), some (.inr (.inr (29, 0))), some (.inl (nI h)), some (.inl (hs)), some (.inl (nI j))] ∧ allB R V h hs j = true ∧ M' = M) nh 100 (by omega) ?_ ?_ (Nat.le_of_lt (FU (by omega))) ⟨rfl, rfl, rfl⟩
  · rintro f k j _ M' hj ⟨rfl, hb, e⟩ ih
    rw [e]
    have vc := hV.2.2.2.2.2.2.2.2.2.2.2.2.1 j hj
    have vc2 := vc.2
    have g7 := (hM.2.2.1 7 j (decide_eq_true (show j < 8 by omega))).trans vc.1
    have g29 := hR (vN V 7 j) (by omega)
    have q1 := x6_bit L xs O (D := d + 1) (by omega) hs j M
    have q2 := x1_need L xs O (D := d + 1) (by omega) 2 j h (by omega) hh M hM.2.2.1
    have hs1 : allB R V h hs (j + 1) = (allB R V h hs j && (!bitB hs j || decide (needF (V 8) (V 9) j h ≤ R (vN V 7 j)))) := rfl
    rw [hb, Bool.true_and] at hs1
    cases c : bitB hs j with
    | false =>
      rw [c] at hs1
      rw [c, b2i_f] at q1
      simp (disch := first | omega | rfl | decide) only [e_X6_allHear_0, e_X6_allHear_3, e_X6_allHear_21, e_X6_allHear_51, e_X6_allHear_46, xr_v, xr_n, hl_of, hl_cl, hl_toInt, hl_le, hl_lt, hl_eq, nI_add, hl_sub, pk_mul, hl_div, if_pos, if_neg, ↓reduceIte, Nat.reduceAdd, Nat.reduceSub, Nat.reduceMul, Nat.add_zero, Nat.zero_add, mp_s, mp_k, mp_i, mp_g, mr_s, mr_i, mr_g, zlt_0, zlt_1, zlt_2, zlt_3, zlt_4, zlt_5, zlt_6, zlt_8, zlt_12, zlt_15, zlt_20, zlt_24, zlt_36, zlt_40, zlt_48, zlt_80, zlt_97, zlt_120, zlt_256, zlt_600, zlt_99999999, zadd_1, zadd_2, zadd_5, zadd_6, zadd_8, zadd_20, zadd_24, zeq_0, zeq_1, zeq_2, zeq_3, zeq_4, zeq_5, zeq_6, zeq_7, zeq_8, zeq_13, zeq_14, zeq_20, zeq_32, zeq_59, zeq_60, zeq_80, zmul_2, zmul_4, zmul_6, zmul_8, zmul_10, zmul_24, zsub_1, zsub_2, zsub_10, zsub_48, zsub_97, zle_0, zle_1, zle_2, zle_6, zle_11, zle_200, zle_600, zle_100000000, ylt_0, ylt_1, ylt_2, ylt_3, ylt_6, ylt_9, ylt_20, ylt_24, ylt_57, ylt_60, ylt_99, ylt_120, ylt_122, ylt_999, ylt_9999, yle_0, yle_2, yle_4, yle_5, yle_6, yle_7, yle_8, yle_10, yle_12, yle_13, yle_15, yle_16, yle_20, yle_24, yle_40, yle_60, yle_64, yle_80, yadd_1, yadd_22, ymul_2, ymul_4, ymul_6, ymul_8, ymul_10, ymul_24, ymul_27, ymul_100, ysub_1, ysub_24, zdiv_2, zdiv_4, zdiv_24, g4, q1]
      exact ih _ _ ⟨rfl, hs1, rfl⟩
    | true =>
      rw [c] at hs1
      rw [c, b2i_t] at q1
      by_cases c2 : needF (V 8) (V 9) j h ≤ R (vN V 7 j)
      · simp (disch := first | omega | rfl | decide) only [e_X6_allHear_0, e_X6_allHear_3, e_X6_allHear_21, e_X6_allHear_51, e_X6_allHear_46, xr_v, xr_n, hl_of, hl_cl, hl_toInt, hl_le, hl_lt, hl_eq, nI_add, hl_sub, pk_mul, hl_div, if_pos, if_neg, ↓reduceIte, Nat.reduceAdd, Nat.reduceSub, Nat.reduceMul, Nat.add_zero, Nat.zero_add, mp_s, mp_k, mp_i, mp_g, mr_s, mr_i, mr_g, zlt_0, zlt_1, zlt_2, zlt_3, zlt_4, zlt_5, zlt_6, zlt_8, zlt_12, zlt_15, zlt_20, zlt_24, zlt_36, zlt_40, zlt_48, zlt_80, zlt_97, zlt_120, zlt_256, zlt_600, zlt_99999999, zadd_1, zadd_2, zadd_5, zadd_6, zadd_8, zadd_20, zadd_24, zeq_0, zeq_1, zeq_2, zeq_3, zeq_4, zeq_5, zeq_6, zeq_7, zeq_8, zeq_13, zeq_14, zeq_20, zeq_32, zeq_59, zeq_60, zeq_80, zmul_2, zmul_4, zmul_6, zmul_8, zmul_10, zmul_24, zsub_1, zsub_2, zsub_10, zsub_48, zsub_97, zle_0, zle_1, zle_2, zle_6, zle_11, zle_200, zle_600, zle_100000000, ylt_0, ylt_1, ylt_2, ylt_3, ylt_6, ylt_9, ylt_20, ylt_24, ylt_57, ylt_60, ylt_99, ylt_120, ylt_122, ylt_999, ylt_9999, yle_0, yle_2, yle_4, yle_5, yle_6, yle_7, yle_8, yle_10, yle_12, yle_13, yle_15, yle_16, yle_20, yle_24, yle_40, yle_60, yle_64, yle_80, yadd_1, yadd_22, ymul_2, ymul_4, ymul_6, ymul_8, ymul_10, ymul_24, ymul_27, ymul_100, ysub_1, ysub_24, zdiv_2, zdiv_4, zdiv_24, g4, q1, g7, g29, q2, c2]
        exact ih _ _ ⟨rfl, hs1.trans (by rw [decide_eq_true c2]; rfl), rfl⟩
      · simp (disch := first | omega | rfl | decide) only [e_X6_allHear_0, e_X6_allHear_3, e_X6_allHear_21, e_X6_allHear_51, e_X6_allHear_46, xr_v, xr_n, hl_of, hl_cl, hl_toInt, hl_le, hl_lt, hl_eq, nI_add, hl_sub, pk_mul, hl_div, if_pos, if_neg, ↓reduceIte, Nat.reduceAdd, Nat.reduceSub, Nat.reduceMul, Nat.add_zero, Nat.zero_add, mp_s, mp_k, mp_i, mp_g, mr_s, mr_i, mr_g, zlt_0, zlt_1, zlt_2, zlt_3, zlt_4, zlt_5, zlt_6, zlt_8, zlt_12, zlt_15, zlt_20, zlt_24, zlt_36, zlt_40, zlt_48, zlt_80, zlt_97, zlt_120, zlt_256, zlt_600, zlt_99999999, zadd_1, zadd_2, zadd_5, zadd_6, zadd_8, zadd_20, zadd_24, zeq_0, zeq_1, zeq_2, zeq_3, zeq_4, zeq_5, zeq_6, zeq_7, zeq_8, zeq_13, zeq_14, zeq_20, zeq_32, zeq_59, zeq_60, zeq_80, zmul_2, zmul_4, zmul_6, zmul_8, zmul_10, zmul_24, zsub_1, zsub_2, zsub_10, zsub_48, zsub_97, zle_0, zle_1, zle_2, zle_6, zle_11, zle_200, zle_600, zle_100000000, ylt_0, ylt_1, ylt_2, ylt_3, ylt_6, ylt_9, ylt_20, ylt_24, ylt_57, ylt_60, ylt_99, ylt_120, ylt_122, ylt_999, ylt_9999, yle_0, yle_2, yle_4, yle_5, yle_6, yle_7, yle_8, yle_10, yle_12, yle_13, yle_15, yle_16, yle_20, yle_24, yle_40, yle_60, yle_64, yle_80, yadd_1, yadd_22, ymul_2, ymul_4, ymul_6, ymul_8, ymul_10, ymul_24, ymul_27, ymul_100, ysub_1, ysub_24, zdiv_2, zdiv_4, zdiv_24, g4, q1, g7, g29, q2, c2]
        have h3 := allB_f (hs1.trans (by rw [decide_eq_false c2]; rfl)) (nh - (j + 1))
        rw [show j + 1 + (nh - (j + 1)) = nh by omega] at h3
        rw [h3]
        rfl
  · rintro f k _ M' ⟨rfl, hb, e⟩
    rw [e, hb]
    simp (disch := first | omega | rfl | decide) only [e_X6_allHear_0, e_X6_allHear_3, e_X6_allHear_21, e_X6_allHear_51, e_X6_allHear_46, xr_v, xr_n, hl_of, hl_cl, hl_toInt, hl_le, hl_lt, hl_eq, nI_add, hl_sub, pk_mul, hl_div, if_pos, if_neg, ↓reduceIte, Nat.reduceAdd, Nat.reduceSub, Nat.reduceMul, Nat.add_zero, Nat.zero_add, mp_s, mp_k, mp_i, mp_g, mr_s, mr_i, mr_g, zlt_0, zlt_1, zlt_2, zlt_3, zlt_4, zlt_5, zlt_6, zlt_8, zlt_12, zlt_15, zlt_20, zlt_24, zlt_36, zlt_40, zlt_48, zlt_80, zlt_97, zlt_120, zlt_256, zlt_600, zlt_99999999, zadd_1, zadd_2, zadd_5, zadd_6, zadd_8, zadd_20, zadd_24, zeq_0, zeq_1, zeq_2, zeq_3, zeq_4, zeq_5, zeq_6, zeq_7, zeq_8, zeq_13, zeq_14, zeq_20, zeq_32, zeq_59, zeq_60, zeq_80, zmul_2, zmul_4, zmul_6, zmul_8, zmul_10, zmul_24, zsub_1, zsub_2, zsub_10, zsub_48, zsub_97, zle_0, zle_1, zle_2, zle_6, zle_11, zle_200, zle_600, zle_100000000, ylt_0, ylt_1, ylt_2, ylt_3, ylt_6, ylt_9, ylt_20, ylt_24, ylt_57, ylt_60, ylt_99, ylt_120, ylt_122, ylt_999, ylt_9999, yle_0, yle_2, yle_4, yle_5, yle_6, yle_7, yle_8, yle_10, yle_12, yle_13, yle_15, yle_16, yle_20, yle_24, yle_40, yle_60, yle_64, yle_80, yadd_1, yadd_22, ymul_2, ymul_4, ymul_6, ymul_8, ymul_10, ymul_24, ymul_27, ymul_100, ysub_1, ysub_24, zdiv_2, zdiv_4, zdiv_24, g4]
    rfl
end
/-- the first of them -/
def fnd (p : Nat → Bool) : Nat → Option Nat
  | 0 => none
  | j + 1 => match fnd p j with
    | some x => some x
    | none => if p j = true then some j else none
def belF (p : Nat → Nat → Bool) (n : Nat) : Nat → Option Nat
  | 0 => none
  | i + 1 => match belF p n i with
    | some v => some v
    | none => match fnd (p (i + 1)) n with
      | some x => some (100 * (i + 1) + x)
      | none => none
theorem fnd_s {p : Nat → Bool} {j x : Nat} (e : fnd p j = some x) : ∀ r, fnd p (j + r) = some x := by
  intro r
  induction r with
  | zero => exact e
  | succ r ih =>
    show (match fnd p (j + r) with
      | some x => some x
      | none => _) = some x
    rw [ih]
theorem bel_s {p : Nat → Nat → Bool} {n j x : Nat} (e : belF p n j = some x) : ∀ r, belF p n (j + r) = some x := by
  intro r
  induction r with
  | zero => exact e
  | succ r ih =>
    show (match belF p n (j + r) with
      | some x => some x
      | none => _) = some x
    rw [ih]
theorem fnd_n {p : Nat → Bool} {j : Nat} (e : fnd p j = none) : fnd p (j + 1) = if p j = true then some j else none := by
  show (match fnd p j with
    | some x => some x
    | none => _) = _
  rw [e]
theorem bel_n {p : Nat → Nat → Bool} {n i : Nat} (e : belF p n i = none) : belF p n (i + 1) = match fnd (p (i + 1)) n with
      | some x => some (100 * (i + 1) + x)
      | none => none := by
  show (match belF p n i with
    | some v => some v
    | none => _) = _
  rw [e]
theorem bel_found {p : Nat → Nat → Bool} {n i x : Nat} (e : belF p n i = none) (e2 : fnd (p (i + 1)) x = none) (h : p (i + 1) x = true) (hx : x < n) (hi : i < 9) : belF p n 9 = some (100 * (i + 1) + x) := by
  have h1 := fnd_n e2
  rw [if_pos h] at h1
  have h2 := fnd_s h1 (n - (x + 1))
  rw [show x + 1 + (n - (x + 1)) = n by omega] at h2
  have h3 := bel_n e
  rw [h2] at h3
  have h4 := bel_s h3 (9 - (i + 1))
  rw [show i + 1 + (9 - (i + 1)) = 9 by omega] at h4
  exact h4
theorem bel_next {p : Nat → Nat → Bool} {n i : Nat} (e : belF p n i = none) (e2 : fnd (p (i + 1)) n = none) : belF p n (i + 1) = none := by
  rw [bel_n e, e2]
theorem fnd_next {p : Nat → Bool} {j : Nat} (e : fnd p j = none) (h : p j = false) : fnd p (j + 1) = none := by
  rw [fnd_n e, h]
  rfl
section
variable (L : Nat) (xs : Nat → Int32) (O : Int64)
theorem c_bell {M0 : Mem} {V : Vw} {As : Nat → Nat → Int32} {n nh ns nw na : Nat} {D : Nat} (hD : 9 ≤ D) (a h l p : Nat) (hs : Int32) (ha : a < na) (hh : h < 24) (hl0 : 1 ≤ l) (hl : l ≤ 120) (hp0 : 1 ≤ p) (hp : p ≤ 3) (hb : inN hs (2 ^ nh)) (M : Mem) (hM : CQ M0 V As n nh ns nw na M) : isI (EX L xs (D) q_X6_bell [.inr (.inr (0, 0)), .inl (nI a), .inl (nI h), .inl (nI l), .inl (nI p), .inl (hs)] M O) O (oI (belF (fun up x => allB (loudF V (As a) n x (nI up) (nI l) (nI p)) V h hs nh) n 9)) (CQ M0 V As n nh ns nw na) := by
  have hV := hM.2.1
  have v5 : n ≤ 40 := hV.2.2.2.2.2.1
  have v6 : nh ≤ 8 := hV.2.2.2.2.2.2.1
  have v7 : ns ≤ 6 := hV.2.2.2.2.2.2.2.1
  have v8 : nw ≤ 8 := hV.2.2.2.2.2.2.2.2.1
  have h6 : na ≤ 6 := hM.2.2.2.2.1
  have g0 := (hM.2.2.1 3 0 rfl).trans hV.1
  have g4 := (hM.2.2.1 3 4 rfl).trans hV.2.1
  have g8 := (hM.2.2.1 3 8 rfl).trans hV.2.2.1
  have g13 := (hM.2.2.1 3 13 rfl).trans hV.2.2.2.1
  have g6 := hM.2.2.2.1
  obtain ⟨d, rfl⟩ : ∃ d, D = d + 2 := ⟨D - 2, by omega⟩
  refine isI_e (EX_in mi_X6_bell rfl rfl rfl (ls := [some (.inr (.inr (0, 0))), some (.inl (nI a)), some (.inl (nI h)), some (.inl (nI l)), some (.inl (nI p)), some (.inl (hs)), none, none]) rfl) ?_
  have q1 := x6_needAir_in L xs O (D := d + 1) (by omega) (by omega) a M g6 ha
  have q2 := x6_needHour_in L xs O (D := d + 1) (by omega) h M hh
  have q3 := x6_needArg_1 L xs O (D := d + 1) (by omega) M
  have q4 := x6_needBits_in L xs O (D := d + 1) (by omega) nh v6 hs M hb
  simp (disch := first | omega | rfl | decide) only [e_X6_bell_0, e_X6_bell_5, e_X6_bell_10, e_X6_bell_38, e_X6_bell_39, e_X6_bell_42, e_X6_bell_55, e_X6_bell_92, e_X6_bell_138, e_X6_bell_120, e_X6_bell_126, xr_v, xr_n, hl_of, hl_cl, hl_toInt, hl_le, hl_lt, hl_eq, nI_add, hl_sub, pk_mul, hl_div, if_pos, if_neg, ↓reduceIte, Nat.reduceAdd, Nat.reduceSub, Nat.reduceMul, Nat.add_zero, Nat.zero_add, mp_s, mp_k, mp_i, mp_g, mr_s, mr_i, mr_g, zlt_0, zlt_1, zlt_2, zlt_3, zlt_4, zlt_5, zlt_6, zlt_8, zlt_12, zlt_15, zlt_20, zlt_24, zlt_36, zlt_40, zlt_48, zlt_80, zlt_97, zlt_120, zlt_256, zlt_600, zlt_99999999, zadd_1, zadd_2, zadd_5, zadd_6, zadd_8, zadd_20, zadd_24, zeq_0, zeq_1, zeq_2, zeq_3, zeq_4, zeq_5, zeq_6, zeq_7, zeq_8, zeq_13, zeq_14, zeq_20, zeq_32, zeq_59, zeq_60, zeq_80, zmul_2, zmul_4, zmul_6, zmul_8, zmul_10, zmul_24, zsub_1, zsub_2, zsub_10, zsub_48, zsub_97, zle_0, zle_1, zle_2, zle_6, zle_11, zle_200, zle_600, zle_100000000, ylt_0, ylt_1, ylt_2, ylt_3, ylt_6, ylt_9, ylt_20, ylt_24, ylt_57, ylt_60, ylt_99, ylt_120, ylt_122, ylt_999, ylt_9999, yle_0, yle_2, yle_4, yle_5, yle_6, yle_7, yle_8, yle_10, yle_12, yle_13, yle_15, yle_16, yle_20, yle_24, yle_40, yle_60, yle_64, yle_80, yadd_1, yadd_22, ymul_2, ymul_4, ymul_6, ymul_8, ymul_10, ymul_24, ymul_27, ymul_100, ysub_1, ysub_24, zdiv_2, zdiv_4, zdiv_24, q1, q2, q3, g4, q4]
  generalize hBB : belF (fun up x => allB (loudF V (As a) n x (nI up) (nI l) (nI p)) V h hs nh) n 9 = res
  refine loopB L xs O (P := fun r => isI r O (oI res) (CQ M0 V As n nh ns nw na)) (fun j ls M => ∃ u7, ls = [some (.inr (.inr (0, 0))), some (.inl (nI a)), some (.inl (nI h)), some (.inl (nI l)), some (.inl (nI p)), some (.inl (hs)), some (.inl (nI (j + 1))), u7] ∧ belF (fun up x => allB (loudF V (As a) n x (nI up) (nI l) (nI p)) V h hs nh) n j = none ∧ CQ M0 V As n nh ns nw na M) 9 40 200 0 (by omega) ?_ ?_ 9 FUEL _ 0 _ M (by omega) (Nat.le_of_lt (FU (by omega))) (by omega) ⟨_, rfl, rfl, hM⟩
  · rintro f k j _ M hj hf ⟨u7, rfl, hj0, hM⟩ ih
    have hV := hM.2.1
    have v5 : n ≤ 40 := hV.2.2.2.2.2.1
    have v6 : nh ≤ 8 := hV.2.2.2.2.2.2.1
    have v7 : ns ≤ 6 := hV.2.2.2.2.2.2.2.1
    have v8 : nw ≤ 8 := hV.2.2.2.2.2.2.2.2.1
    have h6 : na ≤ 6 := hM.2.2.2.2.1
    have g0 := (hM.2.2.1 3 0 rfl).trans hV.1
    have g4 := (hM.2.2.1 3 4 rfl).trans hV.2.1
    have g8 := (hM.2.2.1 3 8 rfl).trans hV.2.2.1
    have g13 := (hM.2.2.1 3 13 rfl).trans hV.2.2.2.1
    have g6 := hM.2.2.2.1
    rw [e_X6_bell_58, if_neg (by rw [ylt_9 (by omega)]; omega)]
    refine loopC L xs O (P := fun r => isI r O (oI res) (CQ M0 V As n nh ns nw na)) (fun x ls M => ls = [some (.inr (.inr (0, 0))), some (.inl (nI a)), some (.inl (nI h)), some (.inl (nI l)), some (.inl (nI p)), some (.inl (hs)), some (.inl (nI (j + 1))), some (.inl (nI x))] ∧ fnd (fun x => allB (loudF V (As a) n x (nI (j + 1)) (nI l) (nI p)) V h hs nh) x = none ∧ CQ M0 V As n nh ns nw na M) n 100 (by omega) ?_ ?_ (by omega) ⟨rfl, rfl, hM⟩
    · rintro f k x _ M hx ⟨rfl, hx0, hM⟩ ih
      have hV := hM.2.1
      have v5 : n ≤ 40 := hV.2.2.2.2.2.1
      have v6 : nh ≤ 8 := hV.2.2.2.2.2.2.1
      have v7 : ns ≤ 6 := hV.2.2.2.2.2.2.2.1
      have v8 : nw ≤ 8 := hV.2.2.2.2.2.2.2.2.1
      have h6 : na ≤ 6 := hM.2.2.2.2.1
      have g0 := (hM.2.2.1 3 0 rfl).trans hV.1
      have g4 := (hM.2.2.1 3 4 rfl).trans hV.2.1
      have g8 := (hM.2.2.1 3 8 rfl).trans hV.2.2.1
      have g13 := (hM.2.2.1 3 13 rfl).trans hV.2.2.2.1
      have g6 := hM.2.2.2.1
      have q1 := x6_mayReach L xs O (D := d + 1) (by omega) x l p h hs hx hh M hM
      rw [e_X6_bell_68, g0, if_neg (by rw [hl_le (by omega) (by omega)]; omega), q1]
      simp only [xr_v, Nat.reduceAdd, Nat.add_zero]
      cases c : mayB V l p x h hs nh with
      | false =>
        rw [b2i_f, e_X6_bell_92, if_pos rfl, e_X6_bell_138, zadd_1]
        exact ih _ _ ⟨rfl, fnd_next hx0 (may_all hV hx hl hp nh (Nat.le_refl _) c), hM⟩
      | true =>
        obtain ⟨M1, q2, h1, r1⟩ := x4_alone L xs O (D := d + 1) (by omega) a x (nI (j + 1)) (nI l) (nI p) ha hx (nn_n l (by omega)) M hM
        rw [b2i_t, e_X6_bell_92, if_neg (by decide), if_pos (in_6 (by omega)), hl_cl (by omega), Nat.zero_add, q2]
        simp only [xr_v, Nat.reduceAdd, Nat.add_zero]
        have q3 := x6_allHear L xs O (D := d + 1) (by omega) h hs _ hh M1 h1 r1
        rw [e_X6_bell_120, q3]
        simp only [xr_v, Nat.reduceAdd, Nat.add_zero]
        rw [e_X6_bell_126]
        cases c2 : allB (loudF V (As a) n x (nI (j + 1)) (nI l) (nI p)) V h hs nh with
        | false =>
          rw [b2i_f, if_pos rfl, e_X6_bell_138, zadd_1]
          exact ih _ _ ⟨rfl, fnd_next hx0 c2, h1⟩
        | true =>
          rw [b2i_t, if_neg (by decide), ymul_100, nI_add]
          have := bel_found hj0 hx0 c2 hx hj
          rw [hBB] at this
          rw [this]
          exact isI_i h1
    · rintro f1 k _ M hf1 ⟨rfl, hx0, hM⟩
      have hV := hM.2.1
      have v5 : n ≤ 40 := hV.2.2.2.2.2.1
      have v6 : nh ≤ 8 := hV.2.2.2.2.2.2.1
      have v7 : ns ≤ 6 := hV.2.2.2.2.2.2.2.1
      have v8 : nw ≤ 8 := hV.2.2.2.2.2.2.2.2.1
      have h6 : na ≤ 6 := hM.2.2.2.2.1
      have g0 := (hM.2.2.1 3 0 rfl).trans hV.1
      have g4 := (hM.2.2.1 3 4 rfl).trans hV.2.1
      have g8 := (hM.2.2.1 3 8 rfl).trans hV.2.2.1
      have g13 := (hM.2.2.1 3 13 rfl).trans hV.2.2.2.1
      have g6 := hM.2.2.2.1
      rw [e_X6_bell_68, g0, if_pos (by rw [hl_le (by omega) (by omega)]; omega), zadd_1]
      exact ih f1 _ _ (by omega) ⟨_, rfl, bel_next hj0 hx0, hM⟩
  · rintro f k _ M - ⟨u7, rfl, hj0, hM⟩
    rw [hBB] at hj0
    rw [hj0, e_X6_bell_58, if_pos (by decide)]
    exact isI_i hM
end
