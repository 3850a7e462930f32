/-! RAYS: one step, the whole way; the class's Ray. -/
def rAbs (s : Int32) : Int32 := if (0 : Int32) ≤ s then s else 0 - s
def rLay (p : Int32) : Nat := (if 11 < p / 2 then 11 else p / 2 : Int32).toNatClampNeg
def rMore (A : Nat → Int32) (tw p : Int32) : Int32 := A (rLay p) + tw * A 12
def rTurn (A : Nat → Int32) (tw p s : Int32) : Int32 :=
  if -6 < (if s + rMore A tw p < 6 then s + rMore A tw p else 6) then (if s + rMore A tw p < 6 then s + rMore A tw p else 6) else -6
/-- what the air eats at the aw-th CELL -/
def rEat (pt aw : Int32) : Int32 := if aw &&& (aw - 1) = 0 then pt + 6 else pt
abbrev R3 : Type := Int32 × Int32 × Int32
/-- behind the ground: place p, slope s, r left at CELL y -/
def rEnd (V : Vw) (A : Nat → Int32) (tw pt : Int32) (y : Nat) (aw p s r : Int32) : Option R3 :=
  if 24 < p then none else if V 6 y ≤ 0 ∨ V 5 y + V 6 y ≤ p then (if 0 < r - rEat pt aw then some (p, rTurn A tw p s, r - rEat pt aw) else none) else none
def rStep (V : Vw) (A : Nat → Int32) (tw pt : Int32) (y : Nat) (aw : Int32) (z : R3) : Option R3 :=
  if V 5 y < z.1 + z.2.1 then rEnd V A tw pt y aw (z.1 + z.2.1) z.2.1 z.2.2 else rEnd V A tw pt y aw (V 5 y) (rAbs z.2.1) (z.2.2 - geats (vN V 4 y))
def sRay (g _i k : Nat) : Bool := Nat.beq g 25 && Nat.ble 5 k
def b2i (b : Bool) : Int32 := if b then 1 else 0
def RayIs (M : Mem) (y : Nat) (aw : Int32) (z : R3) : Prop := M 25 0 5 = nI y ∧ M 25 0 6 = aw ∧ M 25 0 7 = z.1 ∧ M 25 0 8 = z.2.1 ∧ M 25 0 9 = z.2.2
theorem lay_ix {p : Int32} (h : ¬ p < 0) : 0 ≤ (if 11 < p / 2 then 11 else p / 2 : Int32).toInt ∧ (if 11 < p / 2 then 11 else p / 2 : Int32).toInt < 12 := by
  obtain ⟨q, hq, rfl⟩ := nI_of h
  have hq' : q < 2147483648 := hq
  rw [zdiv_2 hq']
  by_cases h2 : (11 : Int32) < nI (q / 2)
  · rw [if_pos h2]
    decide
  · rw [if_neg h2, hl_toInt (by omega)]
    rw [ylt_11 (by omega)] at h2
    omega
theorem lay_12 {p : Int32} (h : ¬ p < 0) : rLay p < 12 := by
  have h1 := lay_ix h
  unfold rLay
  have h0 : (0 : Int32).toInt = 0 := by decide
  obtain ⟨j, hj, e⟩ := nI_of (x := (if 11 < p / 2 then 11 else p / 2 : Int32)) (by
    rw [i_lt]
    omega)
  rw [e] at h1 ⊢
  have hj' : j < 2147483648 := hj
  rw [hl_toInt hj'] at h1
  rw [hl_cl hj']
  omega
section
variable (L : Nat) (xs : Nat → Int32) (O : Int64)
theorem goes_198 (d fuel k i1 i2 : Nat) (A : Nat → Int32) (a3 a4 e r : Int32) (u5 : Option AV) (M : Mem) (hA : CA M i2 A) (hp : ¬ M 25 0 7 < 0) :
    isI (BK L xs (EX L xs (d + 1)) mi_X3_goes (RN L xs (d) mi_X3_goes fuel) (k + 60) 198 [some (.inr (.inr (25, 0))), some (.inr (.inr (3, i1))), some (.inr (.inr (18, i2))), some (.inl (a3)), some (.inl (a4)), u5] [.inl (e), .inl (r), .inr (.inr (25, 0))] M O none 0 0) O (b2i (decide (0 < r - e)))
      (fun M' => Fr sRay M M' ∧ (0 < r - e → M' 25 0 5 = M 25 0 5 ∧ M' 25 0 6 = M 25 0 6 ∧ M' 25 0 7 = M 25 0 7 ∧ M' 25 0 8 = rTurn A (M 25 0 4) (M 25 0 7) (M 25 0 8) ∧ M' 25 0 9 = r - e)) := by
  by_cases h : 0 < r - e
  · rw [e_X3_goes_198, if_pos h, e_X3_goes_226, if_pos (lay_ix hp), e_X3_goes_254, e_X3_goes_257]
    refine isI_x (by rw [decide_eq_true h]; rfl) (isI_i ⟨Fr_put (Fr_put Fr_refl rfl) rfl, fun _ => ?_⟩)
    have hl := lay_12 hp
    unfold rLay at hl
    simp (disch := first | omega | rfl) only [mp_s, mp_k, mp_g, hA.1 _ hl, hA.2.1]
    exact ⟨trivial, trivial, trivial, rfl, trivial⟩
  · rw [e_X3_goes_198, if_neg h]
    exact isI_x (by rw [decide_eq_false h]; rfl) (isI_i ⟨Fr_put Fr_refl rfl, fun h' => absurd h' h⟩)
theorem goes_153 (d fuel k i1 i2 : Nat) (A : Nat → Int32) (a3 : Int32) (u4 u5 : Option AV) (M : Mem) (hA : CA M i2 A) (hp : ¬ M 25 0 7 < 0) :
    isI (BK L xs (EX L xs (d + 1)) mi_X3_goes (RN L xs (d) mi_X3_goes fuel) (k + 100) 153 [some (.inr (.inr (25, 0))), some (.inr (.inr (3, i1))), some (.inr (.inr (18, i2))), some (.inl (a3)), u4, u5] [] M O none 0 0) O (b2i (decide (0 < M 25 0 9 - rEat (M 25 0 3) (M 25 0 6))))
      (fun M' => Fr sRay M M' ∧ (0 < M 25 0 9 - rEat (M 25 0 3) (M 25 0 6) → M' 25 0 5 = M 25 0 5 ∧ M' 25 0 6 = M 25 0 6 ∧ M' 25 0 7 = M 25 0 7 ∧ M' 25 0 8 = rTurn A (M 25 0 4) (M 25 0 7) (M 25 0 8) ∧ M' 25 0 9 = M 25 0 9 - rEat (M 25 0 3) (M 25 0 6))) := by
  by_cases h : M 25 0 6 &&& (M 25 0 6 - 1) = 0
  · have e : rEat (M 25 0 3) (M 25 0 6) = M 25 0 3 + 6 := if_pos h
    rw [e, e_X3_goes_153, if_pos h, e_X3_goes_172, if_neg (by decide)]
    exact goes_198 L xs O d fuel (k + 19) i1 i2 A a3 1 _ _ u5 M hA hp
  · have e : rEat (M 25 0 3) (M 25 0 6) = M 25 0 3 := if_neg h
    rw [e, e_X3_goes_153, if_neg h, e_X3_goes_172, if_pos rfl]
    exact goes_198 L xs O d fuel (k + 23) i1 i2 A a3 0 _ _ u5 M hA hp
theorem goes_112 (d fuel k i1 i2 y : Nat) {V : Vw} {A : Nat → Int32} (M : Mem) (hL : CL M i1 V) (hA : CA M i2 A) (hy : y < 40) (hx : M 25 0 5 = nI y) (hp : ¬ M 25 0 7 < 0) (u4 u5 : Option AV) :
    isI (BK L xs (EX L xs (d + 1)) mi_X3_goes (RN L xs (d) mi_X3_goes fuel) (k + 200) 112 [some (.inr (.inr (25, 0))), some (.inr (.inr (3, i1))), some (.inr (.inr (18, i2))), some (.inl (V 5 y)), u4, u5] [] M O none 0 0) O (b2i (rEnd V A (M 25 0 4) (M 25 0 3) y (M 25 0 6) (M 25 0 7) (M 25 0 8) (M 25 0 9)).isSome)
      (fun M' => Fr sRay M M' ∧ ∀ z, rEnd V A (M 25 0 4) (M 25 0 3) y (M 25 0 6) (M 25 0 7) (M 25 0 8) (M 25 0 9) = some z → RayIs M' y (M 25 0 6) z) := by
  have hin : 0 ≤ (M 25 0 5).toInt ∧ (M 25 0 5).toInt < 40 := by rw [hx]; exact in_40 hy
  have hcl : (M 25 0 5).toNatClampNeg = y := by rw [hx]; exact hl_cl (by omega)
  rw [e_X3_goes_112]
  by_cases h1 : 24 < M 25 0 7
  · have e : rEnd V A (M 25 0 4) (M 25 0 3) y (M 25 0 6) (M 25 0 7) (M 25 0 8) (M 25 0 9) = none := if_pos h1
    rw [e, if_pos h1, e_X3_goes_151]
    exact isI_i ⟨Fr_refl, fun z h => by cases h⟩
  · have e1 : rEnd V A (M 25 0 4) (M 25 0 3) y (M 25 0 6) (M 25 0 7) (M 25 0 8) (M 25 0 9) = _ := if_neg h1
    rw [if_neg h1, if_pos hin, hcl, hL 6 y (decide_eq_true hy)]
    by_cases h2 : V 6 y ≤ 0 ∨ V 5 y + V 6 y ≤ M 25 0 7
    · rw [if_pos h2] at e1
      have key : ∀ k', isI (BK L xs (EX L xs (d + 1)) mi_X3_goes (RN L xs (d) mi_X3_goes fuel) (k' + 100) 153 [some (.inr (.inr (25, 0))), some (.inr (.inr (3, i1))), some (.inr (.inr (18, i2))), some (.inl (V 5 y)), u4, u5] [] M O none 0 0) O (b2i (rEnd V A (M 25 0 4) (M 25 0 3) y (M 25 0 6) (M 25 0 7) (M 25 0 8) (M 25 0 9)).isSome)
          (fun M' => Fr sRay M M' ∧ ∀ z, rEnd V A (M 25 0 4) (M 25 0 3) y (M 25 0 6) (M 25 0 7) (M 25 0 8) (M 25 0 9) = some z → RayIs M' y (M 25 0 6) z) := by
        intro k'
        by_cases h3 : 0 < M 25 0 9 - rEat (M 25 0 3) (M 25 0 6)
        · rw [if_pos h3] at e1
          rw [e1]
          refine isI_x ?_ (isI_m (goes_153 L xs O d fuel k' i1 i2 A (V 5 y) u4 u5 M hA hp) ?_)
          · rw [decide_eq_true h3]
            rfl
          · intro M' hM
            refine ⟨hM.1, fun z hz => ?_⟩
            obtain ⟨a, b, c, e, f⟩ := hM.2 h3
            cases hz
            exact ⟨a.trans hx, b, c, e, f⟩
        · rw [if_neg h3] at e1
          rw [e1]
          refine isI_x ?_ (isI_m (goes_153 L xs O d fuel k' i1 i2 A (V 5 y) u4 u5 M hA hp) ?_)
          · rw [decide_eq_false h3]
            rfl
          · intro M' hM
            exact ⟨hM.1, fun z hz => by cases hz⟩
      by_cases h4 : V 6 y ≤ 0
      · rw [if_pos h4]
        exact key (k + 90)
      · rw [if_neg h4, if_pos hin, if_pos (h2.resolve_left h4)]
        exact key (k + 80)
    · rw [if_neg h2] at e1
      rw [if_neg (fun h => h2 (Or.inl h)), if_pos hin, if_neg (fun h => h2 (Or.inr h)), e1, e_X3_goes_151]
      exact isI_i ⟨Fr_refl, fun z h => by cases h⟩
theorem sRay_land (i g k : Nat) (h : isLand g = true) : sRay g i k = false := by
  unfold sRay
  rw [beq_n (by have := isLand_le h; omega)]
  rfl
theorem x3_goes_in {D : Nat} (hD : 2 ≤ D) {V : Vw} {A : Nat → Int32} {n nh ns nw : Nat} (hV : VOK V n nh ns nw) (i1 i2 y : Nat) (M : Mem) (hL : CL M i1 V) (hA : CA M i2 A) (hy : y < n) (hx : M 25 0 5 + M 25 0 4 = nI y) :
    isI (EX L xs (D) q_X3_goes [.inr (.inr (25, 0)), .inr (.inr (3, i1)), .inr (.inr (18, i2))] M O) O (b2i (rStep V A (M 25 0 4) (M 25 0 3) y (M 25 0 6 + 1) (M 25 0 7, M 25 0 8, M 25 0 9)).isSome)
      (fun M' => Fr sRay M M' ∧ ∀ z, rStep V A (M 25 0 4) (M 25 0 3) y (M 25 0 6 + 1) (M 25 0 7, M 25 0 8, M 25 0 9) = some z → RayIs M' y (M 25 0 6 + 1) z) := by
  obtain ⟨v0, v1, v2, v3, v4, v5, v6, v7, v8, vk, vh, vw, vc, vs, vl, vwk, vcn⟩ := hV
  have hy40 : y < 40 := by omega
  obtain ⟨d, rfl⟩ : ∃ d, D = d + 2 := ⟨D - 2, by omega⟩
  refine isI_e (EX_in mi_X3_goes rfl rfl rfl (ls := [some (.inr (.inr (25, 0))), some (.inr (.inr (3, i1))), some (.inr (.inr (18, i2))), none, none, none]) rfl) ?_
  rw [e_X3_goes_0, hx, if_neg (nn_n y (by omega)), hL 3 0 rfl, v0, if_pos ((hl_lt (by omega) (by omega)).mpr hy), if_pos (in_40 hy40), hl_cl (by omega), hL 5 y (decide_eq_true hy40)]
  by_cases hit : V 5 y < M 25 0 7 + M 25 0 8
  · rw [show rStep V A (M 25 0 4) (M 25 0 3) y (M 25 0 6 + 1) (M 25 0 7, M 25 0 8, M 25 0 9) = rEnd V A (M 25 0 4) (M 25 0 3) y (M 25 0 6 + 1) (M 25 0 7 + M 25 0 8) (M 25 0 8) (M 25 0 9) from if_pos hit, if_pos hit]
    generalize hM : mput (mput (mput M 25 0 5 (nI y)) 25 0 6 (M 25 0 6 + 1)) 25 0 7 (M 25 0 7 + M 25 0 8) = M1
    have fr : Fr sRay M M1 := hM ▸ Fr_put (Fr_put (Fr_put Fr_refl rfl) rfl) rfl
    have g3 : M1 25 0 3 = M 25 0 3 := fr 25 0 3 rfl
    have g4 : M1 25 0 4 = M 25 0 4 := fr 25 0 4 rfl
    have g5 : M1 25 0 5 = nI y := by rw [← hM, mp_k (by omega), mp_k (by omega), mp_s]
    have g6 : M1 25 0 6 = M 25 0 6 + 1 := by rw [← hM, mp_k (by omega), mp_s]
    have g7 : M1 25 0 7 = M 25 0 7 + M 25 0 8 := by rw [← hM, mp_s]
    have g8 : M1 25 0 8 = M 25 0 8 := by rw [← hM, mp_k (by omega), mp_k (by omega), mp_k (by omega)]
    have g9 : M1 25 0 9 = M 25 0 9 := by rw [← hM, mp_k (by omega), mp_k (by omega), mp_k (by omega)]
    have hp : ¬ M1 25 0 7 < 0 := by
      rw [g7]
      refine nn_lt (a := vN V 5 y) (by have := (vh y hy).2; omega) ?_
      rw [← (vh y hy).1]
      exact hit
    have q := goes_112 L xs O d FUEL 2762 i1 i2 y M1 (CL_fr hL fr (sRay_land i1)) (CA_fr hA fr (fun _ => rfl) (fun _ => rfl)) hy40 g5 hp none none
    rw [g3, g4, g6, g7, g8, g9] at q
    exact isI_m q (fun M' h => ⟨Fr_trans fr h.1, h.2⟩)
  · rw [show rStep V A (M 25 0 4) (M 25 0 3) y (M 25 0 6 + 1) (M 25 0 7, M 25 0 8, M 25 0 9) = rEnd V A (M 25 0 4) (M 25 0 3) y (M 25 0 6 + 1) (V 5 y) (rAbs (M 25 0 8)) (M 25 0 9 - geats (vN V 4 y)) from if_neg hit, if_neg hit, e_X3_goes_87]
    generalize hM : mput (mput (mput (mput M 25 0 5 (nI y)) 25 0 6 (M 25 0 6 + 1)) 25 0 7 (M 25 0 7 + M 25 0 8)) 25 0 7 (V 5 y) = M1
    have fr : Fr sRay M M1 := hM ▸ Fr_put (Fr_put (Fr_put (Fr_put Fr_refl rfl) rfl) rfl) rfl
    have g5 : M1 25 0 5 = nI y := by rw [← hM, mp_k (by omega), mp_k (by omega), mp_k (by omega), mp_s]
    have g6 : M1 25 0 6 = M 25 0 6 + 1 := by rw [← hM, mp_k (by omega), mp_k (by omega), mp_s]
    have g7 : M1 25 0 7 = V 5 y := by rw [← hM, mp_s]
    have g9 : M1 25 0 9 = M 25 0 9 := by rw [← hM, mp_k (by omega), mp_k (by omega), mp_k (by omega), mp_k (by omega)]
    rw [g5, if_pos (in_40 hy40), hl_cl (by omega), (CL_fr hL fr (sRay_land i1)) 4 y (decide_eq_true hy40), (vk y hy).1, if_pos (in_4 (vk y hy).2), hl_cl (by have := (vk y hy).2; omega), g9]
    generalize hN : mput (mput M1 25 0 8 (if (0 : Int32) ≤ M 25 0 8 then M 25 0 8 else 0 - M 25 0 8)) 25 0 9 (M 25 0 9 - geats (vN V 4 y)) = M2
    have fr2 : Fr sRay M M2 := hN ▸ Fr_put (Fr_put fr rfl) rfl
    have g3 : M2 25 0 3 = M 25 0 3 := fr2 25 0 3 rfl
    have g4 : M2 25 0 4 = M 25 0 4 := fr2 25 0 4 rfl
    have f5 : M2 25 0 5 = nI y := by rw [← hN, mp_k (by omega), mp_k (by omega), g5]
    have f6 : M2 25 0 6 = M 25 0 6 + 1 := by rw [← hN, mp_k (by omega), mp_k (by omega), g6]
    have f7 : M2 25 0 7 = V 5 y := by rw [← hN, mp_k (by omega), mp_k (by omega), g7]
    have f8 : M2 25 0 8 = rAbs (M 25 0 8) := by
      rw [← hN, mp_k (by omega), mp_s]
      rfl
    have f9 : M2 25 0 9 = M 25 0 9 - geats (vN V 4 y) := by rw [← hN, mp_s]
    have hp : ¬ M2 25 0 7 < 0 := by
      rw [f7, (vh y hy).1]
      exact nn_n _ (by have := (vh y hy).2; omega)
    have q := goes_112 L xs O d FUEL 2742 i1 i2 y M2 (CL_fr hL fr2 (sRay_land i1)) (CA_fr hA fr2 (fun _ => rfl) (fun _ => rfl)) hy40 f5 hp none none
    rw [g3, g4, f6, f7, f8, f9] at q
    exact isI_m q (fun M' h => ⟨Fr_trans fr2 h.1, h.2⟩)
theorem x3_goes_out {D : Nat} (hD : 2 ≤ D) {V : Vw} {n nh ns nw : Nat} (hV : VOK V n nh ns nw) (i1 i2 : Nat) (M : Mem) (hL : CL M i1 V) (hx : M 25 0 5 + M 25 0 4 < 0 ∨ ¬ M 25 0 5 + M 25 0 4 < nI n) :
    isI (EX L xs (D) q_X3_goes [.inr (.inr (25, 0)), .inr (.inr (3, i1)), .inr (.inr (18, i2))] M O) O 0 (Fr sRay M) := by
  obtain ⟨d, rfl⟩ : ∃ d, D = d + 2 := ⟨D - 2, by omega⟩
  refine isI_e (EX_in mi_X3_goes rfl rfl rfl (ls := [some (.inr (.inr (25, 0))), some (.inr (.inr (3, i1))), some (.inr (.inr (18, i2))), none, none, none]) rfl) ?_
  rw [e_X3_goes_0]
  by_cases h : M 25 0 5 + M 25 0 4 < 0
  · rw [if_pos h, e_X3_goes_41]
    exact isI_i (Fr_put (Fr_put Fr_refl rfl) rfl)
  · rw [if_neg h, hL 3 0 rfl, hV.1, if_neg (hx.resolve_left h), e_X3_goes_41]
    exact isI_i (Fr_put (Fr_put Fr_refl rfl) rfl)
theorem x3_start {D : Nat} (hD : 2 ≤ D) (i1 x : Nat) (a2 a3 : Int32) (M : Mem) (hx : M 25 0 0 = nI x) (h40 : x < 40) :
    EX L xs (D) q_X3_start [.inr (.inr (25, 0)), .inr (.inr (3, i1)), .inl (a2), .inl (a3)] M O = (some (.inl none, mput (mput (mput (mput (mput (mput M 25 0 4 (if a2 = 0 then 1 else -1)) 25 0 5 (nI x)) 25 0 6 0) 25 0 7 (M 5 i1 x + M 25 0 1)) 25 0 8 a3) 25 0 9 (M 25 0 2), O, 0, 0) : Res) := by
  obtain ⟨d, rfl⟩ : ∃ d, D = d + 2 := ⟨D - 2, by omega⟩
  refine (EX_in mi_X3_start rfl rfl rfl (ls := [some (.inr (.inr (25, 0))), some (.inr (.inr (3, i1))), some (.inl (a2)), some (.inl (a3))]) rfl).trans ?_
  by_cases h : a2 = 0
  · rw [e_X3_start_0, if_pos h, e_X3_start_10, hx, if_pos (in_40 h40), hl_cl (by omega), if_pos h]
  · rw [e_X3_start_0, if_neg h, e_X3_start_10, hx, if_pos (in_40 h40), hl_cl (by omega), if_neg h]
theorem x3_setSound {D : Nat} (hD : 2 ≤ D) (a1 a2 a3 a4 : Int32) (M : Mem) :
    EX L xs (D) q_X3_setSound [.inr (.inr (25, 0)), .inl (a1), .inl (a2), .inl (a3), .inl (a4)] M O = (some (.inl none, mput (mput (mput (mput M 25 0 0 a1) 25 0 1 a2) 25 0 2 a3) 25 0 3 a4, O, 0, 0) : Res) := by
  obtain ⟨d, rfl⟩ : ∃ d, D = d + 2 := ⟨D - 2, by omega⟩
  refine (EX_in mi_X3_setSound rfl rfl rfl (ls := [some (.inr (.inr (25, 0))), some (.inl (a1)), some (.inl (a2)), some (.inl (a3)), some (.inl (a4))]) rfl).trans ?_
  rw [e_X3_setSound_0]
theorem x3_setSource {D : Nat} (hD : 3 ≤ D) (i1 s : Nat) (hs : s < 6) (M : Mem) :
    EX L xs (D) q_X3_setSource [.inr (.inr (25, 0)), .inr (.inr (3, i1)), .inl (nI s)] M O = (some (.inl none, mput (mput (mput (mput M 25 0 0 (M 10 i1 s)) 25 0 1 1) 25 0 2 (M 11 i1 s)) 25 0 3 (M 12 i1 s), O, 0, 0) : Res) := by
  obtain ⟨d, rfl⟩ : ∃ d, D = d + 2 := ⟨D - 2, by omega⟩
  refine (EX_in mi_X3_setSource rfl rfl rfl (ls := [some (.inr (.inr (25, 0))), some (.inr (.inr (3, i1))), some (.inl (nI s))]) rfl).trans ?_
  simp (disch := first | omega | rfl | decide) only [e_X3_setSource_0, e_X3_setSource_23, xr_v, xr_n, hl_of, hl_cl, hl_toInt, hl_le, hl_lt, hl_eq, nI_add, hl_sub, pk_mul, hl_div, if_pos, if_neg, ↓reduceIte, Nat.reduceAdd, Nat.reduceSub, Nat.reduceMul, Nat.add_zero, Nat.zero_add, mp_s, mp_k, mp_i, mp_g, mr_s, mr_i, mr_g, zlt_0, zlt_1, zlt_2, zlt_3, zlt_4, zlt_5, zlt_6, zlt_8, zlt_12, zlt_15, zlt_20, zlt_24, zlt_36, zlt_40, zlt_48, zlt_80, zlt_97, zlt_120, zlt_256, zlt_600, zlt_99999999, zadd_1, zadd_2, zadd_5, zadd_6, zadd_8, zadd_20, zadd_24, zeq_0, zeq_1, zeq_2, zeq_3, zeq_4, zeq_5, zeq_6, zeq_7, zeq_8, zeq_13, zeq_14, zeq_20, zeq_32, zeq_59, zeq_60, zeq_80, zmul_2, zmul_4, zmul_6, zmul_8, zmul_10, zmul_24, zsub_1, zsub_2, zsub_10, zsub_48, zsub_97, zle_0, zle_1, zle_2, zle_6, zle_11, zle_200, zle_600, zle_100000000, ylt_0, ylt_1, ylt_2, ylt_3, ylt_6, ylt_9, ylt_20, ylt_24, ylt_57, ylt_60, ylt_99, ylt_120, ylt_122, ylt_999, ylt_9999, yle_0, yle_2, yle_4, yle_5, yle_6, yle_7, yle_8, yle_10, yle_12, yle_13, yle_15, yle_16, yle_20, yle_24, yle_40, yle_60, yle_64, yle_80, yadd_1, yadd_22, ymul_2, ymul_4, ymul_6, ymul_8, ymul_10, ymul_24, ymul_27, ymul_100, ysub_1, ysub_24, zdiv_2, zdiv_4, zdiv_24, x3_setSound L xs O (D := d + 1) (by omega)]
theorem x3_near {D : Nat} (hD : 2 ≤ D) (i1 y : Nat) (M : Mem) (hx : M 25 0 5 = nI y) (h40 : y < 40) :
    EX L xs (D) q_X3_isNearGround [.inr (.inr (25, 0)), .inr (.inr (3, i1))] M O = (some (.inl (some (.inl (if 2 < M 25 0 7 - M 5 i1 y then 0 else 1))), M, O, 0, 0) : Res) := by
  obtain ⟨d, rfl⟩ : ∃ d, D = d + 2 := ⟨D - 2, by omega⟩
  refine (EX_in mi_X3_isNearGround rfl rfl rfl (ls := [some (.inr (.inr (25, 0))), some (.inr (.inr (3, i1)))]) rfl).trans ?_
  by_cases h : 2 < M 25 0 7 - M 5 i1 y
  · rw [e_X3_isNearGround_0, hx, if_pos (in_40 h40), hl_cl (by omega), if_pos h, if_pos h, e_X3_isNearGround_23, if_pos (Or.inl rfl)]
  · rw [e_X3_isNearGround_0, hx, if_pos (in_40 h40), hl_cl (by omega), if_neg h, if_neg h, e_X3_isNearGround_23, if_pos (Or.inr rfl)]
end
