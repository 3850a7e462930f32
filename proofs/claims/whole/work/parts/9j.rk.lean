/-! What is read is a LAND. -/
theorem vN_of {V : Vw} {g k m : Nat} (h : V g k = nI m) (hm : m < 2147483648) : vN V g k = m := by
  unfold vN
  rw [h, hl_cl hm]
theorem RK_mk {U : Vw} {n nh ns nw : Nat} (h : VOK U n nh ns nw) (h2 : ∀ j, j < 40 → (U 4 j = nI (vN U 4 j) ∧ vN U 4 j < 4) ∧ (U 5 j = nI (vN U 5 j) ∧ vN U 5 j ≤ 9) ∧ (U 6 j = nI (vN U 6 j) ∧ vN U 6 j ≤ 9)) : RK U := by
  obtain ⟨v0, v1, v2, v3, v4, v5, v6, v7, v8, -⟩ := id h
  refine ⟨?_, h2⟩
  rw [vN_of v0 (by omega), vN_of v1 (by omega), vN_of v2 (by omega), vN_of v3 (by omega)]
  exact h
def qB (b : Nat) (x : Int32) : Prop := x = nI x.toNatClampNeg ∧ x.toNatClampNeg < b
def qL (b : Nat) (x : Int32) : Prop := x = nI x.toNatClampNeg ∧ x.toNatClampNeg ≤ b
theorem qB_n {b m : Nat} (h : m < b) (hb : m < 2147483648) : qB b (nI m) := by
  unfold qB
  rw [hl_cl hb]
  exact ⟨rfl, h⟩
theorem qL_n {b m : Nat} (h : m ≤ b) (hb : m < 2147483648) : qL b (nI m) := by
  unfold qL
  rw [hl_cl hb]
  exact ⟨rfl, h⟩
theorem q_eq {P : Int32 → Prop} {x y : Int32} (e : x = y) (h : P y) : P x := by
  rw [e]
  exact h
theorem WOK_c {U V : Vw} {n nh ns nh' ns' w : Nat} (h : WOK U n nh ns w) (e1 : V 14 w = U 14 w) (e2 : V 15 w = U 15 w) (e3 : V 16 w = U 16 w) (a : nh ≤ nh') (b : ns ≤ ns') : WOK V n nh' ns' w := by
  unfold WOK vN at *
  rw [e1, e2, e3]
  obtain ⟨h1, h2, h3⟩ := h
  refine ⟨h1, h2, ?_⟩
  rcases h3 with h | h | h | h
  · exact Or.inl h
  · exact Or.inr (Or.inl h)
  · exact Or.inr (Or.inr (Or.inl ⟨h.1, by omega, h.2.2⟩))
  · exact Or.inr (Or.inr (Or.inr ⟨h.1, by omega, h.2.2⟩))
theorem vwk_o {U : Vw} {nw g k : Nat} {a x y z : Int32} (h : ¬ (g = 3 ∧ k = 13)) (h2 : ¬ (14 ≤ g ∧ g ≤ 17 ∧ k = nw)) : vwk U nw a x y z g k = U g k := by
  unfold vwk vput
  rw [if_neg h, if_neg (by omega), if_neg (by omega), if_neg (by omega), if_neg (by omega)]
section
variable {U : Vw}
theorem RK_cells (hU : RK U) {v : Nat} (h8 : 8 ≤ v) (h40 : v ≤ 40) (z1 : vN U 3 4 = 0) (z2 : vN U 3 8 = 0) (z3 : vN U 3 13 = 0) : RK (vput U 3 0 (nI v)) := by
  obtain ⟨⟨v0, v1, v2, v3, v4, v5, v6, v7, v8, vk, vh, vw, vc, vs, vl, vwk', vcn⟩, hq⟩ := hU
  rw [z1] at v1
  rw [z2] at v2
  rw [z3] at v3
  have ha : ∀ j, j < 40 → (qB 4 (vput U 3 0 (nI v) 4 j)) ∧ (qL 9 (vput U 3 0 (nI v) 5 j)) ∧ (qL 9 (vput U 3 0 (nI v) 6 j)) := fun j hj => ⟨q_eq (vp_g (by omega)) (hq j hj).1, q_eq (vp_g (by omega)) (hq j hj).2.1, q_eq (vp_g (by omega)) (hq j hj).2.2⟩
  refine RK_mk (n := v) (nh := 0) (ns := 0) (nw := 0) ⟨vp_s, (vp_k (by omega)).trans v1, (vp_k (by omega)).trans v2, (vp_k (by omega)).trans v3, h8, h40, by omega, by omega, by omega, fun j hj => (ha j (by omega)).1, fun j hj => (ha j (by omega)).2.1, fun j hj => (ha j (by omega)).2.2, fun k hk => absurd hk (by omega), fun k hk => absurd hk (by omega), fun k hk => absurd hk (by omega), fun k hk => absurd hk (by omega), fun k hk => absurd hk (by omega)⟩ ha
theorem RK_ground (hU : RK U) {a e x y : Nat} (hx : x < 4) (hy : y ≤ 9) : RK (vgr U a e (nI x) (nI y)) := by
  obtain ⟨⟨v0, v1, v2, v3, v4, v5, v6, v7, v8, vk, vh, vw, vc, vs, vl, vwk', vcn⟩, hq⟩ := hU
  have o : ∀ g k, g ≠ 4 → g ≠ 5 → vgr U a e (nI x) (nI y) g k = U g k := by
    intro g k h1 h2
    unfold vgr
    rw [if_neg (by omega), if_neg (by omega)]
  have ha : ∀ j, j < 40 → (qB 4 (vgr U a e (nI x) (nI y) 4 j)) ∧ (qL 9 (vgr U a e (nI x) (nI y) 5 j)) ∧ (qL 9 (vgr U a e (nI x) (nI y) 6 j)) := by
    intro j hj
    refine ⟨?_, ?_, q_eq (o 6 j (by omega) (by omega)) (hq j hj).2.2⟩
    · unfold vgr
      by_cases c : a ≤ j ∧ j < e
      · rw [if_pos (by omega)]
        exact qB_n hx (by omega)
      · rw [if_neg (by omega), if_neg (by omega)]
        exact (hq j hj).1
    · unfold vgr
      by_cases c : a ≤ j ∧ j < e
      · rw [if_neg (by omega), if_pos (by omega)]
        exact qL_n hy (by omega)
      · rw [if_neg (by omega), if_neg (by omega)]
        exact (hq j hj).2.1
  exact RK_mk ⟨(o _ _ (by omega) (by omega)).trans v0, (o _ _ (by omega) (by omega)).trans v1, (o _ _ (by omega) (by omega)).trans v2, (o _ _ (by omega) (by omega)).trans v3, v4, v5, v6, v7, v8, fun j hj => (ha j (by omega)).1, fun j hj => (ha j (by omega)).2.1, fun j hj => (ha j (by omega)).2.2, fun k hk => q_eq (P := qB _) (o _ _ (by omega) (by omega)) (vc k hk), fun k hk => q_eq (P := qB _) (o _ _ (by omega) (by omega)) (vs k hk), fun k hk => q_eq (P := qL _) (o _ _ (by omega) (by omega)) (vl k hk), fun k hk => WOK_c (vwk' k hk) (o _ _ (by omega) (by omega)) (o _ _ (by omega) (by omega)) (o _ _ (by omega) (by omega)) (Nat.le_refl _) (Nat.le_refl _), fun k hk => q_eq (P := qL _) (o _ _ (by omega) (by omega)) (vcn k hk)⟩ ha
theorem RK_wall (hU : RK U) {a x : Nat} (hx : x ≤ 9) : RK (vput U 6 a (nI x)) := by
  obtain ⟨⟨v0, v1, v2, v3, v4, v5, v6, v7, v8, vk, vh, vw, vc, vs, vl, vwk', vcn⟩, hq⟩ := hU
  have ha : ∀ j, j < 40 → (qB 4 (vput U 6 a (nI x) 4 j)) ∧ (qL 9 (vput U 6 a (nI x) 5 j)) ∧ (qL 9 (vput U 6 a (nI x) 6 j)) := by
    intro j hj
    refine ⟨q_eq (vp_g (by omega)) (hq j hj).1, q_eq (vp_g (by omega)) (hq j hj).2.1, ?_⟩
    by_cases c : j = a
    · rw [c, vp_s]
      exact qL_n hx (by omega)
    · exact q_eq (vp_k c) (hq j hj).2.2
  exact RK_mk ⟨(vp_g (by omega)).trans v0, (vp_g (by omega)).trans v1, (vp_g (by omega)).trans v2, (vp_g (by omega)).trans v3, v4, v5, v6, v7, v8, fun j hj => (ha j (by omega)).1, fun j hj => (ha j (by omega)).2.1, fun j hj => (ha j (by omega)).2.2, fun k hk => q_eq (P := qB _) (vp_g (by omega)) (vc k hk), fun k hk => q_eq (P := qB _) (vp_g (by omega)) (vs k hk), fun k hk => q_eq (P := qL _) (vp_g (by omega)) (vl k hk), fun k hk => WOK_c (vwk' k hk) (vp_g (by omega)) (vp_g (by omega)) (vp_g (by omega)) (Nat.le_refl _) (Nat.le_refl _), fun k hk => q_eq (P := qL _) (vp_g (by omega)) (vcn k hk)⟩ ha
theorem RK_hum (hU : RK U) {a : Nat} {x : Int32} : RK (vput U 9 a x) := by
  obtain ⟨⟨v0, v1, v2, v3, v4, v5, v6, v7, v8, vk, vh, vw, vc, vs, vl, vwk', vcn⟩, hq⟩ := hU
  have ha : ∀ j, j < 40 → (qB 4 (vput U 9 a x 4 j)) ∧ (qL 9 (vput U 9 a x 5 j)) ∧ (qL 9 (vput U 9 a x 6 j)) := fun j hj => ⟨q_eq (vp_g (by omega)) (hq j hj).1, q_eq (vp_g (by omega)) (hq j hj).2.1, q_eq (vp_g (by omega)) (hq j hj).2.2⟩
  exact RK_mk ⟨(vp_g (by omega)).trans v0, (vp_g (by omega)).trans v1, (vp_g (by omega)).trans v2, (vp_g (by omega)).trans v3, v4, v5, v6, v7, v8, fun j hj => (ha j (by omega)).1, fun j hj => (ha j (by omega)).2.1, fun j hj => (ha j (by omega)).2.2, fun k hk => q_eq (P := qB _) (vp_g (by omega)) (vc k hk), fun k hk => q_eq (P := qB _) (vp_g (by omega)) (vs k hk), fun k hk => q_eq (P := qL _) (vp_g (by omega)) (vl k hk), fun k hk => WOK_c (vwk' k hk) (vp_g (by omega)) (vp_g (by omega)) (vp_g (by omega)) (Nat.le_refl _) (Nat.le_refl _), fun k hk => q_eq (P := qL _) (vp_g (by omega)) (vcn k hk)⟩ ha
theorem RK_house (hU : RK U) {x : Nat} {y : Int32} (hx : x < vN U 3 0) (h8 : vN U 3 4 < 8) : RK (vput (vput (vput U 7 (vN U 3 4) (nI x)) 8 (vN U 3 4) y) 3 4 (nI (vN U 3 4 + 1))) := by
  obtain ⟨⟨v0, v1, v2, v3, v4, v5, v6, v7, v8, vk, vh, vw, vc, vs, vl, vwk', vcn⟩, hq⟩ := hU
  generalize hV : vput (vput (vput U 7 (vN U 3 4) (nI x)) 8 (vN U 3 4) y) 3 4 (nI (vN U 3 4 + 1)) = V
  have o : ∀ g k, ¬ (g = 3 ∧ k = 4) → ¬ ((g = 7 ∨ g = 8) ∧ k = vN U 3 4) → V g k = U g k := by
    intro g k h1 h2
    rw [← hV]
    unfold vput
    rw [if_neg h1, if_neg (by omega), if_neg (by omega)]
  have e7 : V 7 (vN U 3 4) = nI x := by rw [← hV, vp_g (by omega), vp_g (by omega), vp_s]
  have e4 : V 3 4 = nI (vN U 3 4 + 1) := by rw [← hV, vp_s]
  have ha : ∀ j, j < 40 → (qB 4 (V 4 j)) ∧ (qL 9 (V 5 j)) ∧ (qL 9 (V 6 j)) := fun j hj => ⟨q_eq (o _ _ (by omega) (by omega)) (hq j hj).1, q_eq (o _ _ (by omega) (by omega)) (hq j hj).2.1, q_eq (o _ _ (by omega) (by omega)) (hq j hj).2.2⟩
  refine RK_mk ⟨(o _ _ (by omega) (by omega)).trans v0, e4, (o _ _ (by omega) (by omega)).trans v2, (o _ _ (by omega) (by omega)).trans v3, v4, v5, by omega, v7, v8, fun j hj => (ha j (by omega)).1, fun j hj => (ha j (by omega)).2.1, fun j hj => (ha j (by omega)).2.2, fun k hk => ?_, fun k hk => q_eq (P := qB _) (o _ _ (by omega) (by omega)) (vs k hk), fun k hk => q_eq (P := qL _) (o _ _ (by omega) (by omega)) (vl k hk), fun k hk => WOK_c (vwk' k hk) (o _ _ (by omega) (by omega)) (o _ _ (by omega) (by omega)) (o _ _ (by omega) (by omega)) (by omega) (Nat.le_refl _), fun k hk => q_eq (P := qL _) (o _ _ (by omega) (by omega)) (vcn k hk)⟩ ha
  by_cases c : k = vN U 3 4
  · rw [c]
    exact q_eq (P := qB _) e7 (qB_n hx (by omega))
  · exact q_eq (P := qB _) (o _ _ (by omega) (by omega)) (vc k (by omega))
theorem RK_source (hU : RK U) {x l : Nat} {y z : Int32} (hx : x < vN U 3 0) (hl : l ≤ 120) (h6 : vN U 3 8 < 6) : RK (vput (vput (vput (vput (vput U 10 (vN U 3 8) (nI x)) 11 (vN U 3 8) (nI l)) 12 (vN U 3 8) y) 13 (vN U 3 8) z) 3 8 (nI (vN U 3 8 + 1))) := by
  obtain ⟨⟨v0, v1, v2, v3, v4, v5, v6, v7, v8, vk, vh, vw, vc, vs, vl, vwk', vcn⟩, hq⟩ := hU
  generalize hV : vput (vput (vput (vput (vput U 10 (vN U 3 8) (nI x)) 11 (vN U 3 8) (nI l)) 12 (vN U 3 8) y) 13 (vN U 3 8) z) 3 8 (nI (vN U 3 8 + 1)) = V
  have o : ∀ g k, ¬ (g = 3 ∧ k = 8) → ¬ (10 ≤ g ∧ g ≤ 13 ∧ k = vN U 3 8) → V g k = U g k := by
    intro g k h1 h2
    rw [← hV]
    unfold vput
    rw [if_neg h1, if_neg (by omega), if_neg (by omega), if_neg (by omega), if_neg (by omega)]
  have e10 : V 10 (vN U 3 8) = nI x := by rw [← hV, vp_g (by omega), vp_g (by omega), vp_g (by omega), vp_g (by omega), vp_s]
  have e11 : V 11 (vN U 3 8) = nI l := by rw [← hV, vp_g (by omega), vp_g (by omega), vp_g (by omega), vp_s]
  have e8 : V 3 8 = nI (vN U 3 8 + 1) := by rw [← hV, vp_s]
  have ha : ∀ j, j < 40 → (qB 4 (V 4 j)) ∧ (qL 9 (V 5 j)) ∧ (qL 9 (V 6 j)) := fun j hj => ⟨q_eq (o _ _ (by omega) (by omega)) (hq j hj).1, q_eq (o _ _ (by omega) (by omega)) (hq j hj).2.1, q_eq (o _ _ (by omega) (by omega)) (hq j hj).2.2⟩
  refine RK_mk ⟨(o _ _ (by omega) (by omega)).trans v0, (o _ _ (by omega) (by omega)).trans v1, e8, (o _ _ (by omega) (by omega)).trans v3, v4, v5, v6, by omega, v8, fun j hj => (ha j (by omega)).1, fun j hj => (ha j (by omega)).2.1, fun j hj => (ha j (by omega)).2.2, fun k hk => q_eq (P := qB _) (o _ _ (by omega) (by omega)) (vc k hk), fun k hk => ?_, fun k hk => ?_, fun k hk => WOK_c (vwk' k hk) (o _ _ (by omega) (by omega)) (o _ _ (by omega) (by omega)) (o _ _ (by omega) (by omega)) (Nat.le_refl _) (by omega), fun k hk => q_eq (P := qL _) (o _ _ (by omega) (by omega)) (vcn k hk)⟩ ha
  · by_cases c : k = vN U 3 8
    · rw [c]
      exact q_eq (P := qB _) e10 (qB_n hx (by omega))
    · exact q_eq (P := qB _) (o _ _ (by omega) (by omega)) (vs k (by omega))
  · by_cases c : k = vN U 3 8
    · rw [c]
      exact q_eq (P := qL _) e11 (qL_n hl (by omega))
    · exact q_eq (P := qL _) (o _ _ (by omega) (by omega)) (vl k (by omega))
theorem RK_work (hU : RK U) {a : Int32} {x y z : Nat} (h8 : vN U 3 13 < 8) (hz : z ≤ 99) (hx : x < 100) (hy : y < 100) (hw : (a = 6 ∧ x < vN U 3 0 ∧ y ≤ 9) ∨ (a = 7 ∧ x ≤ y ∧ y < vN U 3 0) ∨ (a = 8 ∧ x < vN U 3 8 ∧ y ≤ 99) ∨ (a = 9 ∧ x < vN U 3 4 ∧ y ≤ 30)) : RK (vwk U (vN U 3 13) a (nI x) (nI y) (nI z)) := by
  obtain ⟨⟨v0, v1, v2, v3, v4, v5, v6, v7, v8, vk, vh, vw, vc, vs, vl, vwk', vcn⟩, hq⟩ := hU
  generalize hV : vwk U (vN U 3 13) a (nI x) (nI y) (nI z) = V
  have o : ∀ g k, ¬ (g = 3 ∧ k = 13) → ¬ (14 ≤ g ∧ g ≤ 17 ∧ k = vN U 3 13) → V g k = U g k := by
    intro g k h1 h2
    rw [← hV]
    exact vwk_o h1 h2
  unfold vwk at hV
  have e14 : V 14 (vN U 3 13) = a := by rw [← hV, vp_g (by omega), vp_g (by omega), vp_g (by omega), vp_g (by omega), vp_s]
  have e15 : V 15 (vN U 3 13) = nI x := by rw [← hV, vp_g (by omega), vp_g (by omega), vp_g (by omega), vp_s]
  have e16 : V 16 (vN U 3 13) = nI y := by rw [← hV, vp_g (by omega), vp_g (by omega), vp_s]
  have e17 : V 17 (vN U 3 13) = nI z := by rw [← hV, vp_g (by omega), vp_s]
  have e13 : V 3 13 = nI (vN U 3 13 + 1) := by rw [← hV, vp_s]
  have ha : ∀ j, j < 40 → (qB 4 (V 4 j)) ∧ (qL 9 (V 5 j)) ∧ (qL 9 (V 6 j)) := fun j hj => ⟨q_eq (o _ _ (by omega) (by omega)) (hq j hj).1, q_eq (o _ _ (by omega) (by omega)) (hq j hj).2.1, q_eq (o _ _ (by omega) (by omega)) (hq j hj).2.2⟩
  refine RK_mk ⟨(o _ _ (by omega) (by omega)).trans v0, (o _ _ (by omega) (by omega)).trans v1, (o _ _ (by omega) (by omega)).trans v2, e13, v4, v5, v6, v7, by omega, fun j hj => (ha j (by omega)).1, fun j hj => (ha j (by omega)).2.1, fun j hj => (ha j (by omega)).2.2, fun k hk => q_eq (P := qB _) (o _ _ (by omega) (by omega)) (vc k hk), fun k hk => q_eq (P := qB _) (o _ _ (by omega) (by omega)) (vs k hk), fun k hk => q_eq (P := qL _) (o _ _ (by omega) (by omega)) (vl k hk), fun k hk => ?_, fun k hk => ?_⟩ ha
  · by_cases c : k = vN U 3 13
    · rw [c]
      unfold WOK
      rw [e14, e15, e16, vN_of e15 (by omega), vN_of e16 (by omega)]
      exact ⟨rfl, rfl, hw⟩
    · exact WOK_c (vwk' k (by omega)) (o _ _ (by omega) (by omega)) (o _ _ (by omega) (by omega)) (o _ _ (by omega) (by omega)) (Nat.le_refl _) (Nat.le_refl _)
  · by_cases c : k = vN U 3 13
    · rw [c]
      exact q_eq (P := qL _) e17 (qL_n hz (by omega))
    · exact q_eq (P := qL _) (o _ _ (by omega) (by omega)) (vcn k (by omega))
end
