/-! A LAND's clause: the reference. -/
def MRd (M : Mem) (U : Vw) : Prop := MRx M U (vN U 3 0) (vN U 3 4) (vN U 3 8) (vN U 3 13)
def sHr (w0 g i k : Nat) : Bool := decide ((g = 40 ∧ (k = 4 ∨ k = 5 ∨ k = 6)) ∨ (g = 43 ∧ k = 1) ∨ (g = 54 ∧ i = w0))
def sSr (w0 g i k : Nat) : Bool := decide ((g = 40 ∧ (k = 4 ∨ k = 5 ∨ k = 6)) ∨ (g = 43 ∧ k = 2) ∨ (g = 58 ∧ i = w0))
theorem sHr_M {w0 : Nat} (g i k : Nat) (h : sHr w0 g i k = false) : sM g i k = false := by
  have := of_decide_eq_false h
  exact decide_eq_false (by omega)
theorem sHr_6 {w0 : Nat} (g i k : Nat) (h : sN6 g i k = false) : sHr w0 g i k = false := by
  have := of_decide_eq_false h
  exact decide_eq_false (by omega)
theorem sHr_s {w0 k : Nat} : sHr w0 54 w0 k = true := decide_eq_true (by omega)
theorem sHr_q {w0 : Nat} : sHr w0 43 0 1 = true := decide_eq_true (by omega)
theorem MX_sHr {M M' : Mem} {tx : Nat → Nat} {N w : Nat} (h : MX M tx N) (fr : Fr (sHr w) M M') : MX M' tx N := ⟨h.1, (fr 40 0 2 (decide_eq_false (by omega))).trans h.2.1, fun i hi => ⟨(fr 41 0 i (decide_eq_false (by omega))).trans (h.2.2 i hi).1, (h.2.2 i hi).2⟩⟩
theorem sSr_M {w0 : Nat} (g i k : Nat) (h : sSr w0 g i k = false) : sM g i k = false := by
  have := of_decide_eq_false h
  exact decide_eq_false (by omega)
theorem sSr_6 {w0 : Nat} (g i k : Nat) (h : sN6 g i k = false) : sSr w0 g i k = false := by
  have := of_decide_eq_false h
  exact decide_eq_false (by omega)
theorem sSr_s {w0 k : Nat} : sSr w0 58 w0 k = true := decide_eq_true (by omega)
theorem sSr_q {w0 : Nat} : sSr w0 43 0 2 = true := decide_eq_true (by omega)
theorem MX_sSr {M M' : Mem} {tx : Nat → Nat} {N w : Nat} (h : MX M tx N) (fr : Fr (sSr w) M M') : MX M' tx N := ⟨h.1, (fr 40 0 2 (decide_eq_false (by omega))).trans h.2.1, fun i hi => ⟨(fr 41 0 i (decide_eq_false (by omega))).trans (h.2.2 i hi).1, (h.2.2 i hi).2⟩⟩
theorem MRx_v {M : Mem} {U V : Vw} {n nh ns nw : Nat} (h : MRx M U n nh ns nw) (e : ∀ g k, 4 ≤ g → V g k = U g k) : MRx M V n nh ns nw := by
  obtain ⟨h0, h1, h2, h3, h4, h5, h6, h7, h8⟩ := h
  refine ⟨h0, h1, h2, h3, fun j hj => ?_, fun j hj => ?_, fun k hk => ?_, fun s hs => ?_, fun w hw => ?_⟩
  · rw [e 4 j (by omega), e 5 j (by omega), e 6 j (by omega)]
    exact h4 j hj
  · rw [e 9 j (by omega)]
    exact h5 j hj
  · rw [e 7 k (by omega), e 8 k (by omega)]
    exact h6 k hk
  · rw [e 10 s (by omega), e 11 s (by omega), e 12 s (by omega), e 13 s (by omega)]
    exact h7 s hs
  · rw [e 14 w (by omega), e 15 w (by omega), e 16 w (by omega), e 17 w (by omega)]
    exact h8 w hw
theorem MRx_H {M M' : Mem} {U : Vw} {n nh ns nw : Nat} {a b c : Int32} (h : MRx M U n nh ns nw) (fr : Fr (sHr nh) M M') (e1 : M' 43 0 1 = nI (nh + 1)) (e2 : M' 54 nh 0 = a) (e3 : M' 54 nh 1 = b) : MRx M' (vput (vput (vput U 7 nh a) 8 nh b) 3 4 c) n (nh + 1) ns nw := by
  obtain ⟨h0, h1, h2, h3, h4, h5, h6, h7, h8⟩ := h
  have e : ∀ g i k, ¬ (g = 40) → ¬ (g = 43 ∧ k = 1) → ¬ (g = 54 ∧ i = nh) → M' g i k = M g i k := fun g i k x y z => fr g i k (decide_eq_false (by omega))
  have o : ∀ g k, g ≠ 3 → ¬ ((g = 7 ∨ g = 8) ∧ k = nh) → vput (vput (vput U 7 nh a) 8 nh b) 3 4 c g k = U g k := by
    intro g k x y
    unfold vput
    rw [if_neg (by omega), if_neg (by omega), if_neg (by omega)]
  refine ⟨(e _ _ _ (by omega) (by omega) (by omega)).trans h0, e1, (e _ _ _ (by omega) (by omega) (by omega)).trans h2, (e _ _ _ (by omega) (by omega) (by omega)).trans h3, fun j hj => ?_, fun j hj => ?_, fun k hk => ?_, fun s hs => ?_, fun w hw => ?_⟩
  · rw [o 4 j (by omega) (by omega), o 5 j (by omega) (by omega), o 6 j (by omega) (by omega), e 45 0 j (by omega) (by omega) (by omega), e 46 0 j (by omega) (by omega) (by omega), e 47 0 j (by omega) (by omega) (by omega)]
    exact h4 j hj
  · rw [o 9 j (by omega) (by omega), e 48 0 j (by omega) (by omega) (by omega)]
    exact h5 j hj
  · by_cases q : k = nh
    · rw [q, e2, e3, vp_g (by omega), vp_g (by omega), vp_s, vp_g (by omega), vp_s]
      exact ⟨rfl, rfl⟩
    · rw [o 7 k (by omega) (by omega), o 8 k (by omega) (by omega), e 54 k 0 (by omega) (by omega) (by omega), e 54 k 1 (by omega) (by omega) (by omega)]
      exact h6 k (by omega)
  · rw [o 10 s (by omega) (by omega), o 11 s (by omega) (by omega), o 12 s (by omega) (by omega), o 13 s (by omega) (by omega), e 58 s 0 (by omega) (by omega) (by omega), e 58 s 1 (by omega) (by omega) (by omega), e 58 s 2 (by omega) (by omega) (by omega), e 58 s 3 (by omega) (by omega) (by omega)]
    exact h7 s hs
  · rw [o 14 w (by omega) (by omega), o 15 w (by omega) (by omega), o 16 w (by omega) (by omega), o 17 w (by omega) (by omega), e 62 w 0 (by omega) (by omega) (by omega), e 62 w 1 (by omega) (by omega) (by omega), e 62 w 2 (by omega) (by omega) (by omega), e 62 w 3 (by omega) (by omega) (by omega)]
    exact h8 w hw
theorem MRx_S {M M' : Mem} {U : Vw} {n nh ns nw : Nat} {a b c x y : Int32} (h : MRx M U n nh ns nw) (fr : Fr (sSr ns) M M') (e1 : M' 43 0 2 = nI (ns + 1)) (e2 : M' 58 ns 0 = a) (e3 : M' 58 ns 1 = b) (e4 : M' 58 ns 2 = x) (e5 : M' 58 ns 3 = y) : MRx M' (vput (vput (vput (vput (vput U 10 ns a) 11 ns b) 12 ns x) 13 ns y) 3 8 c) n nh (ns + 1) nw := by
  obtain ⟨h0, h1, h2, h3, h4, h5, h6, h7, h8⟩ := h
  have e : ∀ g i k, ¬ (g = 40) → ¬ (g = 43 ∧ k = 2) → ¬ (g = 58 ∧ i = ns) → M' g i k = M g i k := fun g i k x y z => fr g i k (decide_eq_false (by omega))
  have o : ∀ g k, g ≠ 3 → ¬ (10 ≤ g ∧ g ≤ 13 ∧ k = ns) → vput (vput (vput (vput (vput U 10 ns a) 11 ns b) 12 ns x) 13 ns y) 3 8 c g k = U g k := by
    intro g k x y
    unfold vput
    rw [if_neg (by omega), if_neg (by omega), if_neg (by omega), if_neg (by omega), if_neg (by omega)]
  refine ⟨(e _ _ _ (by omega) (by omega) (by omega)).trans h0, (e _ _ _ (by omega) (by omega) (by omega)).trans h1, e1, (e _ _ _ (by omega) (by omega) (by omega)).trans h3, fun j hj => ?_, fun j hj => ?_, fun k hk => ?_, fun s hs => ?_, fun w hw => ?_⟩
  · rw [o 4 j (by omega) (by omega), o 5 j (by omega) (by omega), o 6 j (by omega) (by omega), e 45 0 j (by omega) (by omega) (by omega), e 46 0 j (by omega) (by omega) (by omega), e 47 0 j (by omega) (by omega) (by omega)]
    exact h4 j hj
  · rw [o 9 j (by omega) (by omega), e 48 0 j (by omega) (by omega) (by omega)]
    exact h5 j hj
  · rw [o 7 k (by omega) (by omega), o 8 k (by omega) (by omega), e 54 k 0 (by omega) (by omega) (by omega), e 54 k 1 (by omega) (by omega) (by omega)]
    exact h6 k hk
  · by_cases q : s = ns
    · rw [q, e2, e3, e4, e5, vp_g (by omega), vp_g (by omega), vp_g (by omega), vp_g (by omega), vp_s, vp_g (by omega), vp_g (by omega), vp_g (by omega), vp_s, vp_g (by omega), vp_g (by omega), vp_s, vp_g (by omega), vp_s]
      exact ⟨rfl, rfl, rfl, rfl⟩
    · rw [o 10 s (by omega) (by omega), o 11 s (by omega) (by omega), o 12 s (by omega) (by omega), o 13 s (by omega) (by omega), e 58 s 0 (by omega) (by omega) (by omega), e 58 s 1 (by omega) (by omega) (by omega), e 58 s 2 (by omega) (by omega) (by omega), e 58 s 3 (by omega) (by omega) (by omega)]
      exact h7 s (by omega)
  · rw [o 14 w (by omega) (by omega), o 15 w (by omega) (by omega), o 16 w (by omega) (by omega), o 17 w (by omega) (by omega), e 62 w 0 (by omega) (by omega) (by omega), e 62 w 1 (by omega) (by omega) (by omega), e 62 w 2 (by omega) (by omega) (by omega), e 62 w 3 (by omega) (by omega) (by omega)]
    exact h8 w hw
theorem MRx_W {M M' : Mem} {U : Vw} {n nh ns nw : Nat} {a x y z m : Int32} (h : MRx M U n nh ns nw) (fr : Fr (sW nw) M M') (e1 : M' 43 0 3 = nI (nw + 1)) (hm : m = a - 3) (e2 : M' 62 nw 0 = m) (e3 : M' 62 nw 1 = x) (e4 : M' 62 nw 2 = y) (e5 : M' 62 nw 3 = z) : MRx M' (vwk U nw a x y z) n nh ns (nw + 1) := by
  obtain ⟨h0, h1, h2, h3, h4, h5, h6, h7, h8⟩ := h
  have e : ∀ g i k, ¬ (g = 40) → ¬ (g = 43 ∧ k = 3) → ¬ (g = 62 ∧ i = nw) → M' g i k = M g i k := fun g i k x y z => fr g i k (decide_eq_false (by omega))
  have o : ∀ g k, g ≠ 3 → ¬ (14 ≤ g ∧ g ≤ 17 ∧ k = nw) → vwk U nw a x y z g k = U g k := fun g k p q => vwk_o (by omega) q
  refine ⟨(e _ _ _ (by omega) (by omega) (by omega)).trans h0, (e _ _ _ (by omega) (by omega) (by omega)).trans h1, (e _ _ _ (by omega) (by omega) (by omega)).trans h2, e1, fun j hj => ?_, fun j hj => ?_, fun k hk => ?_, fun s hs => ?_, fun w hw => ?_⟩
  · rw [o 4 j (by omega) (by omega), o 5 j (by omega) (by omega), o 6 j (by omega) (by omega), e 45 0 j (by omega) (by omega) (by omega), e 46 0 j (by omega) (by omega) (by omega), e 47 0 j (by omega) (by omega) (by omega)]
    exact h4 j hj
  · rw [o 9 j (by omega) (by omega), e 48 0 j (by omega) (by omega) (by omega)]
    exact h5 j hj
  · rw [o 7 k (by omega) (by omega), o 8 k (by omega) (by omega), e 54 k 0 (by omega) (by omega) (by omega), e 54 k 1 (by omega) (by omega) (by omega)]
    exact h6 k hk
  · rw [o 10 s (by omega) (by omega), o 11 s (by omega) (by omega), o 12 s (by omega) (by omega), o 13 s (by omega) (by omega), e 58 s 0 (by omega) (by omega) (by omega), e 58 s 1 (by omega) (by omega) (by omega), e 58 s 2 (by omega) (by omega) (by omega), e 58 s 3 (by omega) (by omega) (by omega)]
    exact h7 s hs
  · by_cases q : w = nw
    · rw [q, e2, e3, e4, e5, hm]
      unfold vwk
      rw [vp_g (by omega), vp_g (by omega), vp_g (by omega), vp_g (by omega), vp_s, vp_g (by omega), vp_g (by omega), vp_g (by omega), vp_s, vp_g (by omega), vp_g (by omega), vp_s, vp_g (by omega), vp_s]
      exact ⟨rfl, rfl, rfl, rfl⟩
    · rw [o 14 w (by omega) (by omega), o 15 w (by omega) (by omega), o 16 w (by omega) (by omega), o 17 w (by omega) (by omega), e 62 w 0 (by omega) (by omega) (by omega), e 62 w 1 (by omega) (by omega) (by omega), e 62 w 2 (by omega) (by omega) (by omega), e 62 w 3 (by omega) (by omega) (by omega)]
      exact h8 w (by omega)
theorem MRx_wall {M : Mem} {U : Vw} {n nh ns nw a : Nat} {x : Int32} (h : MRx M U n nh ns nw) : MRx (mput M 47 0 a x) (vput U 6 a x) n nh ns nw := by
  obtain ⟨h0, h1, h2, h3, h4, h5, h6, h7, h8⟩ := h
  refine ⟨h0, h1, h2, h3, fun j hj => ⟨(h4 j hj).1, (h4 j hj).2.1, ?_⟩, h5, h6, h7, h8⟩
  by_cases c : j = a
  · rw [c, mp_s, vp_s]
  · rw [mp_k c, vp_k c]
    exact (h4 j hj).2.2
theorem MRx_hum {M : Mem} {U : Vw} {n nh ns nw a : Nat} {x : Int32} (h : MRx M U n nh ns nw) : MRx (mput M 48 0 a x) (vput U 9 a x) n nh ns nw := by
  obtain ⟨h0, h1, h2, h3, h4, h5, h6, h7, h8⟩ := h
  refine ⟨h0, h1, h2, h3, h4, fun j hj => ?_, h6, h7, h8⟩
  by_cases c : j = a
  · rw [c, mp_s, vp_s]
  · rw [mp_k c, vp_k c]
    exact h5 j hj
theorem MPT_l {M : Mem} {N : Nat} {ts : TS} (h : MPT M N ts) (l : ts.isLeft = true) : M 40 0 5 = 0 := by
  cases ts with
  | inl p => exact h.2.2.1
  | inr e => cases l
theorem MPT_n {M : Mem} {N : Nat} {ts : TS} (h : MPT M N ts) (l : ¬ ts.isLeft = true) : ¬ M 40 0 5 = 0 := by
  cases ts with
  | inl p => exact absurd rfl l
  | inr e => exact MPT_5 h
