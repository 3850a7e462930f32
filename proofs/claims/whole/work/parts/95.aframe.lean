/-! Pieces of what holds, carried over where their cells stay. -/
theorem CMd_e {M M' : Mem} {i : Nat} {md : Md} (h : CMd M i md) (e : ∀ g k, 20 ≤ g → g ≤ 23 → M' g i k = M g i k) : CMd M' i md :=
  ⟨(e 20 1 (by omega) (by omega)).trans h.1, fun j hj => (e 21 j (by omega) (by omega)).trans (h.2.1 j hj), fun k hk => (e 22 k (by omega) (by omega)).trans (h.2.2.1 k hk), (e 20 4 (by omega) (by omega)).trans h.2.2.2.1, fun j hj => (e 23 j (by omega) (by omega)).trans (h.2.2.2.2 j hj)⟩
theorem KMd_e {M M' : Mem} {i : Nat} {md : Md} (h : KMd M i md) (e : ∀ k, M' 72 i k = M 72 i k) : KMd M' i md :=
  ⟨(e _).trans h.1, fun j hj => (e _).trans (h.2.1 j hj), fun k hk => (e _).trans (h.2.2.1 k hk), (e _).trans h.2.2.2.1, fun j hj => (e _).trans (h.2.2.2.2 j hj)⟩
theorem LndC_e {M M' : Mem} {T : Vw} {ia : Nat} (h : LndC M T ia) (e0 : ∀ k, k = 1 ∨ k = 2 → M' 0 0 k = M 0 0 k) (e : ∀ g i k, 3 ≤ g → g ≤ 17 → i < 2 → M' g i k = M g i k) : LndC M' T ia :=
  ⟨h.1, (e0 1 (by omega)).trans h.2.1, (e0 2 (by omega)).trans h.2.2.1, fun g k hl => (e g ia k (isLand_le (lk_land hl)).1 (isLand_le (lk_land hl)).2 h.1).trans (h.2.2.2 g k hl)⟩
theorem ImgC_e {M M' : Mem} {nw ni : Nat} {mds : Nat → Md} (h : ImgC M nw ni mds) (e0 : M' 0 0 9 = M 0 0 9) (e1 : M' 40 0 31 = M 40 0 31) (e : ∀ g i k, 20 ≤ g → g ≤ 23 → 1 ≤ i → M' g i k = M g i k) (e2 : ∀ i k, M' 72 i k = M 72 i k) : ImgC M' nw ni mds :=
  ⟨e0.trans h.1, e1.trans h.2.1, h.2.2.1, fun j hj => ⟨(h.2.2.2 j hj).1, CMd_e (h.2.2.2 j hj).2.1 (fun g k a b => e g (j + 1) k a b (by omega)), KMd_e (h.2.2.2 j hj).2.2 (fun k => e2 j k)⟩⟩
theorem TapC_e {M M' : Mem} {nt : Nat} (h : TapC M nt) (e1 : M' 1 0 1 = M 1 0 1) (e2 : M' 40 0 1 = M 40 0 1) (e3 : ∀ i, M' 2 0 i = M 2 0 i) (e4 : ∀ i, M' 41 0 i = M 41 0 i) : TapC M' nt := by
  refine ⟨e1.trans h.1, e2.trans h.2.1, h.2.2.1, fun i hi => ?_⟩
  rw [e3 i, e4 i]
  exact h.2.2.2 i hi
theorem MMd_e {M M' : Mem} {md : Md} (h : MMd M md) (e0 : M' 40 0 29 = M 40 0 29) (e1 : M' 40 0 30 = M 40 0 30) (e : ∀ g k, 68 ≤ g → g ≤ 70 → M' g 0 k = M g 0 k) : MMd M' md :=
  ⟨e0.trans h.1, fun j hj => (e 68 j (by omega) (by omega)).trans (h.2.1 j hj), fun k hk => (e 69 k (by omega) (by omega)).trans (h.2.2.1 k hk), e1.trans h.2.2.2.1, fun j hj => (e 70 j (by omega) (by omega)).trans (h.2.2.2.2 j hj)⟩
/-- the reference's LAND and AIRS, without the WORKS done -/
def MB0 (M : Mem) (T : Vw) (As : Nat → Nat → Int32) (n nh ns nw na : Nat) : Prop := VOK T n nh ns nw ∧ MS M T n nh ns nw ∧ MT M T n nh ns ∧ M 40 0 26 = nI na ∧ na ≤ 6 ∧ ∀ a, a < na → MA M a (As a)
theorem MB_0 {M : Mem} {T : Vw} {f : Nat → Nat} {As : Nat → Nat → Int32} {n nh ns nw na nd : Nat} (h : MB M T f As n nh ns nw na nd) : MB0 M T As n nh ns nw na := ⟨h.1, h.2.1, h.2.2.1, h.2.2.2.2⟩
theorem MB_of {M : Mem} {T : Vw} {As : Nat → Nat → Int32} {n nh ns nw na : Nat} {md : Md} (h : MB0 M T As n nh ns nw na) (hO : MdOK md nw) (hm : MMd M md) : MB M T md.1 As n nh ns nw na md.2.1 :=
  ⟨h.1, h.2.1, h.2.2.1, ⟨hm.1, hO.1, fun i hi => ⟨hm.2.1 i hi, hO.2.1 i hi⟩⟩, h.2.2.2⟩
theorem MB0_e {M M' : Mem} {T : Vw} {As : Nat → Nat → Int32} {n nh ns nw na : Nat} (h : MB0 M T As n nh ns nw na) (e0 : M' 40 0 26 = M 40 0 26) (e : ∀ g i k, 44 ≤ g → g ≤ 67 → M' g i k = M g i k) : MB0 M' T As n nh ns nw na := by
  obtain ⟨h1, h2, h3, h5, h6', h7⟩ := h
  have fr : Fr (fun g _ _ => !(decide (44 ≤ g ∧ g ≤ 67))) M M' := fun g i k hh => by
    rw [Bool.not_eq_false'] at hh
    exact e g i k (of_decide_eq_true hh).1 (of_decide_eq_true hh).2
  refine ⟨h1, MS_fr h2 fr (fun g i k a b => ?_), ⟨fun j hj => ?_, fun k hk => ?_, fun s hs => ?_⟩, e0.trans h5, h6', fun a ha => MA_fr (h7 a ha) fr (fun k => rfl)⟩
  · rw [Bool.not_eq_false']
    exact decide_eq_true (by omega)
  · rw [e 49 0 j (by omega) (by omega), e 51 0 j (by omega) (by omega)]
    exact h3.1 j hj
  · rw [e 56 k 1 (by omega) (by omega)]
    exact h3.2.1 k hk
  · rw [e 60 s 1 (by omega) (by omega)]
    exact h3.2.2 s hs
/-- nothing is kept -/
def CC0 (M : Mem) : Prop := (∀ i, i < 36 → M 28 0 i = 0) ∧ M 0 0 12 = -1
theorem CC_0 {M : Mem} {V : Vw} {As : Nat → Nat → Int32} {n nh ns nw na : Nat} (h : CC0 M) : CC M V As n nh ns nw na := ⟨fun i hi => Or.inl (h.1 i hi), Or.inl h.2⟩
/-- the class's side, nothing kept -/
theorem CW_0 {V : Vw} {As : Nat → Nat → Int32} {n nh ns nw na : Nat} {M M' : Mem} (hV : VOK V n nh ns nw) (hL : CL M' 2 V) (h0 : CC0 M') (h6 : M 0 0 6 = nI na) (h6' : na ≤ 6) (hA : ∀ a, a < na → CA M a (As a)) (e6 : M' 0 0 6 = M 0 0 6) (e : ∀ g i k, g = 18 ∨ g = 19 → M' g i k = M g i k) : CW M' V As n nh ns nw na := by
  refine ⟨hV, hL, e6.trans h6, h6', fun a ha => ⟨fun j hj => ?_, ?_, ?_, ?_⟩, CC_0 h0⟩
  · rw [e 19 a j (by omega)]
    exact (hA a ha).1 j hj
  · rw [e 18 a 1 (by omega)]
    exact (hA a ha).2.1
  · rw [e 18 a 2 (by omega)]
    exact (hA a ha).2.2.1
  · rw [e 18 a 3 (by omega)]
    exact (hA a ha).2.2.2
