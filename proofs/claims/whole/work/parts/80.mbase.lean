/-! The reference's questions: what they all begin with. -/
def sNt (g _i k : Nat) : Bool := decide ((73 ≤ g ∧ g ≤ 82) ∨ (g = 40 ∧ (k = 46 ∨ k = 47 ∨ k = 0)))
theorem sNt_N {g i k : Nat} (h : sNt g i k = false) : sN g i k = false := by
  have := of_decide_eq_false h
  exact decide_eq_false (by omega)
theorem sNt_0 {g i k : Nat} (h : sNt g i k = false) : sN0 g i k = false := sN_0 (sNt_N h)
theorem sNt_q {g i k : Nat} (h : sNt g i k = false) : sQ g i k = false := sN_q (sNt_0 h)
def MP (M M' : Mem) : Prop := Fr sNt M M' ∧ M' 40 0 0 = 0
/-- laid, and nothing refused -/
def MR (T : Vw) (f : Nat → Nat) (As : Nat → Nat → Int32) (n nh ns nw na nd : Nat) (M M' : Mem) : Prop := Fr sNt M M' ∧ MV M' (perfL T f nd) As n nh ns nw na ∧ M' 40 0 0 = 0
theorem MB_frt {T : Vw} {f : Nat → Nat} {As : Nat → Nat → Int32} {n nh ns nw na nd : Nat} {M M' : Mem} (h : MB M T f As n nh ns nw na nd) (fr : Fr sNt M M') : MB M' T f As n nh ns nw na nd := by
  obtain ⟨h1, h2, h3, h4, h5, h6, h7⟩ := h
  have e : ∀ g i k, 44 ≤ g → g ≤ 72 → sNt g i k = false := fun g i k a b => decide_eq_false (by omega)
  refine ⟨h1, MS_fr h2 fr (fun g i k a b => e g i k a (by omega)), ⟨fun j hj => ?_, fun k hk => ?_, fun s hs => ?_⟩, ⟨?_, h4.2.1, fun i hi => ?_⟩, (fr 40 0 26 rfl).trans h5, h6, fun a ha => MA_fr (h7 a ha) fr (fun k => e 67 a k (by omega) (by omega))⟩
  · rw [fr 49 0 j rfl, fr 51 0 j rfl]
    exact h3.1 j hj
  · rw [fr 56 k 1 rfl]
    exact h3.2.1 k hk
  · rw [fr 60 s 1 rfl]
    exact h3.2.2 s hs
  · rw [fr 40 0 29 rfl]
    exact h4.1
  · rw [fr 68 0 i rfl]
    exact h4.2.2 i hi
theorem m_start {T : Vw} {f : Nat → Nat} {As : Nat → Nat → Int32} {n nh ns nw na nd : Nat} {M : Mem} (hB : MB M T f As n nh ns nw na nd) : ∃ M1, mput M 40 0 0 0 = M1 ∧ Fr sNt M M1 ∧ MB M1 T f As n nh ns nw na nd ∧ M1 40 0 0 = 0 :=
  ⟨_, rfl, Fr_put Fr_refl rfl, MB_frt hB (Fr_put Fr_refl rfl), mp_s⟩
theorem MR_q {T : Vw} {f : Nat → Nat} {As : Nat → Nat → Int32} {n nh ns nw na nd : Nat} {M M' M'' : Mem} (h : MR T f As n nh ns nw na nd M M') (fr : Fr sQ M' M'') : MR T f As n nh ns nw na nd M M'' := ⟨Fr_trans h.1 (Fr_mono (fun _ _ _ => sNt_q) fr), MV_q h.2.1 fr, (fr 40 0 0 rfl).trans h.2.2⟩
def sQ8 (g _i _k : Nat) : Bool := decide (77 ≤ g ∧ g ≤ 82)
theorem MR_8 {T : Vw} {f : Nat → Nat} {As : Nat → Nat → Int32} {n nh ns nw na nd : Nat} {M M' M'' : Mem} (h : MR T f As n nh ns nw na nd M M') (fr : Fr sQ8 M' M'') : MR T f As n nh ns nw na nd M M'' :=
  ⟨Fr_trans h.1 (Fr_mono (fun _ _ _ e => by have := of_decide_eq_false e; exact decide_eq_false (by omega)) fr), MV_fr h.2.1 fr (fun g i k a b => decide_eq_false (by omega)) rfl, (fr 40 0 0 rfl).trans h.2.2⟩
theorem MR_P {T : Vw} {f : Nat → Nat} {As : Nat → Nat → Int32} {n nh ns nw na nd : Nat} {M M' : Mem} (h : MR T f As n nh ns nw na nd M M') : MP M M' := ⟨h.1, h.2.2⟩
section
variable (L : Nat) (xs : Nat → Int32) (O : Int64) {T : Vw} {f : Nat → Nat} {As : Nat → Nat → Int32} {n nh ns nw na nd : Nat}
theorem x7_laidR {D : Nat} (hD : 3 ≤ D) {M M1 : Mem} (_h : MB M T f As n nh ns nw na nd) (fr : Fr sNt M M1) (hB : MB M1 T f As n nh ns nw na nd) (t : M1 40 0 0 = 0) : isV (EX L xs (D) q_X7_lays [.inr (.inr (40, 0))] M1 O) O (MR T f As n nh ns nw na nd M) := by
  obtain ⟨M2, q, f2, -, hV⟩ := x7_laid L xs O hD M1 hB
  exact ⟨M2, q, Fr_trans fr (Fr_mono (fun _ _ _ => sNt_0) f2), hV, (f2 40 0 0 rfl).trans t⟩
theorem x7_loudR {D : Nat} (hD : 9 ≤ D) (a : Nat) (ha : a < na) {M : Mem} (M1 : Mem) (h : MR T f As n nh ns nw na nd M M1) : isV (EX L xs (D) q_X7_laysLoud [.inr (.inr (40, 0)), .inl (nI a)] M1 O) O (fun M' => MR T f As n nh ns nw na nd M M' ∧ LL M' (perfL T f nd) (As a) n ns) := by
  obtain ⟨M2, q, f2, l2⟩ := x7_laysLoud L xs O hD a ha M1 h.2.1
  exact ⟨M2, q, MR_q h f2, l2⟩
theorem x7_ofR {D : Nat} (hD : 8 ≤ D) (a s : Nat) (ha : a < na) (hs : s < ns) {M : Mem} (M1 : Mem) (h : MR T f As n nh ns nw na nd M M1) : isV (EX L xs (D) q_X7_soundsOf [.inr (.inr (40, 0)), .inl (nI a), .inl (nI s)] M1 O) O (fun M' => MR T f As n nh ns nw na nd M M' ∧ Fr sSo M1 M' ∧ ∀ y, y < n → M' 79 0 y = srcF (perfL T f nd) (As a) n s y) := by
  obtain ⟨M2, q, f2, l2⟩ := x7_soundsOf L xs O hD a s ha hs M1 h.2.1
  exact ⟨M2, q, MR_q h (Fr_mono (fun _ _ _ => sQ_so) f2), f2, l2⟩
theorem x7_i2_in {D : Nat} (hD : 2 ≤ D) (j : Nat) (M : Mem) (hj : j < 2) : EX L xs (D) q_X7_in [.inl (nI j), .inl (0), .inl (1)] M O = (some (.inl (some (.inl (1))), M, O, 0, 0) : Res) := x7_in_in L xs O hD 2 j (by omega) M hj
theorem x7_i2_out {D : Nat} (hD : 2 ≤ D) (a : Int32) (M : Mem) (h : ¬ inN a 2) : EX L xs (D) q_X7_in [.inl (a), .inl (0), .inl (1)] M O = (some (.inl (some (.inl (0))), M, O, 0, 0) : Res) := x7_in_out L xs O hD 2 (by omega) a M h
theorem x7_i3_in {D : Nat} (hD : 2 ≤ D) (j : Nat) (M : Mem) (hj : j < 3) : EX L xs (D) q_X7_in [.inl (nI j), .inl (0), .inl (2)] M O = (some (.inl (some (.inl (1))), M, O, 0, 0) : Res) := x7_in_in L xs O hD 3 j (by omega) M hj
theorem x7_i3_out {D : Nat} (hD : 2 ≤ D) (a : Int32) (M : Mem) (h : ¬ inN a 3) : EX L xs (D) q_X7_in [.inl (a), .inl (0), .inl (2)] M O = (some (.inl (some (.inl (0))), M, O, 0, 0) : Res) := x7_in_out L xs O hD 3 (by omega) a M h
theorem x7_i4_in {D : Nat} (hD : 2 ≤ D) (j : Nat) (M : Mem) (hj : j < 4) : EX L xs (D) q_X7_in [.inl (nI j), .inl (0), .inl (3)] M O = (some (.inl (some (.inl (1))), M, O, 0, 0) : Res) := x7_in_in L xs O hD 4 j (by omega) M hj
theorem x7_i4_out {D : Nat} (hD : 2 ≤ D) (a : Int32) (M : Mem) (h : ¬ inN a 4) : EX L xs (D) q_X7_in [.inl (a), .inl (0), .inl (3)] M O = (some (.inl (some (.inl (0))), M, O, 0, 0) : Res) := x7_in_out L xs O hD 4 (by omega) a M h
theorem x7_i5_in {D : Nat} (hD : 2 ≤ D) (j : Nat) (M : Mem) (hj : j < 5) : EX L xs (D) q_X7_in [.inl (nI j), .inl (0), .inl (4)] M O = (some (.inl (some (.inl (1))), M, O, 0, 0) : Res) := x7_in_in L xs O hD 5 j (by omega) M hj
theorem x7_i5_out {D : Nat} (hD : 2 ≤ D) (a : Int32) (M : Mem) (h : ¬ inN a 5) : EX L xs (D) q_X7_in [.inl (a), .inl (0), .inl (4)] M O = (some (.inl (some (.inl (0))), M, O, 0, 0) : Res) := x7_in_out L xs O hD 5 (by omega) a M h
theorem x7_i40_in {D : Nat} (hD : 2 ≤ D) (j : Nat) (M : Mem) (hj : j < 40) : EX L xs (D) q_X7_in [.inl (nI j), .inl (0), .inl (39)] M O = (some (.inl (some (.inl (1))), M, O, 0, 0) : Res) := x7_in_in L xs O hD 40 j (by omega) M hj
theorem x7_i40_out {D : Nat} (hD : 2 ≤ D) (a : Int32) (M : Mem) (h : ¬ inN a 40) : EX L xs (D) q_X7_in [.inl (a), .inl (0), .inl (39)] M O = (some (.inl (some (.inl (0))), M, O, 0, 0) : Res) := x7_in_out L xs O hD 40 (by omega) a M h
theorem x7_r_in {D : Nat} (hD : 2 ≤ D) (a lo hi : Int32) (M : Mem) (h1 : ¬ a < lo) (h2 : ¬ hi < a) : EX L xs (D) q_X7_in [.inl (a), .inl (lo), .inl (hi)] M O = (some (.inl (some (.inl (1))), M, O, 0, 0) : Res) := by
  rw [x7_in L xs O hD, if_neg h1, if_neg h2]
theorem x7_r_lo {D : Nat} (hD : 2 ≤ D) (a lo hi : Int32) (M : Mem) (h1 : a < lo) : EX L xs (D) q_X7_in [.inl (a), .inl (lo), .inl (hi)] M O = (some (.inl (some (.inl (0))), M, O, 0, 0) : Res) := by
  rw [x7_in L xs O hD, if_pos h1]
theorem x7_r_hi {D : Nat} (hD : 2 ≤ D) (a lo hi : Int32) (M : Mem) (h2 : hi < a) : EX L xs (D) q_X7_in [.inl (a), .inl (lo), .inl (hi)] M O = (some (.inl (some (.inl (0))), M, O, 0, 0) : Res) := by
  rw [x7_in L xs O hD]
  by_cases h1 : a < lo
  · rw [if_pos h1]
  · rw [if_neg h1, if_pos h2]
end
