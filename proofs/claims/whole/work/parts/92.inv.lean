/-! What holds between calls: the class and the reference tell of one and the same. -/
/-- a mind: WORKS done in their order, how many, TIMES, how many CLICKS, CLICKS -/
abbrev Md : Type := (Nat → Nat) × Nat × (Nat → Int32) × Nat × (Nat → Nat)
def MdOK (md : Md) (nw : Nat) : Prop := md.2.1 ≤ 8 ∧ (∀ i, i < md.2.1 → md.1 i < nw) ∧ (∀ i j, i < md.2.1 → j < md.2.1 → md.1 i = md.1 j → i = j) ∧ (∀ k, k < 8 → tOK (md.2.2.1 k)) ∧ md.2.2.2.1 ≤ 80 ∧ (∀ i, i < md.2.2.2.1 → md.2.2.2.2 i ≤ 9999) ∧ (∀ i j, i < j → j < md.2.2.2.1 → md.2.2.2.2 i < md.2.2.2.2 j)
def CMd (M : Mem) (i : Nat) (md : Md) : Prop := M 20 i 1 = nI md.2.1 ∧ (∀ j, j < md.2.1 → M 21 i j = nI (md.1 j)) ∧ (∀ k, k < 8 → M 22 i k = md.2.2.1 k) ∧ M 20 i 4 = nI md.2.2.2.1 ∧ ∀ j, j < md.2.2.2.1 → M 23 i j = nI (md.2.2.2.2 j)
def MMd (M : Mem) (md : Md) : Prop := M 40 0 29 = nI md.2.1 ∧ (∀ j, j < md.2.1 → M 68 0 j = nI (md.1 j)) ∧ (∀ k, k < 8 → M 69 0 k = md.2.2.1 k) ∧ M 40 0 30 = nI md.2.2.2.1 ∧ ∀ j, j < md.2.2.2.1 → M 70 0 j = nI (md.2.2.2.2 j)
def KMd (M : Mem) (i : Nat) (md : Md) : Prop := M 72 i 0 = nI md.2.1 ∧ (∀ j, j < md.2.1 → M 72 i (2 + j) = nI (md.1 j)) ∧ (∀ k, k < 8 → M 72 i (10 + k) = md.2.2.1 k) ∧ M 72 i 1 = nI md.2.2.2.1 ∧ ∀ j, j < md.2.2.2.1 → M 72 i (18 + j) = nI (md.2.2.2.2 j)
/-- the cells that all this speaks of, but for what is kept of how LOUD it is, and for the refusals -/
def kC (g i k : Nat) : Bool := decide ((44 ≤ g ∧ g ≤ 72) ∨ (g = 40 ∧ (k = 1 ∨ k = 3 ∨ k = 26 ∨ k = 29 ∨ k = 30 ∨ k = 31)) ∨ (g = 0 ∧ (k = 1 ∨ k = 2 ∨ k = 9)) ∨ (3 ≤ g ∧ g ≤ 17 ∧ i < 2) ∨ (20 ≤ g ∧ g ≤ 23) ∨ g = 1 ∨ g = 2 ∨ g = 41)
def sX (g i k : Nat) : Bool := !kC g i k
theorem sX_of {g i k : Nat} (h : (44 ≤ g ∧ g ≤ 72) ∨ (g = 40 ∧ (k = 1 ∨ k = 3 ∨ k = 26 ∨ k = 29 ∨ k = 30 ∨ k = 31)) ∨ (g = 0 ∧ (k = 1 ∨ k = 2 ∨ k = 9)) ∨ (3 ≤ g ∧ g ≤ 17 ∧ i < 2) ∨ (20 ≤ g ∧ g ≤ 23) ∨ g = 1 ∨ g = 2 ∨ g = 41) : sX g i k = false := by
  unfold sX kC
  rw [decide_eq_true h]
  rfl
theorem of_sX {g i k : Nat} (h : sX g i k = false) : (44 ≤ g ∧ g ≤ 72) ∨ (g = 40 ∧ (k = 1 ∨ k = 3 ∨ k = 26 ∨ k = 29 ∨ k = 30 ∨ k = 31)) ∨ (g = 0 ∧ (k = 1 ∨ k = 2 ∨ k = 9)) ∨ (3 ≤ g ∧ g ≤ 17 ∧ i < 2) ∨ (20 ≤ g ∧ g ≤ 23) ∨ g = 1 ∨ g = 2 ∨ g = 41 := by
  unfold sX kC at h
  rw [Bool.not_eq_false'] at h
  exact of_decide_eq_true h
theorem sX_C {g i k : Nat} (h : sX g i k = false) : sC g i k = false := by
  have := of_sX h
  exact decide_eq_false (by omega)
theorem sX_Nt {g i k : Nat} (h : sX g i k = false) : sNt g i k = false := by
  have := of_sX h
  exact decide_eq_false (by omega)
def LndC (M : Mem) (T : Vw) (ia : Nat) : Prop := ia < 2 ∧ M 0 0 1 = nI ia ∧ M 0 0 2 = nI (1 - ia) ∧ CL M ia T
def ImgC (M : Mem) (nw ni : Nat) (mds : Nat → Md) : Prop := M 0 0 9 = nI ni ∧ M 40 0 31 = nI ni ∧ ni ≤ 3 ∧ ∀ j, j < ni → MdOK (mds j) nw ∧ CMd M (j + 1) (mds j) ∧ KMd M j (mds j)
def TapC (M : Mem) (nt : Nat) : Prop := M 1 0 1 = nI nt ∧ M 40 0 1 = nI nt ∧ nt ≤ 600 ∧ ∀ i, i < nt → M 2 0 i = M 41 0 i ∧ ∃ b, b < 256 ∧ M 41 0 i = nI b
def RefC (M : Mem) : Prop := ∀ q, q < 3 → M 34 0 q = M 42 0 q
def CORE (T : Vw) (As : Nat → Nat → Int32) (n nh ns nw na : Nat) (md : Md) (ia ni nt : Nat) (mds : Nat → Md) (M : Mem) : Prop :=
  MB M T md.1 As n nh ns nw na md.2.1 ∧ CW M (perfL T md.1 md.2.1) As n nh ns nw na ∧ AOK As na ∧ LndC M T ia ∧ (MdOK md nw ∧ CMd M 0 md ∧ MMd M md) ∧ ImgC M nw ni mds ∧ TapC M nt ∧ M 1 0 5 = M 40 0 3 ∧ RefC M
def INV (M : Mem) : Prop := ∃ T As n nh ns nw na md ia ni nt mds, CORE T As n nh ns nw na md ia ni nt mds M
theorem MB_X {M M' : Mem} {T : Vw} {f : Nat → Nat} {As : Nat → Nat → Int32} {n nh ns nw na nd : Nat} (h : MB M T f As n nh ns nw na nd) (fr : Fr sX M M') : MB M' T f As n nh ns nw na nd := by
  obtain ⟨h1, h2, h3, h4, h5, h6, h7⟩ := h
  have e : ∀ g i k, 44 ≤ g → g ≤ 72 → sX g i k = false := fun g i k a b => sX_of (by omega)
  refine ⟨h1, MS_fr h2 fr (fun g i k a b => e g i k a (by omega)), ⟨fun j hj => ?_, fun k hk => ?_, fun s hs => ?_⟩, ⟨?_, h4.2.1, fun i hi => ?_⟩, (fr 40 0 26 rfl).trans h5, h6, fun a ha => MA_fr (h7 a ha) fr (fun k => e 67 a k (by omega) (by omega))⟩
  · rw [fr 49 0 j (e _ _ _ (by omega) (by omega)), fr 51 0 j (e _ _ _ (by omega) (by omega))]
    exact h3.1 j hj
  · rw [fr 56 k 1 (e _ _ _ (by omega) (by omega))]
    exact h3.2.1 k hk
  · rw [fr 60 s 1 (e _ _ _ (by omega) (by omega))]
    exact h3.2.2 s hs
  · rw [fr 40 0 29 rfl]
    exact h4.1
  · rw [fr 68 0 i (e _ _ _ (by omega) (by omega))]
    exact h4.2.2 i hi
theorem CMd_X {M M' : Mem} {i : Nat} {md : Md} (h : CMd M i md) (fr : Fr sX M M') : CMd M' i md :=
  ⟨(fr 20 i 1 (sX_of (by omega))).trans h.1, fun j hj => (fr 21 i j (sX_of (by omega))).trans (h.2.1 j hj), fun k hk => (fr 22 i k (sX_of (by omega))).trans (h.2.2.1 k hk), (fr 20 i 4 (sX_of (by omega))).trans h.2.2.2.1, fun j hj => (fr 23 i j (sX_of (by omega))).trans (h.2.2.2.2 j hj)⟩
theorem MMd_X {M M' : Mem} {md : Md} (h : MMd M md) (fr : Fr sX M M') : MMd M' md :=
  ⟨(fr 40 0 29 rfl).trans h.1, fun j hj => (fr 68 0 j (sX_of (by omega))).trans (h.2.1 j hj), fun k hk => (fr 69 0 k (sX_of (by omega))).trans (h.2.2.1 k hk), (fr 40 0 30 rfl).trans h.2.2.2.1, fun j hj => (fr 70 0 j (sX_of (by omega))).trans (h.2.2.2.2 j hj)⟩
theorem KMd_X {M M' : Mem} {i : Nat} {md : Md} (h : KMd M i md) (fr : Fr sX M M') : KMd M' i md :=
  ⟨(fr 72 i _ (sX_of (by omega))).trans h.1, fun j hj => (fr 72 i _ (sX_of (by omega))).trans (h.2.1 j hj), fun k hk => (fr 72 i _ (sX_of (by omega))).trans (h.2.2.1 k hk), (fr 72 i _ (sX_of (by omega))).trans h.2.2.2.1, fun j hj => (fr 72 i _ (sX_of (by omega))).trans (h.2.2.2.2 j hj)⟩
theorem LndC_X {M M' : Mem} {T : Vw} {ia : Nat} (h : LndC M T ia) (fr : Fr sX M M') : LndC M' T ia :=
  ⟨h.1, (fr 0 0 1 rfl).trans h.2.1, (fr 0 0 2 rfl).trans h.2.2.1, CL_fr h.2.2.2 fr (fun g k hg => sX_of (by have := isLand_le hg; have := h.1; omega))⟩
theorem ImgC_X {M M' : Mem} {nw ni : Nat} {mds : Nat → Md} (h : ImgC M nw ni mds) (fr : Fr sX M M') : ImgC M' nw ni mds :=
  ⟨(fr 0 0 9 rfl).trans h.1, (fr 40 0 31 rfl).trans h.2.1, h.2.2.1, fun j hj => ⟨(h.2.2.2 j hj).1, CMd_X (h.2.2.2 j hj).2.1 fr, KMd_X (h.2.2.2 j hj).2.2 fr⟩⟩
theorem TapC_X {M M' : Mem} {nt : Nat} (h : TapC M nt) (fr : Fr sX M M') : TapC M' nt := by
  refine ⟨(fr 1 0 1 rfl).trans h.1, (fr 40 0 1 rfl).trans h.2.1, h.2.2.1, fun i hi => ?_⟩
  rw [fr 2 0 i (sX_of (by omega)), fr 41 0 i (sX_of (by omega))]
  exact h.2.2.2 i hi
theorem CORE_X {T : Vw} {As : Nat → Nat → Int32} {n nh ns nw na : Nat} {md : Md} {ia ni nt : Nat} {mds : Nat → Md} {M M' : Mem} (h : CORE T As n nh ns nw na md ia ni nt mds M) (fr : Fr sX M M') (hc : CW M' (perfL T md.1 md.2.1) As n nh ns nw na) (hr : RefC M') : CORE T As n nh ns nw na md ia ni nt mds M' :=
  ⟨MB_X h.1 fr, hc, h.2.2.1, LndC_X h.2.2.2.1 fr, ⟨h.2.2.2.2.1.1, CMd_X h.2.2.2.2.1.2.1 fr, MMd_X h.2.2.2.2.1.2.2 fr⟩, ImgC_X h.2.2.2.2.2.1 fr, TapC_X h.2.2.2.2.2.2.1 fr, by rw [fr 1 0 5 rfl, fr 40 0 3 rfl]; exact h.2.2.2.2.2.2.2.1, hr⟩
/-- the class's side stays where its cells stay -/
theorem CW_40 {V : Vw} {As : Nat → Nat → Int32} {n nh ns nw na : Nat} {M M' : Mem} (h : CW M V As n nh ns nw na) (e : ∀ g i k, g < 34 → M' g i k = M g i k) : CW M' V As n nh ns nw na := by
  refine ⟨h.1, fun g k hl => ?_, ?_, h.2.2.2.1, fun a ha => ⟨fun j hj => ?_, ?_, ?_, ?_⟩, fun i hi => ?_, ?_⟩
  · rw [e g 2 k (by have := isLand_le (lk_land hl); omega)]
    exact h.2.1 g k hl
  · rw [e 0 0 6 (by omega)]
    exact h.2.2.1
  · rw [e 19 a j (by omega)]
    exact (h.2.2.2.2.1 a ha).1 j hj
  · rw [e 18 a 1 (by omega)]
    exact (h.2.2.2.2.1 a ha).2.1
  · rw [e 18 a 2 (by omega)]
    exact (h.2.2.2.2.1 a ha).2.2.1
  · rw [e 18 a 3 (by omega)]
    exact (h.2.2.2.2.1 a ha).2.2.2
  · rw [e 28 0 i (by omega)]
    rcases h.2.2.2.2.2.1 i hi with h1 | ⟨h1, a, s, ha, hs, hi', hr⟩
    · exact Or.inl h1
    · refine Or.inr ⟨h1, a, s, ha, hs, hi', fun y hy => ?_⟩
      rw [e 27 i y (by omega)]
      exact hr y hy
  · rw [e 0 0 12 (by omega), e 0 0 13 (by omega)]
    rcases h.2.2.2.2.2.2 with h1 | ⟨a, t, ha, ht, h1, h2, h3⟩
    · exact Or.inl h1
    · refine Or.inr ⟨a, t, ha, ht, h1, h2, fun b hb => ?_⟩
      rw [e 33 0 b (by omega)]
      exact h3 b hb
theorem sNt_40 {g i k : Nat} (h : g < 40) : sNt g i k = false := decide_eq_false (by omega)
/-- behind a question -/
theorem CORE_q {T : Vw} {As : Nat → Nat → Int32} {n nh ns nw na : Nat} {md : Md} {ia ni nt : Nat} {mds : Nat → Md} {M M1 M2 : Mem} (h : CORE T As n nh ns nw na md ia ni nt mds M) (hq : CQ M (perfL T md.1 md.2.1) As n nh ns nw na M1) (hp : Fr sNt M1 M2) : CORE T As n nh ns nw na md ia ni nt mds M2 := by
  refine CORE_X h (Fr_trans (Fr_mono (fun _ _ _ => sX_C) hq.1) (Fr_mono (fun _ _ _ => sX_Nt) hp)) (CW_40 hq.2 (fun g i k hg => hp g i k (sNt_40 (by omega)))) (fun q hq' => ?_)
  rw [hp 34 0 q rfl, hp 42 0 q rfl, hq.1 34 0 q rfl, hq.1 42 0 q rfl]
  exact h.2.2.2.2.2.2.2.2 q hq'
/-- behind a refusal -/
theorem CORE_r {T : Vw} {As : Nat → Nat → Int32} {n nh ns nw na : Nat} {md : Md} {ia ni nt : Nat} {mds : Nat → Md} {M : Mem} (h : CORE T As n nh ns nw na md ia ni nt mds M) (q : Nat) (w : Int32) : CORE T As n nh ns nw na md ia ni nt mds (refM (mput (refC M q) 40 0 0 0) w q) := by
  have fr : Fr sX M (refM (mput (refC M q) 40 0 0 0) w q) := Fr_put (Fr_put (Fr_put (Fr_put Fr_refl rfl) rfl) rfl) rfl
  refine CORE_X h fr (CW_40 h.2.1 (fun g i k hg => ?_)) (fun q' hq' => ?_)
  · unfold refM refC
    rw [mp_g (by omega), mp_g (by omega), mp_g (by omega), mp_g (by omega)]
  · have hr := h.2.2.2.2.2.2.2.2
    unfold refM refC
    by_cases e : q' = q
    · rw [e, mp_g (by omega), mp_g (by omega), mp_g (by omega), mp_s, mp_s, mp_g (by omega), mp_g (by omega), hr q (by omega)]
    · rw [mp_g (by omega), mp_g (by omega), mp_g (by omega), mp_k e, mp_k e, mp_g (by omega), mp_g (by omega), mp_g (by omega)]
      exact hr q' hq'
/-! one call on both sides -/
def asL (b : AV) : Int64 := match b with
  | .inl x => x.toInt64
  | .inr (.inl x) => x
  | .inr (.inr _) => 0
section
variable (L : Nat) (xs : Nat → Int32) (O : Int64)
def Stq (D yl ym : Nat) (as : List AV) (M : Mem) : Prop := ∃ k M1 O1 c1 s1, EX L xs D yl (.inr (.inr (0, 0)) :: (as ++ [.inr (.inr (83, 0))])) M O = some (.inl (some (.inl (nI k))), M1, O1, c1, s1) ∧ k ≤ 3 ∧ c1 ≤ 1 ∧ s1 ≤ 6 ∧
  ∃ b M2 c2 s2, EX L xs D ym (.inr (.inr (40, 0)) :: as) M1 O1 = some (.inl (some b), M2, O1, c2, s2) ∧ c2 ≤ 1 ∧ s2 ≤ 8 ∧ M2 40 0 0 = nI k ∧ (k = 0 → O1 = asL b) ∧ INV M2
def StpD (D yc ym : Nat) (as : List AV) (M : Mem) : Prop := ∃ v M1, EX L xs D yc (.inr (.inr (0, 0)) :: as) M O = some (.inl (some (.inl v)), M1, O, 0, 0) ∧ ∃ M2, EX L xs D ym (.inr (.inr (40, 0)) :: as) M1 O = some (.inl (some (.inl v)), M2, O, 0, 0) ∧ INV M2
variable {T : Vw} {As : Nat → Nat → Int32} {n nh ns nw na : Nat} {md : Md} {ia ni nt : Nat} {mds : Nat → Md} {M : Mem}
theorem stp_q {D E yl yc ym : Nat} {as : List AV} {v : Int32} (hC : CORE T As n nh ns nw na md ia ni nt mds M)
    (h1 : isI (EX L xs E yc (.inr (.inr (0, 0)) :: as) M O) O v (CQ M (perfL T md.1 md.2.1) As n nh ns nw na))
    (hw : ∀ M1, EX L xs E yc (.inr (.inr (0, 0)) :: as) M O = some (.inl (some (.inl v)), M1, O, 0, 0) → EX L xs D yl (.inr (.inr (0, 0)) :: (as ++ [.inr (.inr (83, 0))])) M O = some (.inl (some (.inl 0)), M1, v.toInt64, 0, 0))
    (h2 : ∀ M1 O1, MB M1 T md.1 As n nh ns nw na md.2.1 → isI (EX L xs D ym (.inr (.inr (40, 0)) :: as) M1 O1) O1 v (MP M1)) : Stq L xs O D yl ym as M := by
  obtain ⟨M1, q1, hQ⟩ := h1
  obtain ⟨M2, q2, hP⟩ := h2 M1 v.toInt64 (MB_X hC.1 (Fr_mono (fun _ _ _ => sX_C) hQ.1))
  exact ⟨0, M1, v.toInt64, 0, 0, hw M1 q1, by omega, by omega, by omega, .inl v, M2, 0, 0, q2, by omega, by omega, hP.2, fun _ => rfl, ⟨T, As, n, nh, ns, nw, na, md, ia, ni, nt, mds, CORE_q hC hQ hP.1⟩⟩
theorem stp_r {D yl ym : Nat} {as : List AV} {b : AV} (hC : CORE T As n nh ns nw na md ia ni nt mds M) (X w : Nat) (hw : w ≤ 3) (hw0 : 1 ≤ w)
    (h1 : EX L xs D yl (.inr (.inr (0, 0)) :: (as ++ [.inr (.inr (83, 0))])) M O = some (.inl (some (.inl (nI w))), refC M X, O, 1, 6))
    (h2 : EX L xs D ym (.inr (.inr (40, 0)) :: as) (refC M X) O = some (.inl (some b), refM (mput (refC M X) 40 0 0 0) (nI w) X, O, 0, 0)) : Stq L xs O D yl ym as M :=
  ⟨w, _, O, 1, 6, h1, hw, by omega, by omega, b, _, 0, 0, h2, by omega, by omega, by unfold refM; rw [mp_g (by omega), mp_s], fun e => absurd e (by omega), ⟨T, As, n, nh, ns, nw, na, md, ia, ni, nt, mds, CORE_r hC X (nI w)⟩⟩
theorem MB_ref {T : Vw} {f : Nat → Nat} {As : Nat → Nat → Int32} {n nh ns nw na nd : Nat} {M : Mem} (h : MB M T f As n nh ns nw na nd) (q : Nat) : MB (refC M q) T f As n nh ns nw na nd := MB_X h (Fr_put Fr_refl rfl)
end
