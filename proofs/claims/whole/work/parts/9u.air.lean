/-! An AIR's text, rule by rule; the class reads it. -/
abbrev Ar : Type := Nat → Int32
def aput (A : Ar) (k : Nat) (x : Int32) : Ar := fun j => if j = k then x else A j
theorem ap_s {A : Ar} {k : Nat} {x : Int32} : aput A k x k = x := if_pos rfl
theorem ap_k {A : Ar} {k j : Nat} {x : Int32} (h : j ≠ k) : aput A k x j = A j := if_neg h
def atF (tx : Nat → Nat) (N K : Nat) (ts : TS) : TS := match K with
  | 0 => cl tx N (nb tx N (nb tx N ts 0 11) 0 4)
  | 1 => cl tx N (nb tx N ts 0 4)
  | 2 => cl tx N (nb tx N ts 1 99)
  | _ => cl tx N (nb tx N ts 0 8)
def auF (tx : Nat → Nat) (N : Nat) (A : Ar) (K : Nat) (ts : TS) : Ar := match K with
  | 0 => aput A (nvN tx N ts) (nI (nvN tx N (nb tx N ts 0 11)) - 2)
  | 1 => aput A 12 (nI (nvN tx N ts) - 2)
  | 2 => aput A 13 (nI (nvN tx N ts))
  | _ => aput A 14 (nI (nvN tx N ts))
def arT (tx : Nat → Nat) (N c p : Nat) : TS := match kwR tx N p with
  | none => .inr (1, p)
  | some K => if 20 ≤ c then .inr (3, p) else atF tx N K (.inl (scn tx N isA p))
def arA (tx : Nat → Nat) (N : Nat) (A : Ar) (p : Nat) : Ar := match kwR tx N p with
  | none => A
  | some K => auF tx N A K (.inl (scn tx N isA p))
def asS (tx : Nat → Nat) (N c : Nat) (st : Ar × TS) : Ar × TS := match st.2 with
  | .inl p => if scn tx N isB p < N then (arA tx N st.1 (scn tx N isB p), arT tx N c (scn tx N isB p)) else (st.1, .inl (scn tx N isB p))
  | .inr _ => st
def A0 : Ar := fun j => if j = 13 then 1 else if j = 14 then 4 else 0
def asR (tx : Nat → Nat) (N : Nat) : Nat → Ar × TS
  | 0 => (A0, .inl 0)
  | c + 1 => asS tx N c (asR tx N c)
theorem asS_E {tx : Nat → Nat} {N c : Nat} {st : Ar × TS} (h : rdE tx N st.2 = true) : asS tx N c st = st := by
  obtain ⟨U, ts⟩ := st
  cases ts with
  | inr e => rfl
  | inl p =>
    have h' : scn tx N isB p = p ∧ ¬ p < N := of_decide_eq_true h
    unfold asS
    dsimp only
    rw [h'.1, if_neg h'.2]
theorem asR_E {tx : Nat → Nat} {N c : Nat} (h : rdE tx N (asR tx N c).2 = true) : ∀ r, asR tx N (c + r) = asR tx N c := by
  intro r
  induction r with
  | zero => rfl
  | succ r ih =>
    show asS tx N (c + r) (asR tx N (c + r)) = _
    rw [ih]
    exact asS_E h
theorem asR21 {tx : Nat → Nat} {N p : Nat} (h : (asR tx N 21).2 = .inl p) : ¬ scn tx N isB p < N := by
  have eS : asR tx N 21 = asS tx N 20 (asR tx N 20) := rfl
  rw [eS] at h
  generalize asR tx N 20 = st at *
  obtain ⟨U, ts⟩ := st
  unfold asS at h
  cases ts with
  | inr e => cases h
  | inl q =>
    dsimp only at h
    by_cases c : scn tx N isB q < N
    · rw [if_pos c] at h
      dsimp only at h
      unfold arT at h
      cases e : kwR tx N (scn tx N isB q) with
      | none =>
        rw [e] at h
        cases h
      | some K =>
        rw [e] at h
        dsimp only at h
        rw [if_pos (Nat.le_refl _)] at h
        cases h
    · rw [if_neg c] at h
      have h' : scn tx N isB q = p := Sum.inl.inj h
      rw [← h', scn_id]
      exact c
/-- WEIGHT and FINE of an AIR are as they must be -/
def AK (A : Ar) : Prop := qL 99 (A 13) ∧ 1 ≤ (A 13).toNatClampNeg ∧ qL 8 (A 14)
theorem AK_r {tx : Nat → Nat} {N c p : Nat} {A : Ar} (h : AK A) (l : (arT tx N c p).isLeft = true) : AK (arA tx N A p) := by
  obtain ⟨h1, h2, h3⟩ := h
  unfold arT at l
  unfold arA
  cases ek : kwR tx N p with
  | none => exact ⟨h1, h2, h3⟩
  | some K =>
    rw [ek] at l
    dsimp only at l ⊢
    by_cases c1 : 20 ≤ c
    · rw [if_pos c1] at l
      cases l
    rw [if_neg c1] at l
    have hK := (kwR_s ek).1
    have w11 : (11 : Int32).toInt = 11 := by decide
    have w99 : (99 : Int32).toInt = 99 := by decide
    have w1 : (1 : Int32).toInt = 1 := by decide
    have w8 : (8 : Int32).toInt = 8 := by decide
    rcases (by omega : K = 0 ∨ K = 1 ∨ K = 2 ∨ K = 3) with rfl | rfl | rfl | rfl
    · have l2 := cl_l l
      have l1 := nb_ll l2
      obtain ⟨a, b⟩ := nb_in (by decide) l1
      show AK (aput A (nvN tx N (.inl (scn tx N isA p))) _)
      unfold AK
      rw [ap_k (by omega), ap_k (by omega)]
      exact ⟨h1, h2, h3⟩
    · show AK (aput A 12 _)
      unfold AK
      rw [ap_k (by omega), ap_k (by omega)]
      exact ⟨h1, h2, h3⟩
    · have l1 := cl_l l
      obtain ⟨a, b⟩ := nb_in (by decide) l1
      show AK (aput A 13 _)
      unfold AK
      rw [ap_s, ap_k (by omega), hl_cl (by omega)]
      exact ⟨qL_n (by omega) (by omega), by omega, h3⟩
    · have l1 := cl_l l
      obtain ⟨a, b⟩ := nb_in (by decide) l1
      show AK (aput A 14 _)
      unfold AK
      rw [ap_s, ap_k (by omega)]
      exact ⟨h1, h2, qL_n (by omega) (by omega)⟩
theorem asR_in {tx : Nat → Nat} {N : Nat} : ∀ c, (asR tx N c).2.isLeft = true → AK (asR tx N c).1 := by
  intro c
  induction c with
  | zero =>
    intro _
    refine ⟨?_, ?_, ?_⟩
    · exact qL_n (m := 1) (by omega) (by omega)
    · show 1 ≤ (1 : Int32).toNatClampNeg
      decide
    · exact qL_n (m := 4) (by omega) (by omega)
  | succ c ih =>
    have eS : asR tx N (c + 1) = asS tx N c (asR tx N c) := rfl
    rw [eS]
    unfold asS
    cases e : (asR tx N c).2 with
    | inr x =>
      dsimp only
      intro l
      rw [e] at l
      cases l
    | inl p =>
      rw [e] at ih
      dsimp only
      by_cases c1 : scn tx N isB p < N
      · rw [if_pos c1]
        intro l
        exact AK_r (ih rfl) l
      · rw [if_neg c1]
        intro _
        exact ih rfl
def sAi (i0 g i k : Nat) : Bool := decide ((g = 1 ∧ (k = 3 ∨ k = 4 ∨ k = 5)) ∨ ((g = 18 ∨ g = 19) ∧ i = i0))
theorem sAi_T {i0 : Nat} (g i k : Nat) (h : sAi i0 g i k = false) : sT g i k = false := by
  have := of_decide_eq_false h
  exact decide_eq_false (by omega)
theorem CA_T {M M' : Mem} {i : Nat} {A : Ar} (h : CA M i A) (fr : Fr sT M M') : CA M' i A := ⟨fun j hj => (fr 19 i j rfl).trans (h.1 j hj), (fr 18 i 1 rfl).trans h.2.1, (fr 18 i 2 rfl).trans h.2.2.1, (fr 18 i 3 rfl).trans h.2.2.2⟩
section
variable (L : Nat) (xs : Nat → Int32) (O : Int64) {tx : Nat → Nat} {N : Nat}
theorem TX_A {i : Nat} {M M' : Mem} (h : TX M tx N) (fr : Fr (sAi i) M M') : TX M' tx N := ⟨h.1, (fr 1 0 2 (decide_eq_false (by omega))).trans h.2.1, fun j hj => ⟨(fr 2 0 j (decide_eq_false (by omega))).trans (h.2.2 j hj).1, (h.2.2 j hj).2⟩⟩
theorem x0_readLayer {D : Nat} (hD : 6 ≤ D) (i : Nat) {A : Ar} (ts : TS) (M : Mem) (hX : TX M tx N) (hT : TP M N 0 ts) (hA : CA M i A) : isV (EX L xs (D) q_X0_readLayer [.inr (.inr (18, i)), .inr (.inr (1, 0))] M O) O (fun M' => Fr (sAi i) M M' ∧ TP M' N 0 (nb tx N (nb tx N ts 0 11) 0 4) ∧ ((nb tx N (nb tx N ts 0 11) 0 4).isLeft = true → CA M' i (aput A (nvN tx N ts) (nI (nvN tx N (nb tx N ts 0 11)) - 2)))) := by
  obtain ⟨d, rfl⟩ : ∃ d, D = d + 2 := ⟨D - 2, by omega⟩
  refine isV_e (EX_in mi_X0_readLayer rfl rfl rfl (ls := [some (.inr (.inr (18, i))), some (.inr (.inr (1, 0))), none]) rfl) ?_
  obtain ⟨M1, q1, f1, t1⟩ := x5_number L xs O (D := d + 1) (by omega) ts 0 11 (by decide) M hX (b := 0) (by omega) hT
  obtain ⟨M2, q2, f2, t2⟩ := x5_number L xs O (D := d + 1) (by omega) (nb tx N ts 0 11) 0 4 (by decide) M1 (TX_fr hX f1) (b := 0) (by omega) t1
  have w11 : (11 : Int32).toInt = 11 := by decide
  have hv : ∃ v, v < 12 ∧ nvC tx N ts 0 11 = nI v ∧ ((nb tx N ts 0 11).isLeft = true → v = nvN tx N ts) := by
    by_cases l : (nb tx N ts 0 11).isLeft = true
    · obtain ⟨a, b⟩ := nb_in (by decide) l
      exact ⟨nvN tx N ts, by omega, nvC_l l, fun _ => rfl⟩
    · refine ⟨0, by omega, ?_, fun e => absurd e l⟩
      unfold nvC
      cases e : nb tx N ts 0 11 with
      | inl p =>
        rw [e] at l
        exact absurd rfl l
      | inr x => rfl
  obtain ⟨v, hv1, hv2, hv3⟩ := hv
  rw [e_X0_readLayer_0, q1]
  simp only [xr_v, Nat.reduceAdd, Nat.add_zero]
  rw [e_X0_readLayer_7, q2]
  simp only [xr_v, Nat.reduceAdd, Nat.add_zero]
  rw [e_X0_readLayer_19, hv2, if_pos (in_12 hv1), hl_cl (by omega)]
  refine isV_i ⟨Fr_put (Fr_mono sAi_T (Fr_trans f1 f2)) (decide_eq_true (by omega)), TP_1 t2 (fun k => rfl), fun l => ?_⟩
  have l1 := nb_ll l
  have hA2 := CA_T hA (Fr_trans f1 f2)
  rw [hv3 l1, nvC_l l]
  have hvv := hv3 l1
  refine ⟨fun j hj => ?_, ?_, ?_, ?_⟩
  · by_cases e : j = nvN tx N ts
    · rw [e, mp_s, ap_s]
    · rw [mp_k e, ap_k e]
      exact hA2.1 j hj
  · rw [mp_g (by omega), ap_k (by omega)]
    exact hA2.2.1
  · rw [mp_g (by omega), ap_k (by omega)]
    exact hA2.2.2.1
  · rw [mp_g (by omega), ap_k (by omega)]
    exact hA2.2.2.2
end
