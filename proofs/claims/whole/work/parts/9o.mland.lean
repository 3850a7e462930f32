/-! A LAND's text: the reference clears, and reads it to its end. -/
def Zr (M : Mem) : Prop := M 43 0 0 = nI 20 ∧ M 43 0 1 = nI 0 ∧ M 43 0 2 = nI 0 ∧ M 43 0 3 = nI 0 ∧ (∀ j, j < 40 → M 45 0 j = nI 0 ∧ M 46 0 j = nI 0 ∧ M 47 0 j = nI 0) ∧ ∀ h, h < 24 → M 48 0 h = -1
theorem MRd_Z {M : Mem} {U : Vw} (h : Zr M) (hz : Z0 U) : MRd M U := by
  obtain ⟨h0, h1, h2, h3, h4, h5⟩ := h
  obtain ⟨z0, z1, z2, z3, z4, z5⟩ := hz
  refine MRd_mk ⟨h0, h1, h2, h3, fun j hj => ?_, fun j hj => ?_, fun k hk => absurd hk (by omega), fun k hk => absurd hk (by omega), fun k hk => absurd hk (by omega)⟩ z0 z1 z2 z3 (by omega) (by omega) (by omega) (by omega)
  · rw [(z4 j hj).1, (z4 j hj).2.1, (z4 j hj).2.2]
    exact h4 j hj
  · rw [z5 j hj]
    exact h5 j hj
def bl (tx : Nat → Nat) (N : Nat) (ts : TS) : TS := match ts with
  | .inl p => .inl (scn tx N isB p)
  | .inr e => .inr e
theorem rd61 {tx : Nat → Nat} {N : Nat} {U0 : Vw} {p : Nat} (h : (rd tx N U0 61).2 = .inl p) : ¬ scn tx N isB p < N := by
  have eS : rd tx N U0 61 = rdS tx N 60 (rd tx N U0 60) := rfl
  rw [eS] at h
  generalize rd tx N U0 60 = st at *
  obtain ⟨U, ts⟩ := st
  unfold rdS at h
  cases ts with
  | inr e => cases h
  | inl q =>
    dsimp only at h
    by_cases c : scn tx N isB q < N
    · rw [if_pos c] at h
      dsimp only at h
      unfold czT at h
      cases e : kwC tx N (scn tx N isB q) with
      | none =>
        rw [e] at h
        cases h
      | some K =>
        rw [e] at h
        dsimp only at h
        rw [if_pos (Or.inl (Nat.le_refl _))] at h
        cases h
    · rw [if_neg c] at h
      have h' : scn tx N isB q = p := Sum.inl.inj h
      rw [← h', scn_id]
      exact c
section
variable (L : Nat) (xs : Nat → Int32) (O : Int64) {tx : Nat → Nat} {N : Nat}
theorem ld_clr {P : Res → Prop} {d : Nat} {a1 : Int32} {u3 : Option AV} (M : Mem) (f k : Nat) (hf : 100 ≤ f)
    (nx : ∀ f' k' a2 M', f ≤ f' + 68 → Fr sN6 M M' → (∀ i, M' 40 0 i = M 40 0 i) → Zr M' → P (BK L xs (EX L xs (d + 1)) mi_X7_land (RN L xs (d) mi_X7_land (f')) (k' + 1700) 123 [some (.inr (.inr (40, 0))), some (.inl (a1)), some (.inl (a2)), u3] [] M' O none 0 0)) : P (BK L xs (EX L xs (d + 1)) mi_X7_land (RN L xs (d) mi_X7_land f) (k + 2000) 40 [some (.inr (.inr (40, 0))), some (.inl (a1)), some (.inl (0)), u3] [] M O none 0 0) := by
  refine loopC L xs O (P := P) (fun j ls M' => ls = [some (.inr (.inr (40, 0))), some (.inl (a1)), some (.inl (nI j)), u3] ∧ Fr sN6 M M' ∧ (∀ i, M' 40 0 i = M 40 0 i) ∧ ∀ i, i < j → M' 43 0 i = if i = 0 then nI 20 else nI 0) 4 2000 (by omega) ?_ ?_ (by omega) ⟨rfl, Fr_refl, fun _ => rfl, fun i hi => absurd hi (by omega)⟩
  · rintro f k j _ M' hj ⟨rfl, fr, h40, h⟩ ih
    have fin : ∀ x k, x = (if j = 0 then nI 20 else nI 0) → P (BK L xs (EX L xs (d + 1)) mi_X7_land (RN L xs (d) mi_X7_land f) (k + 1000) 60 [some (.inr (.inr (40, 0))), some (.inl (a1)), some (.inl (nI j)), u3] [.inl x, .inl (nI j), .inr (.inr (43, 0))] M' O none 0 0) := by
      intro x k hx
      rw [e_X7_land_60, if_pos (in_4 hj), hl_cl (by omega), zadd_1]
      refine ih _ _ ⟨rfl, Fr_put fr rfl, fun i => h40 i, fun i hi => ?_⟩
      by_cases e : i = j
      · rw [e, mp_s, hx]
      · rw [mp_k e]
        exact h i (by omega)
    rw [e_X7_land_40, if_neg (by rw [yle_4 (by omega)]; omega)]
    by_cases c : j = 0
    · rw [if_pos (by rw [c]; rfl)]
      exact fin _ _ (by rw [if_pos c]; rfl)
    · rw [if_neg (by rw [zeq_0 (by omega)]; exact c)]
      exact fin _ _ (by rw [if_neg c]; rfl)
  · rintro f1 k _ M1 hf1 ⟨rfl, fr1, h401, h43⟩
    rw [e_X7_land_40, if_pos (by decide)]
    refine loopC L xs O (P := P) (fun j ls M' => ls = [some (.inr (.inr (40, 0))), some (.inl (a1)), some (.inl (nI j)), u3] ∧ Fr sN6 M M' ∧ (∀ i, M' 40 0 i = M 40 0 i) ∧ (∀ i, M' 43 0 i = M1 43 0 i) ∧ ∀ i, i < j → M' 45 0 i = nI 0 ∧ M' 46 0 i = nI 0 ∧ M' 47 0 i = nI 0) 40 1900 (by omega) ?_ ?_ (by omega) ⟨rfl, fr1, h401, fun _ => rfl, fun i hi => absurd hi (by omega)⟩
    · rintro f k j _ M' hj ⟨rfl, fr, h40, e43, h⟩ ih
      rw [e_X7_land_69, if_neg (by rw [yle_40 (by omega)]; omega), if_pos (in_40 hj), if_pos (in_40 hj), if_pos (in_40 hj), hl_cl (by omega), zadd_1]
      refine ih _ _ ⟨rfl, Fr_put (Fr_put (Fr_put fr rfl) rfl) rfl, fun i => h40 i, fun i => e43 i, fun i hi => ?_⟩
      by_cases e : i = j
      · rw [e]
        refine ⟨?_, ?_, mp_s⟩
        · rw [mp_g (by omega), mp_g (by omega), mp_s]
          rfl
        · rw [mp_g (by omega), mp_s]
          rfl
      · obtain ⟨a, b, c⟩ := h i (by omega)
        refine ⟨?_, ?_, ?_⟩
        · rw [mp_g (by omega), mp_g (by omega), mp_k e, a]
        · rw [mp_g (by omega), mp_k e, mp_g (by omega), b]
        · rw [mp_k e, mp_g (by omega), mp_g (by omega), c]
    · rintro f2 k _ M2 hf2 ⟨rfl, fr2, h402, e43, h45⟩
      rw [e_X7_land_69, if_pos (by decide)]
      refine loopC L xs O (P := P) (fun j ls M' => ls = [some (.inr (.inr (40, 0))), some (.inl (a1)), some (.inl (nI j)), u3] ∧ Fr sN6 M M' ∧ (∀ i, M' 40 0 i = M 40 0 i) ∧ (∀ g i, g = 43 ∨ g = 45 ∨ g = 46 ∨ g = 47 → M' g 0 i = M2 g 0 i) ∧ ∀ i, i < j → M' 48 0 i = -1) 24 1800 (by omega) ?_ ?_ (by omega) ⟨rfl, fr2, h402, fun _ _ _ => rfl, fun i hi => absurd hi (by omega)⟩
      · rintro f k j _ M' hj ⟨rfl, fr, h40, e2, h⟩ ih
        rw [e_X7_land_104, if_neg (by rw [yle_24 (by omega)]; omega), if_pos (in_24 hj), hl_cl (by omega), zadd_1]
        refine ih _ _ ⟨rfl, Fr_put fr rfl, fun i => h40 i, fun g i hg => ?_, fun i hi => ?_⟩
        · rw [mp_g (by omega)]
          exact e2 g i hg
        · by_cases e : i = j
          · rw [e, mp_s]
          · rw [mp_k e]
            exact h i (by omega)
      · rintro f3 k _ M3 hf3 ⟨rfl, fr3, h403, e2, h48⟩
        rw [e_X7_land_104, if_pos (by decide)]
        refine nx _ _ _ _ (by omega) fr3 h403 ⟨?_, ?_, ?_, ?_, fun j hj => ?_, h48⟩
        · rw [e2 43 0 (by omega), e43, h43 0 (by omega), if_pos rfl]
        · rw [e2 43 1 (by omega), e43, h43 1 (by omega), if_neg (by omega)]
        · rw [e2 43 2 (by omega), e43, h43 2 (by omega), if_neg (by omega)]
        · rw [e2 43 3 (by omega), e43, h43 3 (by omega), if_neg (by omega)]
        · rw [e2 45 j (by omega), e2 46 j (by omega), e2 47 j (by omega)]
          exact h45 j hj
theorem ld_rd {P : Res → Prop} {d : Nat} (hd : 7 ≤ d) {a1 a2 : Int32} {u3 : Option AV} (M : Mem) (hX : MX M tx N) (hz : Zr M) {U0 : Vw} (hz0 : Z0 U0) (hT : MPT M N (bl tx N (.inl 0))) (h7 : M 40 0 7 = nI 0) (f k : Nat) (hf : 100 ≤ f)
    (nx : ∀ f' k' M', f ≤ f' + 61 → Fr sB M M' → MPT M' N (bl tx N (rd tx N U0 61).2) → ((rd tx N U0 61).2.isLeft = true → MRd M' (rd tx N U0 61).1) → P (BK L xs (EX L xs (d + 1)) mi_X7_land (RN L xs (d) mi_X7_land (f')) (k' + 1500) 152 [some (.inr (.inr (40, 0))), some (.inl (a1)), some (.inl (a2)), u3] [] M' O none 0 0)) : P (BK L xs (EX L xs (d + 1)) mi_X7_land (RN L xs (d) mi_X7_land f) (k + 1700) 123 [some (.inr (.inr (40, 0))), some (.inl (a1)), some (.inl (a2)), u3] [] M O none 0 0) := by
  refine loopD L xs O (P := P) (fun c ls M' => ls = [some (.inr (.inr (40, 0))), some (.inl (a1)), some (.inl (a2)), u3] ∧ Fr sB M M' ∧ MPT M' N (bl tx N (rd tx N U0 c).2) ∧ ((rd tx N U0 c).2.isLeft = true → MRd M' (rd tx N U0 c).1 ∧ M' 40 0 7 = nI c)) 61 1700 (by omega) ?_ ?_ (by omega) ⟨rfl, Fr_refl, hT, fun _ => ⟨MRd_Z hz hz0, h7⟩⟩
  · rintro f1 k c _ M' hj hf1 ⟨rfl, fr, ht, hm⟩ ih
    have hX' := MX_B hX fr
    have hin := rd_in (tx := tx) (N := N) hz0 c
    have eS : rd tx N U0 (c + 1) = rdS tx N c (rd tx N U0 c) := rfl
    rw [e_X7_land_123]
    generalize hst : rd tx N U0 c = st at *
    obtain ⟨U, ts⟩ := st
    cases ts with
    | inr e =>
      rw [if_neg (MPT_5 ht)]
      have := rd_E (tx := tx) (N := N) (U0 := U0) (c := c) (by rw [hst]; rfl) (61 - c)
      rw [show c + (61 - c) = 61 by omega, hst] at this
      refine nx _ _ _ (by omega) fr ?_ ?_
      · rw [this]
        exact ht
      · rw [this]
        intro l
        cases l
    | inl p =>
      dsimp only at hin hm
      obtain ⟨hm1, hm7⟩ := hm rfl
      have ht' : MPT M' N (.inl (scn tx N isB p)) := ht
      obtain ⟨b1, b2, b3, b4⟩ := id ht'
      unfold rdS at eS
      dsimp only at eS
      rw [if_pos b3, hX'.2.1, b2]
      have h600 := hX'.1
      by_cases c1 : scn tx N isB p < N
      · rw [if_pos c1] at eS
        rw [if_neg (by rw [hl_le (by omega) (by omega)]; omega)]
        obtain ⟨M2, q2, f2, t2, r2⟩ := x7_clause L xs O (D := d + 1) (by omega) c (by omega) hin.1 (scn tx N isB p) M' hX' ht' (scn_id p) hm1 hm7
        rw [q2]
        simp only [xr_n, Nat.reduceAdd, Nat.add_zero]
        have fr2 := Fr_trans fr f2
        obtain ⟨q, hq, h4⟩ := MPT_c t2
        obtain ⟨M3, q3, f3, c3⟩ := x7_blanks L xs O (D := d + 1) (by omega) q (by omega) M2 (MX_B hX fr2) h4
        rw [e_X7_land_145, q3]
        simp only [xr_n, Nat.reduceAdd, Nat.add_zero]
        rw [e_X7_land_149]
        refine ih _ _ ⟨rfl, Fr_trans fr2 (Fr_mono (fun _ _ _ => sB_4) f3), ?_, ?_⟩
        · rw [eS]
          dsimp only
          cases e : czT tx N c U (scn tx N isB p) with
          | inl q' =>
            rw [e] at t2
            have hqq : q = q' := (nI_eq (by omega) (by have := t2.1; omega)).1 (h4.symm.trans t2.2.1)
            rw [hqq] at c3
            exact ⟨scn_le t2.1, c3, (f3 40 0 5 rfl).trans t2.2.2.1, (f3 40 0 6 rfl).trans t2.2.2.2⟩
          | inr x =>
            rw [e] at t2
            obtain ⟨-, a, b, c, d⟩ := t2
            exact ⟨⟨_, scn_le hq, c3⟩, a, b, (f3 40 0 5 rfl).trans c, (f3 40 0 6 rfl).trans d⟩
        · rw [eS]
          dsimp only
          intro l
          obtain ⟨r, s⟩ := r2 l
          exact ⟨MRx_fr r (Fr_mono (fun _ _ _ => sM_4) f3), (f3 40 0 7 rfl).trans s⟩
      · rw [if_neg c1] at eS
        rw [if_pos (by rw [hl_le (by omega) (by omega)]; omega)]
        have := rd_E (tx := tx) (N := N) (U0 := U0) (c := c + 1) (by rw [eS]; exact decide_eq_true ⟨scn_id p, c1⟩) (60 - c)
        rw [show c + 1 + (60 - c) = 61 by omega, eS] at this
        refine nx _ _ _ (by omega) fr ?_ ?_
        · rw [this]
          show MPT M' N (.inl (scn tx N isB (scn tx N isB p)))
          rw [scn_id]
          exact ht
        · rw [this]
          exact fun _ => hm1
  · rintro f1 k _ M' hf1 ⟨rfl, fr, ht, hm⟩
    have hX' := MX_B hX fr
    have h600 := hX'.1
    rw [e_X7_land_123]
    cases e : (rd tx N U0 61).2 with
    | inr x =>
      have ht2 := ht
      rw [e] at ht2
      rw [if_neg (MPT_5 ht2)]
      exact nx _ _ _ (by omega) fr ht (fun l => (hm l).1)
    | inl p =>
      have c1 := rd61 e
      have ht2 := ht
      rw [e] at ht2
      obtain ⟨b1, b2, b3, b4⟩ := (show MPT M' N (.inl (scn tx N isB p)) from ht2)
      rw [if_pos b3, hX'.2.1, b2, if_pos (by rw [hl_le (by omega) (by omega)]; omega)]
      exact nx _ _ _ (by omega) fr ht (fun l => (hm l).1)
end
