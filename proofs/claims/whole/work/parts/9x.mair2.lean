/-! The reference is told an AIR. -/
def sAf (g _i k : Nat) : Bool := decide ((g = 40 ∧ k ≤ 7) ∨ g = 65)
theorem sAf_r (g i k : Nat) (h : sAf g i k = false) : sAr g i k = false := by
  have := of_decide_eq_false h
  exact decide_eq_false (by omega)
section
variable (L : Nat) (xs : Nat → Int32) (O : Int64) {tx : Nat → Nat} {N : Nat}
theorem ar_clr {P : Res → Prop} {d : Nat} {a1 : Int32} (M : Mem) (f k : Nat) (hf : 50 ≤ f)
    (nx : ∀ f' k' a2 M', f ≤ f' + 15 → Fr (sG 65 65) M M' → MRa M' A0 → P (BK L xs (EX L xs (d + 1)) mi_X7_air (RN L xs (d) mi_X7_air (f')) (k' + 1200) 102 [some (.inr (.inr (40, 0))), some (.inl (a1)), some (.inl (a2))] [] M' O none 0 0)) : P (BK L xs (EX L xs (d + 1)) mi_X7_air (RN L xs (d) mi_X7_air f) (k + 1400) 63 [some (.inr (.inr (40, 0))), some (.inl (a1)), some (.inl (0))] [] M O none 0 0) := by
  refine loopC L xs O (P := P) (fun j ls M' => ls = [some (.inr (.inr (40, 0))), some (.inl (a1)), some (.inl (nI j))] ∧ Fr (sG 65 65) M M' ∧ ∀ i, i < j → M' 65 0 i = A0 i) 15 1400 (by omega) ?_ ?_ (by omega) ⟨rfl, Fr_refl, fun i hi => absurd hi (by omega)⟩
  · rintro f k j _ M' hj ⟨rfl, fr, h⟩ ih
    have fin : ∀ x k, x = A0 j → P (BK L xs (EX L xs (d + 1)) mi_X7_air (RN L xs (d) mi_X7_air f) (k + 1000) 95 [some (.inr (.inr (40, 0))), some (.inl (a1)), some (.inl (nI j))] [.inl x, .inl (nI j), .inr (.inr (65, 0))] M' O none 0 0) := by
      intro x k hx
      rw [e_X7_air_95, if_pos (in_15 hj), hl_cl (by omega), zadd_1]
      refine ih _ _ ⟨rfl, Fr_put fr rfl, fun i hi => ?_⟩
      by_cases e : i = j
      · rw [e, mp_s, hx]
      · rw [mp_k e]
        exact h i (by omega)
    unfold A0 at fin
    rw [e_X7_air_63, if_neg (by rw [yle_15 (by omega)]; omega)]
    by_cases c : j = 13
    · rw [if_pos (by rw [c]; rfl)]
      exact fin _ _ (by rw [if_pos c])
    · rw [if_neg (by rw [zeq_13 (by omega)]; exact c)]
      by_cases c2 : j = 14
      · rw [if_pos (by rw [c2]; rfl)]
        exact fin _ _ (by rw [if_neg c, if_pos c2])
      · rw [if_neg (by rw [zeq_14 (by omega)]; exact c2)]
        exact fin _ _ (by rw [if_neg c, if_neg c2])
  · rintro f1 k _ M1 hf1 ⟨rfl, fr1, h⟩
    rw [e_X7_air_63, if_pos (by decide)]
    exact nx _ _ _ _ (by omega) fr1 h
theorem ar_rd {P : Res → Prop} {d : Nat} (hd : 7 ≤ d) {a1 a2 : Int32} (M : Mem) (hX : MX M tx N) (hz : MRa M A0) (hT : MPT M N (bl tx N (.inl 0))) (h7 : M 40 0 7 = nI 0) (f k : Nat) (hf : 100 ≤ f)
    (nx : ∀ f' k' M', f ≤ f' + 21 → Fr sAr M M' → MPT M' N (bl tx N (asR tx N 21).2) → ((asR tx N 21).2.isLeft = true → MRa M' (asR tx N 21).1) → P (BK L xs (EX L xs (d + 1)) mi_X7_air (RN L xs (d) mi_X7_air (f')) (k' + 1000) 131 [some (.inr (.inr (40, 0))), some (.inl (a1)), some (.inl (a2))] [] M' O none 0 0)) : P (BK L xs (EX L xs (d + 1)) mi_X7_air (RN L xs (d) mi_X7_air f) (k + 1200) 102 [some (.inr (.inr (40, 0))), some (.inl (a1)), some (.inl (a2))] [] M O none 0 0) := by
  refine loopD L xs O (P := P) (fun c ls M' => ls = [some (.inr (.inr (40, 0))), some (.inl (a1)), some (.inl (a2))] ∧ Fr sAr M M' ∧ MPT M' N (bl tx N (asR tx N c).2) ∧ ((asR tx N c).2.isLeft = true → MRa M' (asR tx N c).1 ∧ M' 40 0 7 = nI c)) 21 1200 (by omega) ?_ ?_ (by omega) ⟨rfl, Fr_refl, hT, fun _ => ⟨hz, h7⟩⟩
  · rintro f1 k c _ M' hj hf1 ⟨rfl, fr, ht, hm⟩ ih
    have hX' := MX_Ar hX fr
    have eS : asR tx N (c + 1) = asS tx N c (asR tx N c) := rfl
    rw [e_X7_air_102]
    generalize hst : asR tx N c = st at *
    obtain ⟨U, ts⟩ := st
    cases ts with
    | inr e =>
      rw [if_neg (MPT_5 ht)]
      have := asR_E (tx := tx) (N := N) (c := c) (by rw [hst]; rfl) (21 - c)
      rw [show c + (21 - c) = 21 by omega, hst] at this
      refine nx _ _ _ (by omega) fr ?_ ?_
      · rw [this]
        exact ht
      · rw [this]
        intro l
        cases l
    | inl p =>
      dsimp only at hm
      obtain ⟨hm1, hm7⟩ := hm rfl
      have ht' : MPT M' N (.inl (scn tx N isB p)) := ht
      obtain ⟨b1, b2, b3, b4⟩ := id ht'
      unfold asS at eS
      dsimp only at eS
      rw [if_pos b3, hX'.2.1, b2]
      have h600 := hX'.1
      by_cases c1 : scn tx N isB p < N
      · rw [if_pos c1] at eS
        rw [if_neg (by rw [hl_le (by omega) (by omega)]; omega)]
        obtain ⟨M2, q2, f2, t2, r2⟩ := x7_rule L xs O (D := d + 1) (by omega) c (by omega) (scn tx N isB p) M' hX' ht' (scn_id p) hm1 hm7
        rw [q2]
        simp only [xr_n, Nat.reduceAdd, Nat.add_zero]
        have fr2 := Fr_trans fr f2
        obtain ⟨q, hq, h4⟩ := MPT_c t2
        obtain ⟨M3, q3, f3, c3⟩ := x7_blanks L xs O (D := d + 1) (by omega) q (by omega) M2 (MX_Ar hX fr2) h4
        rw [e_X7_air_124, q3]
        simp only [xr_n, Nat.reduceAdd, Nat.add_zero]
        rw [e_X7_air_128]
        refine ih _ _ ⟨rfl, Fr_trans fr2 (Fr_mono sAr_4 f3), ?_, ?_⟩
        · rw [eS]
          dsimp only
          cases e : arT tx N c (scn tx N isB p) with
          | inl q' =>
            rw [e] at t2
            have hqq : q = q' := (nI_eq (by omega) (by have := t2.1; omega)).1 (h4.symm.trans t2.2.1)
            rw [hqq] at c3
            exact ⟨scn_le t2.1, c3, (f3 40 0 5 rfl).trans t2.2.2.1, (f3 40 0 6 rfl).trans t2.2.2.2⟩
          | inr x =>
            rw [e] at t2
            obtain ⟨-, a, b, c, d⟩ := t2
            exact ⟨⟨_, scn_le hq, c3⟩, a, b, (f3 40 0 5 rfl).trans c, (f3 40 0 6 rfl).trans d⟩
        · rw [eS]
          dsimp only
          intro l
          obtain ⟨r, s⟩ := r2 l
          exact ⟨MRa_M r (Fr_mono (fun _ _ _ => sM_4) f3), (f3 40 0 7 rfl).trans s⟩
      · rw [if_neg c1] at eS
        rw [if_pos (by rw [hl_le (by omega) (by omega)]; omega)]
        have := asR_E (tx := tx) (N := N) (c := c + 1) (by rw [eS]; exact decide_eq_true ⟨scn_id p, c1⟩) (20 - c)
        rw [show c + 1 + (20 - c) = 21 by omega, eS] at this
        refine nx _ _ _ (by omega) fr ?_ ?_
        · rw [this]
          show MPT M' N (.inl (scn tx N isB (scn tx N isB p)))
          rw [scn_id]
          exact ht
        · rw [this]
          exact fun _ => hm1
  · rintro f1 k _ M' hf1 ⟨rfl, fr, ht, hm⟩
    have hX' := MX_Ar hX fr
    have h600 := hX'.1
    rw [e_X7_air_102]
    cases e : (asR tx N 21).2 with
    | inr x =>
      have ht2 := ht
      rw [e] at ht2
      rw [if_neg (MPT_5 ht2)]
      exact nx _ _ _ (by omega) fr ht (fun l => (hm l).1)
    | inl p =>
      have c1 := asR21 e
      have ht2 := ht
      rw [e] at ht2
      obtain ⟨b1, b2, b3, b4⟩ := (show MPT M' N (.inl (scn tx N isB p)) from ht2)
      rw [if_pos b3, hX'.2.1, b2, if_pos (by rw [hl_le (by omega) (by omega)]; omega)]
      exact nx _ _ _ (by omega) fr ht (fun l => (hm l).1)
theorem ar_cpy {d : Nat} {a1 : Int32} (M : Mem) {A : Ar} (na : Nat) (hna : na < 6) (h26 : M 40 0 26 = nI na) (hR : MRa M A) (f k : Nat) (hf : 50 ≤ f) : isI (BK L xs (EX L xs (d + 1)) mi_X7_air (RN L xs (d) mi_X7_air f) (k + 800) 156 [some (.inr (.inr (40, 0))), some (.inl (a1)), some (.inl (0))] [] M O none 0 0) O (nI na) (fun M' => Fr (fun g i k => decide ((g = 40 ∧ k = 26) ∨ (g = 67 ∧ i = na))) M M' ∧ MA M' na A ∧ M' 40 0 26 = nI (na + 1)) := by
  refine loopA L xs O (P := fun r => isI r O _ _) (fun j ls M' => ls = [some (.inr (.inr (40, 0))), some (.inl (a1)), some (.inl (nI j))] ∧ Fr (fun g i k => decide (g = 67 ∧ i = na)) M M' ∧ ∀ i, i < j → M' 67 na i = A i) 15 800 (by omega) ?_ ?_ (by omega) ⟨rfl, Fr_refl, fun i hi => absurd hi (by omega)⟩
  · rintro f k j _ M' hj ⟨rfl, fr, h⟩ ih
    rw [e_X7_air_156, if_neg (by rw [yle_15 (by omega)]; omega), (fr 40 0 26 (decide_eq_false (by omega))).trans h26, if_pos (in_6 hna), if_pos (in_15 hj), if_pos (in_15 hj), hl_cl (by omega), hl_cl (by omega), Nat.zero_add, zadd_1]
    refine ih _ _ ⟨rfl, Fr_put fr (decide_eq_true ⟨rfl, rfl⟩), fun i hi => ?_⟩
    by_cases e : i = j
    · rw [e, mp_s, fr 65 0 j (decide_eq_false (by omega))]
      exact hR j hj
    · rw [mp_k e]
      exact h i (by omega)
  · rintro f k _ M' ⟨rfl, fr, h⟩
    rw [e_X7_air_156, if_pos (by decide), (fr 40 0 26 (decide_eq_false (by omega))).trans h26, zadd_1, zsub_1 (by omega)]
    refine isI_i ⟨Fr_put (Fr_mono (fun g i k h => decide_eq_false (by have := of_decide_eq_false h; omega)) fr) (decide_eq_true (by omega)), fun j hj => ?_, mp_s⟩
    rw [mp_g (by omega)]
    exact h j hj
end
