/-! BELL of the reference; BANG of both. -/
section
variable (L : Nat) (xs : Nat → Int32) (O : Int64) {T : Vw} {f : Nat → Nat} {As : Nat → Nat → Int32} {n nh ns nw na nd : Nat}
theorem x7_soundsR {D : Nat} (hD : 7 ≤ D) (a x : Nat) (up lv pt : Int32) (ha : a < na) (hx : x < n) {M : Mem} (M1 : Mem) (h : MR T f As n nh ns nw na nd M M1) : isV (EX L xs (D) q_X7_sounds [.inr (.inr (40, 0)), .inl (nI a), .inl (nI x), .inl (up), .inl (lv), .inl (pt)] M1 O) O (fun M' => MR T f As n nh ns nw na nd M M' ∧ ∀ y, y < n → M' 79 0 y = loudF (perfL T f nd) (As a) n x up lv pt y) := by
  obtain ⟨M2, q, f2, l2⟩ := x7_sounds L xs O hD (up := up) (lv := lv) (pt := pt) h.2.1.1 a (by have := h.2.1.2.2.2.2.1; omega) M1 (MG_of h.2.1.2.1 h.2.1.2.2.1) (h.2.1.2.2.2.2.2 a ha) hx
  exact ⟨M2, q, MR_q h (Fr_mono (fun _ _ _ => sQ_so) f2), l2⟩
theorem m_bell {D : Nat} (hD : 11 ≤ D) (a h l p : Nat) (hs : Int32) (ha : a < na) (hh : h < 24) (hl0 : 1 ≤ l) (hl : l ≤ 120) (hp0 : 1 ≤ p) (hp : p ≤ 3) (hb : inN hs (2 ^ nh)) (M : Mem) (hB : MB M T f As n nh ns nw na nd) : isI (EX L xs (D) q_X7_bell [.inr (.inr (40, 0)), .inl (nI a), .inl (nI h), .inl (nI l), .inl (nI p), .inl (hs)] M O) O (oI (belF (fun up x => allB (loudF (perfL T f nd) (As a) n x (nI up) (nI l) (nI p)) (perfL T f nd) h hs nh) n 9)) (MP M) := by
  obtain ⟨d, rfl⟩ : ∃ d, D = d + 2 := ⟨D - 2, by omega⟩
  refine isI_e (EX_in mi_X7_bell rfl rfl rfl (ls := [some (.inr (.inr (40, 0))), some (.inl (nI a)), some (.inl (nI h)), some (.inl (nI l)), some (.inl (nI p)), some (.inl (hs)), none, none, none, none]) rfl) ?_
  obtain ⟨M1, e1, fr1, hB1, t1⟩ := m_start hB
  have v4 : 8 ≤ n := hB1.1.2.2.2.2.1
  have v5 : n ≤ 40 := hB1.1.2.2.2.2.2.1
  have v6 : nh ≤ 8 := hB1.1.2.2.2.2.2.2.1
  have v7 : ns ≤ 6 := hB1.1.2.2.2.2.2.2.2.1
  have v8 : nw ≤ 8 := hB1.1.2.2.2.2.2.2.2.2.1
  have h6 : na ≤ 6 := hB1.2.2.2.2.2.1
  have z0 := hB1.2.1.1
  have z1 := hB1.2.1.2.1
  have z2 := hB1.2.1.2.2.1
  have z3 := hB1.2.1.2.2.2.1
  have z26 := hB1.2.2.2.2.1
  have b0 := fun w q => x7_bad_0 L xs O (D := d + 1) (by omega) w q M1 t1
  obtain ⟨M2, ql, h2⟩ := x7_laidR L xs O (D := d + 1) (by omega) hB fr1 hB1 t1
  have p1 := x7_isAir_i L xs O (D := d + 1) (by omega) (by omega) a M1 z26 ha
  have p2 := x7_isHour_i L xs O (D := d + 1) (by omega) h M1 hh
  have p3 := x7_r_in L xs O (D := d + 1) (by omega) (nI l) 1 120 M1 (by rw [zlt_1 (by omega)]; omega) (by rw [ylt_120 (by omega)]; omega)
  have p4 := x7_r_in L xs O (D := d + 1) (by omega) (nI p) 1 3 M1 (by rw [zlt_1 (by omega)]; omega) (by rw [ylt_3 (by omega)]; omega)
  have p5 := x7_bits_i L xs O (D := d + 1) (by omega) v6 hs M1 z1 hb
  simp (disch := first | omega | rfl | decide) only [e_X7_bell_0, e_X7_bell_11, e_X7_bell_19, e_X7_bell_24, e_X7_bell_32, e_X7_bell_77, e_X7_bell_64, e_X7_bell_42, e_X7_bell_69, e_X7_bell_52, e_X7_bell_74, e_X7_bell_61, e_X7_bell_83, e_X7_bell_119, e_X7_bell_125, e_X7_bell_188, e_X7_bell_175, e_X7_bell_172, e_X7_bell_180, xr_v, xr_n, hl_of, hl_cl, hl_toInt, hl_le, hl_lt, hl_eq, nI_add, hl_sub, pk_mul, hl_div, if_pos, if_neg, ↓reduceIte, Nat.reduceAdd, Nat.reduceSub, Nat.reduceMul, Nat.add_zero, Nat.zero_add, mp_s, mp_k, mp_i, mp_g, mr_s, mr_i, mr_g, zlt_0, zlt_1, zlt_2, zlt_3, zlt_4, zlt_5, zlt_6, zlt_8, zlt_12, zlt_15, zlt_20, zlt_24, zlt_36, zlt_40, zlt_48, zlt_80, zlt_97, zlt_120, zlt_256, zlt_600, zlt_99999999, zadd_1, zadd_2, zadd_5, zadd_6, zadd_8, zadd_20, zadd_24, zeq_0, zeq_1, zeq_2, zeq_3, zeq_4, zeq_5, zeq_6, zeq_7, zeq_8, zeq_13, zeq_14, zeq_20, zeq_32, zeq_59, zeq_60, zeq_80, zmul_2, zmul_4, zmul_6, zmul_8, zmul_10, zmul_24, zsub_1, zsub_2, zsub_10, zsub_48, zsub_97, zle_0, zle_1, zle_2, zle_6, zle_11, zle_200, zle_600, zle_100000000, ylt_0, ylt_1, ylt_2, ylt_3, ylt_6, ylt_9, ylt_20, ylt_24, ylt_57, ylt_60, ylt_99, ylt_120, ylt_122, ylt_999, ylt_9999, yle_0, yle_2, yle_4, yle_5, yle_6, yle_7, yle_8, yle_10, yle_12, yle_13, yle_15, yle_16, yle_20, yle_24, yle_40, yle_60, yle_64, yle_80, yadd_1, yadd_22, ymul_2, ymul_4, ymul_6, ymul_8, ymul_10, ymul_24, ymul_27, ymul_100, ysub_1, ysub_24, zdiv_2, zdiv_4, zdiv_24, e1, p1, p2, p3, p4, p5, b0, ql]
  generalize hBB : belF (fun up x => allB (loudF (perfL T f nd) (As a) n x (nI up) (nI l) (nI p)) (perfL T f nd) h hs nh) n 9 = res
  refine loopB L xs O (P := fun r => isI r O (oI res) (MP M)) (fun j ls M' => ∃ u7 u8 u9, ls = [some (.inr (.inr (40, 0))), some (.inl (nI a)), some (.inl (nI h)), some (.inl (nI l)), some (.inl (nI p)), some (.inl (hs)), some (.inl (nI (j + 1))), u7, u8, u9] ∧ belF (fun up x => allB (loudF (perfL T f nd) (As a) n x (nI up) (nI l) (nI p)) (perfL T f nd) h hs nh) n j = none ∧ MR T f As n nh ns nw na nd M M') 9 400 300 0 (by omega) ?_ ?_ 9 FUEL _ 0 _ M2 (by omega) (Nat.le_of_lt (FU (by omega))) (by omega) ⟨_, _, _, rfl, rfl, h2⟩
  · rintro fu k j _ M' hj hf ⟨u7, u8, u9, rfl, hj0, h3⟩ ih
    rw [e_X7_bell_86, if_neg (by rw [yle_10 (by omega)]; omega)]
    refine loopB L xs O (P := fun r => isI r O (oI res) (MP M)) (fun x ls M' => ∃ u8 u9, ls = [some (.inr (.inr (40, 0))), some (.inl (nI a)), some (.inl (nI h)), some (.inl (nI l)), some (.inl (nI p)), some (.inl (hs)), some (.inl (nI (j + 1))), some (.inl (nI x)), u8, u9] ∧ fnd (fun x => allB (loudF (perfL T f nd) (As a) n x (nI (j + 1)) (nI l) (nI p)) (perfL T f nd) h hs nh) x = none ∧ MR T f As n nh ns nw na nd M M') n 8 200 fu (by omega) ?_ ?_ n fu _ 0 _ M' (by omega) (by omega) (by omega) ⟨_, _, rfl, rfl, h3⟩
    · rintro fu k x _ M' hx hf ⟨u8, u9, rfl, hx0, h3⟩ ih
      have k0 := h3.2.1.2.1.1
      obtain ⟨M3, q3, h4, l4⟩ := x7_soundsR L xs O (D := d + 1) (by omega) a x (nI (j + 1)) (nI l) (nI p) ha hx M' h3
      rw [e_X7_bell_96, k0, if_neg (by rw [hl_le (by omega) (by omega)]; omega), q3]
      simp only [xr_n, Nat.reduceAdd, Nat.add_zero]
      rw [e_X7_bell_119]
      generalize hR : loudF (perfL T f nd) (As a) n x (nI (j + 1)) (nI l) (nI p) = R at *
      have key : ∀ j', allB R (perfL T f nd) h hs j' = false → j' ≤ nh → ∀ f1 k1 a9, fu ≤ f1 + 8 → isI (BK L xs (EX L xs (d + 1)) mi_X7_bell (RN L xs (d) mi_X7_bell f1) (k1 + 60) 188 [some (.inr (.inr (40, 0))), some (.inl (nI a)), some (.inl (nI h)), some (.inl (nI l)), some (.inl (nI p)), some (.inl (hs)), some (.inl (nI (j + 1))), some (.inl (nI x)), some (.inl (0)), some (.inl (a9))] [] M3 O none 0 0) O (oI res) (MP M) := by
        intro j' hj' hj2 f1 k1 a9 hf1
        rw [e_X7_bell_188, if_pos rfl, zadd_1]
        have h5 := allB_f hj' (nh - j')
        rw [show j' + (nh - j') = nh by omega] at h5
        exact ih f1 _ _ (by omega) ⟨_, _, rfl, fnd_next hx0 (by rw [hR]; exact h5), h4⟩
      refine loopD L xs O (P := fun r => isI r O (oI res) (MP M)) (fun i ls M' => ls = [some (.inr (.inr (40, 0))), some (.inl (nI a)), some (.inl (nI h)), some (.inl (nI l)), some (.inl (nI p)), some (.inl (hs)), some (.inl (nI (j + 1))), some (.inl (nI x)), some (.inl (b2i (allB R (perfL T f nd) h hs i))), some (.inl (nI i))] ∧ M' = M3) nh 100 (by omega) ?_ ?_ (by omega) ⟨rfl, rfl⟩
      · rintro f1 k1 i _ M' hi hf1 ⟨rfl, e⟩ ih2
        have k1' := h4.2.1.2.1.2.1
        rw [e, e_X7_bell_125, k1', if_neg (by rw [hl_le (by omega) (by omega)]; omega)]
        have hs1 : allB R (perfL T f nd) h hs (i + 1) = (allB R (perfL T f nd) h hs i && (!bitB hs i || decide (needF ((perfL T f nd) 8) ((perfL T f nd) 9) i h ≤ R (vN (perfL T f nd) 7 i)))) := rfl
        cases c : allB R (perfL T f nd) h hs i with
        | false =>
          rw [b2i_f, if_pos rfl]
          exact key i c (by omega) f1 _ _ (by omega)
        | true =>
          rw [c, Bool.true_and] at hs1
          have hz := bit_z hs (show i < 32 by omega)
          rw [b2i_t, if_neg (by decide)]
          cases c2 : bitB hs i with
          | false =>
            rw [c2] at hs1
            rw [if_pos (hz.mpr c2), e_X7_bell_175, e_X7_bell_180, zadd_1]
            refine ih2 _ _ ⟨?_, rfl⟩
            rw [hs1]
            rfl
          | true =>
            rw [c2] at hs1
            have vc := h4.2.1.1.2.2.2.2.2.2.2.2.2.2.2.2.1 i hi
            have g56 := (h4.2.1.2.1.2.2.2.2.2.1 i hi).trans vc.1
            have g79 := l4 _ vc.2
            have vc2 := vc.2
            have q5 := x7_needs L xs O (D := d + 1) (by omega) i h hi hh v6 M3 h4.2.1.2.1 h4.2.1.2.2.1
            rw [if_neg (fun e => by rw [hz.mp e] at c2; cases c2), if_pos (in_8 (by omega)), hl_cl (by omega), Nat.zero_add, g56, if_pos (in_40 (by omega)), hl_cl (by omega), g79, q5]
            simp only [xr_v, Nat.reduceAdd, Nat.add_zero]
            rw [e_X7_bell_172]
            by_cases c3 : R (vN (perfL T f nd) 7 i) < needF ((perfL T f nd) 8) ((perfL T f nd) 9) i h
            · rw [if_pos c3, e_X7_bell_180, zadd_1]
              refine ih2 _ _ ⟨?_, rfl⟩
              rw [hs1, decide_eq_false (nle_lt c3)]
              rfl
            · rw [if_neg c3, e_X7_bell_175, e_X7_bell_180, zadd_1]
              refine ih2 _ _ ⟨?_, rfl⟩
              rw [hs1, decide_eq_true (le_nlt c3)]
              rfl
      · rintro f1 k1 _ M' hf1 ⟨rfl, e⟩
        have k1' := h4.2.1.2.1.2.1
        rw [e, e_X7_bell_125, k1', if_pos (by rw [hl_le (by omega) (by omega)]; omega)]
        cases c : allB R (perfL T f nd) h hs nh with
        | false =>
          rw [b2i_f]
          exact key nh c (Nat.le_refl _) f1 _ _ (by omega)
        | true =>
          rw [b2i_t, e_X7_bell_188, if_neg (by decide), ymul_100, nI_add]
          have := bel_found hj0 hx0 (by rw [hR]; exact c) hx hj
          rw [hBB] at this
          rw [this]
          exact isI_i (MR_P h4)
    · rintro f1 k1 _ M' hf1 ⟨u8, u9, rfl, hx0, h3⟩
      have k0 := h3.2.1.2.1.1
      rw [e_X7_bell_96, k0, if_pos (by rw [hl_le (by omega) (by omega)]; omega), zadd_1]
      exact ih f1 _ _ (by omega) ⟨_, _, _, rfl, bel_next hj0 hx0, h3⟩
  · rintro fu k _ M' - ⟨u7, u8, u9, rfl, hj0, h3⟩
    rw [hBB] at hj0
    rw [hj0, e_X7_bell_86, if_pos (by decide)]
    exact isI_i (MR_P h3)
end
/-! BANG -/
theorem t_sub {a b : Int32} (h1 : -2147483648 ≤ a.toInt - b.toInt) (h2 : a.toInt - b.toInt < 2147483648) : (a - b).toInt = a.toInt - b.toInt := by
  rw [Int32.toInt_sub]
  exact Int.bmod_eq_of_le (by omega) (by omega)
theorem t_add {a b : Int32} (h1 : -2147483648 ≤ a.toInt + b.toInt) (h2 : a.toInt + b.toInt < 2147483648) : (a + b).toInt = a.toInt + b.toInt := by
  rw [Int32.toInt_add]
  exact Int.bmod_eq_of_le (by omega) (by omega)
/-- a TIME: nothing, not heard, or when -/
def tOK (t : Int32) : Prop := t = -2 ∨ t = -1 ∨ ∃ q, q ≤ 999 ∧ t = nI q
theorem tOK_neg {t : Int32} (h : tOK t) (h2 : t ≠ -2) (h1 : t ≠ -1) : ∃ q, q ≤ 999 ∧ t = nI q := (h.resolve_left h2).resolve_left h1
/-- when it was sent by the k-th HOUSE's TIME -/
def snt (V : Vw) (tm : Nat → Int32) (x v k : Nat) : Int32 := tm k - nI v * nI (dist x (vN V 7 k))
theorem snt_b {V : Vw} {tm : Nat → Int32} {n x v k : Nat} (hx : x < n) (hn : n ≤ 40) (hc : vN V 7 k < n) (hv : v ≤ 9) {q : Nat} (hq : q ≤ 999) (e : tm k = nI q) : -1000 ≤ (snt V tm x v k).toInt ∧ (snt V tm x v k).toInt ≤ 1000 := by
  have hd := dist_lt hx hc
  have h2 := Nat.mul_le_mul hv (show dist x (vN V 7 k) ≤ 40 by omega)
  unfold snt
  rw [e, pk_mul, pk_sub_toInt (by omega) (by omega)]
  omega
def tsF (V : Vw) (tm : Nat → Int32) (x v : Nat) : Nat → Option (Int × Int)
  | 0 => none
  | k + 1 => if tm k < 0 then tsF V tm x v k else match tsF V tm x v k with
    | none => some ((snt V tm x v k).toInt, (snt V tm x v k).toInt)
    | some (lo, hi) => some (if (snt V tm x v k).toInt < lo then (snt V tm x v k).toInt else lo, if hi < (snt V tm x v k).toInt then (snt V tm x v k).toInt else hi)
def trB (o : Option (Int × Int)) (dd : Nat) : Bool := match o with
  | none => true
  | some (lo, hi) => decide (hi - lo ≤ 2 * (dd : Int))
def hatB (R : Nat → Int32) (V : Vw) (h : Nat) (tm : Nat → Int32) : Nat → Bool
  | 0 => true
  | k + 1 => hatB R V h tm k && (decide (tm k = -2) || (decide (R (vN V 7 k) < needF (V 8) (V 9) k h) == decide (tm k = -1)))
theorem hatB_f {R : Nat → Int32} {V : Vw} {h : Nat} {tm : Nat → Int32} {j : Nat} (e : hatB R V h tm j = false) : ∀ r, hatB R V h tm (j + r) = false := by
  intro r
  induction r with
  | zero => exact e
  | succ r ih =>
    show (hatB R V h tm (j + r) && _) = false
    rw [ih, Bool.false_and]
theorem ts_n {V : Vw} {tm : Nat → Int32} {x v k : Nat} (h : tm k < 0) : tsF V tm x v (k + 1) = tsF V tm x v k := if_pos h
theorem ts_0 {V : Vw} {tm : Nat → Int32} {x v k : Nat} (h : ¬ tm k < 0) (e : tsF V tm x v k = none) : tsF V tm x v (k + 1) = some ((snt V tm x v k).toInt, (snt V tm x v k).toInt) := by
  refine (if_neg h).trans ?_
  rw [e]
theorem ts_1 {V : Vw} {tm : Nat → Int32} {x v k : Nat} {lo hi : Int} (h : ¬ tm k < 0) (e : tsF V tm x v k = some (lo, hi)) : tsF V tm x v (k + 1) = some (if (snt V tm x v k).toInt < lo then (snt V tm x v k).toInt else lo, if hi < (snt V tm x v k).toInt then (snt V tm x v k).toInt else hi) := by
  refine (if_neg h).trans ?_
  rw [e]
def shl64 (x : Nat) : Int64 := (Int64.ofNat 1) <<< ((nI x).toInt64 &&& 63)
def bitsL (p : Nat → Bool) : Nat → Int64
  | 0 => Int64.ofNat 0
  | x + 1 => if p x = true then bitsL p x ||| shl64 x else bitsL p x
def bangF (V : Vw) (A : Nat → Int32) (n nh h l v dd : Nat) (tm : Nat → Int32) : Int64 := bitsL (fun x => trB (tsF V tm x v nh) dd && hatB (loudF V A n x 1 (nI l) 1) V h tm nh) n
