/-! LEAST sets of WORKS. -/
def coinN (V : Vw) (b : Int32) : Nat → Nat
  | 0 => 0
  | w + 1 => if bitB b w = true then coinN V b w + vN V 17 w else coinN V b w
def dbF (f : Nat → Nat) : Nat → Int32
  | 0 => 0
  | i + 1 => dbF f i ||| (1 <<< (nI (f i) &&& 31))
def djB (f : Nat → Nat) (x : Int32) : Nat → Bool
  | 0 => true
  | i + 1 => djB f x i && !bitB x (f i)
def isD (f : Nat → Nat) (k : Nat) : Nat → Bool
  | 0 => false
  | i + 1 => isD f k i || decide (f i = k)
def dmB (f : Nat → Nat) (nd : Nat) (x : Int32) : Nat → Bool
  | 0 => true
  | k + 1 => if bitB x k = true then dmB f nd x k && !isD f k nd else dmB f nd x k
def bet (V : Vw) (nw : Nat) (st : Option Nat) (b : Nat) : Bool := match st with
  | none => true
  | some c => decide (coinN V (nI b) nw < coinN V (nI c) nw)
def lF (V : Vw) (A : Nat → Int32) (f : Nat → Nat) (n nh ns nw nd h : Nat) (hs : Int32) : Nat → Option Nat
  | 0 => none
  | b + 1 => if (djB f (nI b) nd && bet V nw (lF V A f n nh ns nw nd h hs b) b && freeB (fun k => hearF (perfS V (nI b) nw) A n ns h k) hs nh) = true then some b else lF V A f n nh ns nw nd h hs b
def bI (st : Option Nat) : Int32 := match st with
  | none => -1
  | some b => nI b
def cI (V : Vw) (nw : Nat) (st : Option Nat) : Int32 := match st with
  | none => 0
  | some b => nI (coinN V (nI b) nw)
def mI (V : Vw) (nw : Nat) (st : Option Nat) : Int32 := match st with
  | none => -1
  | some b => nI (coinN V (nI b) nw)
theorem coin_le {V : Vw} {nw : Nat} (hc : ∀ w, w < nw → V 17 w = nI (vN V 17 w) ∧ vN V 17 w ≤ 99) (b : Int32) : ∀ w, w ≤ nw → coinN V b w ≤ 99 * w := by
  intro w
  induction w with
  | zero => intro _; exact Nat.le_refl _
  | succ w ih =>
    intro hw
    have := ih (by omega)
    have := (hc w (by omega)).2
    unfold coinN
    split <;> omega
theorem bit_z (x : Int32) {k : Nat} (hk : k < 32) : (x >>> (nI k &&& 31)) &&& 1 = 0 ↔ bitB x k = false := by
  have h0 : bt ((x >>> (nI k &&& 31)) &&& 1) 0 = bt x k := by
    rw [b_and, b_sshr k hk x (by omega), if_pos (by omega), show bt 1 0 = true from by decide, Bool.and_true, Nat.add_zero]
  rw [bitB_bt x hk]
  refine ⟨fun h => ?_, fun h => b_ext (fun i hi => ?_)⟩
  · rw [h, b_0] at h0
    exact h0.symm
  · rw [b_0]
    by_cases e : i = 0
    · rw [e, h0, h]
    · have h3 : ∀ i, i < 32 → i ≠ 0 → bt 1 i = false := by decide +kernel
      rw [b_and, h3 i hi e, Bool.and_false]
theorem and_or0 {x y z : Int32} : x &&& (y ||| z) = 0 ↔ x &&& y = 0 ∧ x &&& z = 0 := by
  rw [and_0, and_0, and_0]
  refine ⟨fun h => ⟨fun i hi => ?_, fun i hi => ?_⟩, fun h i hi => ?_⟩
  · have := h i hi
    rw [b_or] at this
    revert this
    cases bt x i <;> cases bt y i <;> cases bt z i <;> simp
  · have := h i hi
    rw [b_or] at this
    revert this
    cases bt x i <;> cases bt y i <;> cases bt z i <;> simp
  · have h1 := h.1 i hi
    have h2 := h.2 i hi
    rw [b_or]
    revert h1 h2
    cases bt x i <;> cases bt y i <;> cases bt z i <;> simp
theorem and_one0 {x : Int32} {k : Nat} (hk : k < 32) : x &&& (1 <<< (nI k &&& 31)) = 0 ↔ bitB x k = false := by
  rw [and_0, bitB_bt x hk]
  refine ⟨fun h => ?_, fun h i hi => ?_⟩
  · have := h k hk
    rw [b_one k hk hk, decide_eq_true rfl, Bool.and_true] at this
    exact this
  · rw [b_one k hk hi]
    by_cases e : i = k
    · rw [e, h, Bool.false_and]
    · rw [decide_eq_false e, Bool.and_false]
theorem db_dj (f : Nat → Nat) (x : Int32) : ∀ k, (∀ i, i < k → f i < 32) → (x &&& dbF f k = 0 ↔ djB f x k = true) := by
  intro k
  induction k with
  | zero =>
    intro _
    refine ⟨fun _ => rfl, fun _ => ?_⟩
    rw [and_0]
    intro i _
    rw [show dbF f 0 = 0 from rfl, b_0, Bool.and_false]
  | succ k ih =>
    intro hf
    unfold dbF djB
    rw [and_or0, ih (fun i hi => hf i (by omega)), and_one0 (hf k (by omega)), Bool.and_eq_true, Bool.not_eq_true']
theorem dj_iff (f : Nat → Nat) (x : Int32) : ∀ k, djB f x k = true ↔ ∀ i, i < k → bitB x (f i) = false := by
  intro k
  induction k with
  | zero => exact ⟨fun _ k hk => absurd hk (by omega), fun _ => rfl⟩
  | succ k ih =>
    unfold djB
    rw [Bool.and_eq_true, ih, Bool.not_eq_true']
    refine ⟨fun h i hi => ?_, fun h => ⟨fun i hi => h i (by omega), h k (by omega)⟩⟩
    by_cases e : i = k
    · rw [e]
      exact h.2
    · exact h.1 i (by omega)
theorem isD_iff (f : Nat → Nat) (k : Nat) : ∀ m, isD f k m = true ↔ ∃ i, i < m ∧ f i = k := by
  intro m
  induction m with
  | zero => exact ⟨fun h => absurd h Bool.false_ne_true, fun ⟨i, hi, _⟩ => absurd hi (by omega)⟩
  | succ m ih =>
    unfold isD
    rw [Bool.or_eq_true, ih, decide_eq_true_eq]
    refine ⟨fun h => ?_, fun ⟨i, hi, e⟩ => ?_⟩
    · rcases h with ⟨i, hi, e⟩ | e
      · exact ⟨i, by omega, e⟩
      · exact ⟨m, by omega, e⟩
    · by_cases e2 : i = m
      · right
        rw [← e2]
        exact e
      · exact Or.inl ⟨i, by omega, e⟩
theorem dm_iff (f : Nat → Nat) (nd : Nat) (x : Int32) : ∀ m, dmB f nd x m = true ↔ ∀ k, k < m → bitB x k = true → isD f k nd = false := by
  intro m
  induction m with
  | zero => exact ⟨fun _ k hk => absurd hk (by omega), fun _ => rfl⟩
  | succ m ih =>
    unfold dmB
    by_cases c : bitB x m = true
    · rw [if_pos c, Bool.and_eq_true, ih, Bool.not_eq_true']
      refine ⟨fun h k hk hb => ?_, fun h => ⟨fun k hk hb => h k (by omega) hb, h m (by omega) c⟩⟩
      by_cases e : k = m
      · rw [e]
        exact h.2
      · exact h.1 k (by omega) hb
    · rw [if_neg c, ih]
      refine ⟨fun h k hk hb => ?_, fun h k hk hb => h k (by omega) hb⟩
      by_cases e : k = m
      · rw [e] at hb
        exact absurd hb c
      · exact h k (by omega) hb
theorem dm_dj {f : Nat → Nat} {nd nw : Nat} (hf : ∀ i, i < nd → f i < nw) (x : Int32) : dmB f nd x nw = djB f x nd := by
  rw [Bool.eq_iff_iff, dm_iff, dj_iff]
  refine ⟨fun h i hi => ?_, fun h k hk hb => ?_⟩
  · cases c : bitB x (f i) with
    | false => rfl
    | true =>
      have h1 := h (f i) (hf i hi) c
      rw [(isD_iff f (f i) nd).mpr ⟨i, hi, rfl⟩] at h1
      exact h1
  · cases c : isD f k nd with
    | false => rfl
    | true =>
      obtain ⟨i, hi, e⟩ := (isD_iff f k nd).mp c
      have := h i hi
      rw [e, hb] at this
      exact this
theorem shl1 : ∀ w, w < 9 → (1 : Int32) <<< (nI w &&& 31) = nI (2 ^ w) := by decide
theorem pow_le8 {w : Nat} (h : w ≤ 8) : 2 ^ w ≤ 256 := Nat.pow_le_pow_right (by omega) h
theorem lF_lt {V : Vw} {A : Nat → Int32} {f : Nat → Nat} {n nh ns nw nd h : Nat} {hs : Int32} : ∀ {b c : Nat}, lF V A f n nh ns nw nd h hs b = some c → c < b := by
  intro b
  induction b with
  | zero => intro c h; cases h
  | succ b ih =>
    intro c h
    unfold lF at h
    split at h
    · cases h
      omega
    · have := ih h
      omega
def CO (M : Mem) (f : Nat → Nat) (nd nw : Nat) : Prop := M 20 0 1 = nI nd ∧ nd ≤ 8 ∧ ∀ i, i < nd → M 21 0 i = nI (f i) ∧ f i < nw
theorem CO_fr {M M' : Mem} {f : Nat → Nat} {nd nw : Nat} (h : CO M f nd nw) (fr : Fr sC M M') : CO M' f nd nw := ⟨(fr 20 0 1 rfl).trans h.1, h.2.1, fun i hi => ⟨(fr 21 0 i rfl).trans (h.2.2 i hi).1, (h.2.2 i hi).2⟩⟩
section
variable (L : Nat) (xs : Nat → Int32) (O : Int64)
theorem co_l (d : Nat) (hd : 2 ≤ d + 1) (i0 : Nat) (b : Int32) {V : Vw} {n nh ns nw : Nat} (hV : VOK V n nh ns nw) (M : Mem) (hL : CL M i0 V) : ∀ r fuel k w, w + r = nw → r ≤ fuel →
    BK L xs (EX L xs (d + 1)) mi_X1_coinOf (RN L xs (d) mi_X1_coinOf fuel) (k + 100) 4 [some (.inr (.inr (3, i0))), some (.inl (b)), some (.inl (nI (coinN V b w))), some (.inl (nI w))] [] M O none 0 0 = (some (.inl (some (.inl (nI (coinN V b nw)))), M, O, 0, 0) : Res) := by
  obtain ⟨v0, v1, v2, v3, v4, v5, v6, v7, v8, vk, vh, vw, vc, vs, vl, vwk, vcn⟩ := hV
  have g13 := (hL 3 13 rfl).trans v3
  intro r
  induction r with
  | zero =>
    intro fuel k w hj hf
    obtain rfl : w = nw := by omega
    simp (disch := first | omega | rfl | decide) only [e_X1_coinOf_4, xr_v, xr_n, hl_of, hl_cl, hl_toInt, hl_le, hl_lt, hl_eq, nI_add, hl_sub, pk_mul, hl_div, if_pos, if_neg, ↓reduceIte, Nat.reduceAdd, Nat.reduceSub, Nat.reduceMul, Nat.add_zero, Nat.zero_add, mp_s, mp_k, mp_i, mp_g, mr_s, mr_i, mr_g, zlt_0, zlt_1, zlt_2, zlt_3, zlt_4, zlt_5, zlt_6, zlt_8, zlt_12, zlt_15, zlt_20, zlt_24, zlt_36, zlt_40, zlt_48, zlt_80, zlt_97, zlt_120, zlt_256, zlt_600, zlt_99999999, zadd_1, zadd_2, zadd_5, zadd_6, zadd_8, zadd_20, zadd_24, zeq_0, zeq_1, zeq_2, zeq_3, zeq_4, zeq_5, zeq_6, zeq_7, zeq_8, zeq_13, zeq_14, zeq_20, zeq_32, zeq_59, zeq_60, zeq_80, zmul_2, zmul_4, zmul_6, zmul_8, zmul_10, zmul_24, zsub_1, zsub_2, zsub_10, zsub_48, zsub_97, zle_0, zle_1, zle_2, zle_6, zle_11, zle_200, zle_600, zle_100000000, ylt_0, ylt_1, ylt_2, ylt_3, ylt_6, ylt_9, ylt_20, ylt_24, ylt_57, ylt_60, ylt_99, ylt_120, ylt_122, ylt_999, ylt_9999, yle_0, yle_2, yle_4, yle_5, yle_6, yle_7, yle_8, yle_10, yle_12, yle_13, yle_15, yle_16, yle_20, yle_24, yle_40, yle_60, yle_64, yle_80, yadd_1, yadd_22, ymul_2, ymul_4, ymul_6, ymul_8, ymul_10, ymul_24, ymul_27, ymul_100, ysub_1, ysub_24, zdiv_2, zdiv_4, zdiv_24, g13]
  | succ r ih =>
    intro fuel k w hj hf
    obtain ⟨f, rfl⟩ : ∃ f, fuel = f + 1 := ⟨fuel - 1, by omega⟩
    have q1 := x6_bit L xs O (D := d + 1) (by omega) b w M
    have g17 := (hL 17 w (decide_eq_true (show w < 8 by omega))).trans (vcn w (by omega)).1
    have ih' := ih f 2900 (w + 1) (by omega) (by omega)
    rw [show coinN V b (w + 1) = if bitB b w = true then coinN V b w + vN V 17 w else coinN V b w from rfl] at ih'
    cases c : bitB b w with
    | false =>
      rw [c, b2i_f] at q1
      rw [c, if_neg Bool.false_ne_true] at ih'
      simp (disch := first | omega | rfl | decide) only [e_X1_coinOf_4, e_X1_coinOf_17, e_X1_coinOf_29, xr_v, xr_n, hl_of, hl_cl, hl_toInt, hl_le, hl_lt, hl_eq, nI_add, hl_sub, pk_mul, hl_div, if_pos, if_neg, ↓reduceIte, Nat.reduceAdd, Nat.reduceSub, Nat.reduceMul, Nat.add_zero, Nat.zero_add, mp_s, mp_k, mp_i, mp_g, mr_s, mr_i, mr_g, zlt_0, zlt_1, zlt_2, zlt_3, zlt_4, zlt_5, zlt_6, zlt_8, zlt_12, zlt_15, zlt_20, zlt_24, zlt_36, zlt_40, zlt_48, zlt_80, zlt_97, zlt_120, zlt_256, zlt_600, zlt_99999999, zadd_1, zadd_2, zadd_5, zadd_6, zadd_8, zadd_20, zadd_24, zeq_0, zeq_1, zeq_2, zeq_3, zeq_4, zeq_5, zeq_6, zeq_7, zeq_8, zeq_13, zeq_14, zeq_20, zeq_32, zeq_59, zeq_60, zeq_80, zmul_2, zmul_4, zmul_6, zmul_8, zmul_10, zmul_24, zsub_1, zsub_2, zsub_10, zsub_48, zsub_97, zle_0, zle_1, zle_2, zle_6, zle_11, zle_200, zle_600, zle_100000000, ylt_0, ylt_1, ylt_2, ylt_3, ylt_6, ylt_9, ylt_20, ylt_24, ylt_57, ylt_60, ylt_99, ylt_120, ylt_122, ylt_999, ylt_9999, yle_0, yle_2, yle_4, yle_5, yle_6, yle_7, yle_8, yle_10, yle_12, yle_13, yle_15, yle_16, yle_20, yle_24, yle_40, yle_60, yle_64, yle_80, yadd_1, yadd_22, ymul_2, ymul_4, ymul_6, ymul_8, ymul_10, ymul_24, ymul_27, ymul_100, ysub_1, ysub_24, zdiv_2, zdiv_4, zdiv_24, g13, q1]
      exact RN_of ih'
    | true =>
      rw [c, b2i_t] at q1
      rw [c, if_pos rfl] at ih'
      simp (disch := first | omega | rfl | decide) only [e_X1_coinOf_4, e_X1_coinOf_17, e_X1_coinOf_29, xr_v, xr_n, hl_of, hl_cl, hl_toInt, hl_le, hl_lt, hl_eq, nI_add, hl_sub, pk_mul, hl_div, if_pos, if_neg, ↓reduceIte, Nat.reduceAdd, Nat.reduceSub, Nat.reduceMul, Nat.add_zero, Nat.zero_add, mp_s, mp_k, mp_i, mp_g, mr_s, mr_i, mr_g, zlt_0, zlt_1, zlt_2, zlt_3, zlt_4, zlt_5, zlt_6, zlt_8, zlt_12, zlt_15, zlt_20, zlt_24, zlt_36, zlt_40, zlt_48, zlt_80, zlt_97, zlt_120, zlt_256, zlt_600, zlt_99999999, zadd_1, zadd_2, zadd_5, zadd_6, zadd_8, zadd_20, zadd_24, zeq_0, zeq_1, zeq_2, zeq_3, zeq_4, zeq_5, zeq_6, zeq_7, zeq_8, zeq_13, zeq_14, zeq_20, zeq_32, zeq_59, zeq_60, zeq_80, zmul_2, zmul_4, zmul_6, zmul_8, zmul_10, zmul_24, zsub_1, zsub_2, zsub_10, zsub_48, zsub_97, zle_0, zle_1, zle_2, zle_6, zle_11, zle_200, zle_600, zle_100000000, ylt_0, ylt_1, ylt_2, ylt_3, ylt_6, ylt_9, ylt_20, ylt_24, ylt_57, ylt_60, ylt_99, ylt_120, ylt_122, ylt_999, ylt_9999, yle_0, yle_2, yle_4, yle_5, yle_6, yle_7, yle_8, yle_10, yle_12, yle_13, yle_15, yle_16, yle_20, yle_24, yle_40, yle_60, yle_64, yle_80, yadd_1, yadd_22, ymul_2, ymul_4, ymul_6, ymul_8, ymul_10, ymul_24, ymul_27, ymul_100, ysub_1, ysub_24, zdiv_2, zdiv_4, zdiv_24, g13, q1, g17]
      exact RN_of ih'
theorem x1_coinOf {D : Nat} (hD : 3 ≤ D) (i0 : Nat) (b : Int32) {V : Vw} {n nh ns nw : Nat} (hV : VOK V n nh ns nw) (M : Mem) (hL : CL M i0 V) : EX L xs (D) q_X1_coinOf [.inr (.inr (3, i0)), .inl (b)] M O = (some (.inl (some (.inl (nI (coinN V b nw)))), M, O, 0, 0) : Res) := by
  have v8 : nw ≤ 8 := hV.2.2.2.2.2.2.2.2.1
  obtain ⟨d, rfl⟩ : ∃ d, D = d + 2 := ⟨D - 2, by omega⟩
  refine (EX_in mi_X1_coinOf rfl rfl rfl (ls := [some (.inr (.inr (3, i0))), some (.inl (b)), none, none]) rfl).trans ?_
  rw [e_X1_coinOf_0]
  exact co_l L xs O d (by omega) i0 b hV M hL nw FUEL _ 0 (by omega) (Nat.le_of_lt (FU (by omega)))
theorem db_l (d : Nat) {f : Nat → Nat} {nd nw : Nat} (M : Mem) (hO : CO M f nd nw) : ∀ r fuel k i, i + r = nd → r ≤ fuel →
    BK L xs (EX L xs (d + 1)) mi_X2_doneBits (RN L xs (d) mi_X2_doneBits fuel) (k + 100) 4 [some (.inr (.inr (20, 0))), some (.inl (dbF f i)), some (.inl (nI i))] [] M O none 0 0 = (some (.inl (some (.inl (dbF f nd))), M, O, 0, 0) : Res) := by
  obtain ⟨o1, o2, o3⟩ := hO
  intro r
  induction r with
  | zero =>
    intro fuel k w hj hf
    obtain rfl : w = nd := by omega
    simp (disch := first | omega | rfl | decide) only [e_X2_doneBits_4, xr_v, xr_n, hl_of, hl_cl, hl_toInt, hl_le, hl_lt, hl_eq, nI_add, hl_sub, pk_mul, hl_div, if_pos, if_neg, ↓reduceIte, Nat.reduceAdd, Nat.reduceSub, Nat.reduceMul, Nat.add_zero, Nat.zero_add, mp_s, mp_k, mp_i, mp_g, mr_s, mr_i, mr_g, zlt_0, zlt_1, zlt_2, zlt_3, zlt_4, zlt_5, zlt_6, zlt_8, zlt_12, zlt_15, zlt_20, zlt_24, zlt_36, zlt_40, zlt_48, zlt_80, zlt_97, zlt_120, zlt_256, zlt_600, zlt_99999999, zadd_1, zadd_2, zadd_5, zadd_6, zadd_8, zadd_20, zadd_24, zeq_0, zeq_1, zeq_2, zeq_3, zeq_4, zeq_5, zeq_6, zeq_7, zeq_8, zeq_13, zeq_14, zeq_20, zeq_32, zeq_59, zeq_60, zeq_80, zmul_2, zmul_4, zmul_6, zmul_8, zmul_10, zmul_24, zsub_1, zsub_2, zsub_10, zsub_48, zsub_97, zle_0, zle_1, zle_2, zle_6, zle_11, zle_200, zle_600, zle_100000000, ylt_0, ylt_1, ylt_2, ylt_3, ylt_6, ylt_9, ylt_20, ylt_24, ylt_57, ylt_60, ylt_99, ylt_120, ylt_122, ylt_999, ylt_9999, yle_0, yle_2, yle_4, yle_5, yle_6, yle_7, yle_8, yle_10, yle_12, yle_13, yle_15, yle_16, yle_20, yle_24, yle_40, yle_60, yle_64, yle_80, yadd_1, yadd_22, ymul_2, ymul_4, ymul_6, ymul_8, ymul_10, ymul_24, ymul_27, ymul_100, ysub_1, ysub_24, zdiv_2, zdiv_4, zdiv_24, o1]
  | succ r ih =>
    intro fuel k w hj hf
    obtain ⟨f', rfl⟩ : ∃ f, fuel = f + 1 := ⟨fuel - 1, by omega⟩
    have g21 := (o3 w (by omega)).1
    have ih' := ih f' 2900 (w + 1) (by omega) (by omega)
    rw [show dbF f (w + 1) = dbF f w ||| (1 <<< (nI (f w) &&& 31)) from rfl] at ih'
    simp (disch := first | omega | rfl | decide) only [e_X2_doneBits_4, xr_v, xr_n, hl_of, hl_cl, hl_toInt, hl_le, hl_lt, hl_eq, nI_add, hl_sub, pk_mul, hl_div, if_pos, if_neg, ↓reduceIte, Nat.reduceAdd, Nat.reduceSub, Nat.reduceMul, Nat.add_zero, Nat.zero_add, mp_s, mp_k, mp_i, mp_g, mr_s, mr_i, mr_g, zlt_0, zlt_1, zlt_2, zlt_3, zlt_4, zlt_5, zlt_6, zlt_8, zlt_12, zlt_15, zlt_20, zlt_24, zlt_36, zlt_40, zlt_48, zlt_80, zlt_97, zlt_120, zlt_256, zlt_600, zlt_99999999, zadd_1, zadd_2, zadd_5, zadd_6, zadd_8, zadd_20, zadd_24, zeq_0, zeq_1, zeq_2, zeq_3, zeq_4, zeq_5, zeq_6, zeq_7, zeq_8, zeq_13, zeq_14, zeq_20, zeq_32, zeq_59, zeq_60, zeq_80, zmul_2, zmul_4, zmul_6, zmul_8, zmul_10, zmul_24, zsub_1, zsub_2, zsub_10, zsub_48, zsub_97, zle_0, zle_1, zle_2, zle_6, zle_11, zle_200, zle_600, zle_100000000, ylt_0, ylt_1, ylt_2, ylt_3, ylt_6, ylt_9, ylt_20, ylt_24, ylt_57, ylt_60, ylt_99, ylt_120, ylt_122, ylt_999, ylt_9999, yle_0, yle_2, yle_4, yle_5, yle_6, yle_7, yle_8, yle_10, yle_12, yle_13, yle_15, yle_16, yle_20, yle_24, yle_40, yle_60, yle_64, yle_80, yadd_1, yadd_22, ymul_2, ymul_4, ymul_6, ymul_8, ymul_10, ymul_24, ymul_27, ymul_100, ysub_1, ysub_24, zdiv_2, zdiv_4, zdiv_24, o1, g21]
    exact RN_of ih'
theorem x2_doneBits {D : Nat} (hD : 2 ≤ D) {f : Nat → Nat} {nd nw : Nat} (M : Mem) (hO : CO M f nd nw) : EX L xs (D) q_X2_doneBits [.inr (.inr (20, 0))] M O = (some (.inl (some (.inl (dbF f nd))), M, O, 0, 0) : Res) := by
  have := hO.2.1
  obtain ⟨d, rfl⟩ : ∃ d, D = d + 2 := ⟨D - 2, by omega⟩
  refine (EX_in mi_X2_doneBits rfl rfl rfl (ls := [some (.inr (.inr (20, 0))), none, none]) rfl).trans ?_
  rw [e_X2_doneBits_0]
  exact db_l L xs O d M hO nd FUEL _ 0 (by omega) (Nat.le_of_lt (FU (by omega)))
theorem lw_l {M0 : Mem} {V : Vw} {As : Nat → Nat → Int32} {n nh ns nw na : Nat} (d : Nat) (hd : 7 ≤ d + 1) {f : Nat → Nat} {nd : Nat} (a h : Nat) (hs : Int32) (ha : a < na) (hh : h < 24) (hO : CO M0 f nd nw) : ∀ r fuel k b u8 u9 M, b + r = 2 ^ nw → r ≤ fuel → CQ M0 V As n nh ns nw na M →
    isI (BK L xs (EX L xs (d + 1)) mi_X6_leastWorks (RN L xs (d) mi_X6_leastWorks fuel) (k + 100) 18 [some (.inr (.inr (0, 0))), some (.inl (nI a)), some (.inl (nI h)), some (.inl (hs)), some (.inl (dbF f nd)), some (.inl (bI (lF V (As a) f n nh ns nw nd h hs b))), some (.inl (cI V nw (lF V (As a) f n nh ns nw nd h hs b))), some (.inl (nI b)), u8, u9] [] M O none 0 0) O (bI (lF V (As a) f n nh ns nw nd h hs (2 ^ nw))) (CQ M0 V As n nh ns nw na) := by
  intro r
  induction r with
  | zero =>
    intro fuel k b u8 u9 M hj hf hM
    obtain rfl : b = 2 ^ nw := by omega
    have v8 : nw ≤ 8 := hM.2.1.2.2.2.2.2.2.2.2.1
    have := pow_le8 v8
    have g13 := (hM.2.2.1 3 13 rfl).trans hM.2.1.2.2.2.1
    have s1 := shl1 nw (by omega)
    simp (disch := first | omega | rfl | decide) only [e_X6_leastWorks_18, xr_v, xr_n, hl_of, hl_cl, hl_toInt, hl_le, hl_lt, hl_eq, nI_add, hl_sub, pk_mul, hl_div, if_pos, if_neg, ↓reduceIte, Nat.reduceAdd, Nat.reduceSub, Nat.reduceMul, Nat.add_zero, Nat.zero_add, mp_s, mp_k, mp_i, mp_g, mr_s, mr_i, mr_g, zlt_0, zlt_1, zlt_2, zlt_3, zlt_4, zlt_5, zlt_6, zlt_8, zlt_12, zlt_15, zlt_20, zlt_24, zlt_36, zlt_40, zlt_48, zlt_80, zlt_97, zlt_120, zlt_256, zlt_600, zlt_99999999, zadd_1, zadd_2, zadd_5, zadd_6, zadd_8, zadd_20, zadd_24, zeq_0, zeq_1, zeq_2, zeq_3, zeq_4, zeq_5, zeq_6, zeq_7, zeq_8, zeq_13, zeq_14, zeq_20, zeq_32, zeq_59, zeq_60, zeq_80, zmul_2, zmul_4, zmul_6, zmul_8, zmul_10, zmul_24, zsub_1, zsub_2, zsub_10, zsub_48, zsub_97, zle_0, zle_1, zle_2, zle_6, zle_11, zle_200, zle_600, zle_100000000, ylt_0, ylt_1, ylt_2, ylt_3, ylt_6, ylt_9, ylt_20, ylt_24, ylt_57, ylt_60, ylt_99, ylt_120, ylt_122, ylt_999, ylt_9999, yle_0, yle_2, yle_4, yle_5, yle_6, yle_7, yle_8, yle_10, yle_12, yle_13, yle_15, yle_16, yle_20, yle_24, yle_40, yle_60, yle_64, yle_80, yadd_1, yadd_22, ymul_2, ymul_4, ymul_6, ymul_8, ymul_10, ymul_24, ymul_27, ymul_100, ysub_1, ysub_24, zdiv_2, zdiv_4, zdiv_24, g13, s1]
    exact isI_i hM
  | succ r ih =>
    intro fuel k b u8 u9 M hj hf hM
    have hV := hM.2.1
    have v8 : nw ≤ 8 := hV.2.2.2.2.2.2.2.2.1
    have v6 : nh ≤ 8 := hV.2.2.2.2.2.2.1
    have hp := pow_le8 v8
    obtain ⟨f', rfl⟩ : ∃ f, fuel = f + 1 := ⟨fuel - 1, by omega⟩
    have g13 := (hM.2.2.1 3 13 rfl).trans hV.2.2.2.1
    have s1 := shl1 nw (by omega)
    have q1 := x1_coinOf L xs O (D := d + 1) (by omega) 2 (nI b) hV M hM.2.2.1
    have cle := coin_le hV.2.2.2.2.2.2.2.2.2.2.2.2.2.2.2.2 (nI b) nw (Nat.le_refl _)
    have hdj := db_dj f (nI b) nd (fun i hi => by have := (hO.2.2 i hi).2; omega)
    have hstep : lF V (As a) f n nh ns nw nd h hs (b + 1) = if (djB f (nI b) nd && bet V nw (lF V (As a) f n nh ns nw nd h hs b) b && freeB (fun k => hearF (perfS V (nI b) nw) (As a) n ns h k) hs nh) = true then some b else lF V (As a) f n nh ns nw nd h hs b := rfl
    generalize hst : lF V (As a) f n nh ns nw nd h hs b = st at *
    -- the set is left as it is
    have skip : ∀ M', CQ M0 V As n nh ns nw na M' → ∀ u8 u9, lF V (As a) f n nh ns nw nd h hs (b + 1) = st → isI (RN L xs (d) mi_X6_leastWorks (f' + 1) 18 [some (.inr (.inr (0, 0))), some (.inl (nI a)), some (.inl (nI h)), some (.inl (hs)), some (.inl (dbF f nd)), some (.inl (bI st)), some (.inl (cI V nw st)), some (.inl (nI (b + 1))), u8, u9] M' O none 0 0) O (bI (lF V (As a) f n nh ns nw nd h hs (2 ^ nw))) (CQ M0 V As n nh ns nw na) := by
      intro M' hM' u8 u9 he
      refine isI_e (RN_s _ _ _ _ _ _ _ _ _ _ _ _) ?_
      have := ih f' 2900 (b + 1) u8 u9 M' (by omega) (by omega) hM'
      rw [he] at this
      exact this
    have take : ∀ M', CQ M0 V As n nh ns nw na M' → ∀ u8 u9, lF V (As a) f n nh ns nw nd h hs (b + 1) = some b → isI (RN L xs (d) mi_X6_leastWorks (f' + 1) 18 [some (.inr (.inr (0, 0))), some (.inl (nI a)), some (.inl (nI h)), some (.inl (hs)), some (.inl (dbF f nd)), some (.inl (nI b)), some (.inl (nI (coinN V (nI b) nw))), some (.inl (nI (b + 1))), u8, u9] M' O none 0 0) O (bI (lF V (As a) f n nh ns nw nd h hs (2 ^ nw))) (CQ M0 V As n nh ns nw na) := by
      intro M' hM' u8 u9 he
      refine isI_e (RN_s _ _ _ _ _ _ _ _ _ _ _ _) ?_
      have := ih f' 2900 (b + 1) u8 u9 M' (by omega) (by omega) hM'
      rw [he] at this
      exact this
    have fin : ∀ k', bet V nw st b = true → isI (BK L xs (EX L xs (d + 1)) mi_X6_leastWorks (RN L xs (d) mi_X6_leastWorks (f' + 1)) (k' + 60) 61 [some (.inr (.inr (0, 0))), some (.inl (nI a)), some (.inl (nI h)), some (.inl (hs)), some (.inl (dbF f nd)), some (.inl (bI st)), some (.inl (cI V nw st)), some (.inl (nI b)), some (.inl (nI (coinN V (nI b) nw))), u9] [.inl (1)] M O none 0 0) O (bI (lF V (As a) f n nh ns nw nd h hs (2 ^ nw))) (CQ M0 V As n nh ns nw na) := by
      intro k' hb
      by_cases c1 : nI b &&& dbF f nd = 0
      · obtain ⟨M1, q2, h1⟩ := x6_hearersWith L xs O (D := d + 1) (by omega) b a h (by omega) ha hh M hM
        rw [hdj.mp c1, hb, Bool.and_self, Bool.true_and] at hstep
        unfold tryF at q2
        have hfr := bits_free (fun k => hearF (perfS V (nI b) nw) (As a) n ns h k) hs nh (by omega)
        rw [e_X6_leastWorks_61, if_pos c1, if_neg (by decide), q2]
        simp only [xr_v, Nat.reduceAdd, Nat.add_zero]
        rw [e_X6_leastWorks_84]
        by_cases c2 : bitsF (fun k => hearF (perfS V (nI b) nw) (As a) n ns h k) nh &&& hs = 0
        · rw [if_pos (hfr.mp c2)] at hstep
          rw [if_pos c2, e_X6_leastWorks_97, zadd_1]
          exact take M1 h1 _ _ hstep
        · rw [if_neg (fun e => c2 (hfr.mpr e))] at hstep
          rw [if_neg c2, e_X6_leastWorks_97, zadd_1]
          exact skip M1 h1 _ _ hstep
      · rw [e_X6_leastWorks_61, if_neg c1, e_X6_leastWorks_97, zadd_1]
        refine skip M hM _ _ ?_
        rw [hstep]
        have : djB f (nI b) nd = false := by
          cases e : djB f (nI b) nd with
          | false => rfl
          | true => exact absurd (hdj.mpr e) c1
        rw [this]
        rfl
    rw [e_X6_leastWorks_18, g13, s1, if_neg (by rw [hl_le (by omega) (by omega)]; omega), q1]
    simp only [xr_v, Nat.reduceAdd, Nat.add_zero]
    rw [e_X6_leastWorks_41]
    cases st with
    | none =>
      rw [show bI none = -1 from rfl, if_pos rfl, e_X6_leastWorks_56]
      exact fin _ rfl
    | some c =>
      have cle2 := coin_le hV.2.2.2.2.2.2.2.2.2.2.2.2.2.2.2.2 (nI c) nw (Nat.le_refl _)
      have hc : c < 2147483648 := by
        have := lF_lt hst
        omega
      rw [show bI (some c) = nI c from rfl, if_neg (fun e => nn_n c hc (by rw [e]; decide)), show cI V nw (some c) = nI (coinN V (nI c) nw) from rfl]
      by_cases c3 : coinN V (nI b) nw < coinN V (nI c) nw
      · rw [if_neg (by rw [hl_le (by omega) (by omega)]; omega), e_X6_leastWorks_56]
        exact fin _ (decide_eq_true c3)
      · rw [if_pos (by rw [hl_le (by omega) (by omega)]; omega)]
        have hb : bet V nw (some c) b = false := decide_eq_false c3
        rw [hb, Bool.and_false, Bool.false_and, if_neg Bool.false_ne_true] at hstep
        rw [e_X6_leastWorks_61]
        by_cases c1 : nI b &&& dbF f nd = 0
        · rw [if_pos c1, if_pos rfl, e_X6_leastWorks_97, zadd_1]
          exact skip M hM _ _ hstep
        · rw [if_neg c1, e_X6_leastWorks_97, zadd_1]
          exact skip M hM _ _ hstep
theorem x6_leastWorks {M0 : Mem} {V : Vw} {As : Nat → Nat → Int32} {n nh ns nw na : Nat} {D : Nat} (hD : 8 ≤ D) {f : Nat → Nat} {nd : Nat} (a h : Nat) (hs : Int32) (ha : a < na) (hh : h < 24) (hO : CO M0 f nd nw) (M : Mem) (hM : CQ M0 V As n nh ns nw na M) : isI (EX L xs (D) q_X6_leastWorks [.inr (.inr (0, 0)), .inl (nI a), .inl (nI h), .inl (hs)] M O) O (bI (lF V (As a) f n nh ns nw nd h hs (2 ^ nw))) (CQ M0 V As n nh ns nw na) := by
  have v8 : nw ≤ 8 := hM.2.1.2.2.2.2.2.2.2.2.1
  have := pow_le8 v8
  obtain ⟨d, rfl⟩ : ∃ d, D = d + 2 := ⟨D - 2, by omega⟩
  refine isI_e (EX_in mi_X6_leastWorks rfl rfl rfl (ls := [some (.inr (.inr (0, 0))), some (.inl (nI a)), some (.inl (nI h)), some (.inl (hs)), none, none, none, none, none, none]) rfl) ?_
  rw [e_X6_leastWorks_0, x2_doneBits L xs O (D := d + 1) (by omega) M (CO_fr hO hM.1)]
  simp only [xr_v, Nat.reduceAdd, Nat.add_zero]
  rw [e_X6_leastWorks_7]
  exact lw_l L xs O d (by omega) a h hs ha hh hO (2 ^ nw) FUEL _ 0 none none M (by omega) (Nat.le_of_lt (FU (by omega))) hM
end
