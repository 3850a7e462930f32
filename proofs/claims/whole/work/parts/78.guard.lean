/-! What is asked for is there, or it isn't: both sides. -/
def inN (a : Int32) (m : Nat) : Prop := ∃ j, j < m ∧ a = nI j
theorem nin {a : Int32} {m : Nat} (hm : m < 2147483648) (h : ¬ inN a m) : a < 0 ∨ ¬ a < nI m := by
  by_cases c : a < 0
  · exact Or.inl c
  · right
    intro c2
    exact h (i_of c c2 hm)
theorem xr_t {mi : MI} {X : Nat} {M : Mem} {O : Int64} {mc ms : Nat} {k : RecT} {pc : Nat} {ls : Lcs} {rest : List AV} {T : Tmp} {c s : Nat} (h : mi_hh mi = []) :
    xret tkT mi 0 (some (.inr X, M, O, mc, ms)) k pc ls rest T c s = some (.inr X, M, O, c + mc, s + ms) := by
  show (bif (0 : Nat) == 0 then (match findH tkT X pc (mi_hh mi) with
    | none => (some (.inr X, M, O, c + mc, s + ms) : Res)
    | some h => match hretV mi h with
      | some v => some (.inl (some (.inl v)), M, O, c + mc, s + ms)
      | none => none) else none) = _
  rw [h]
  rfl
def refC (M : Mem) (q : Nat) : Mem := mput M 34 0 q (M 34 0 q + 1)
def refM (M : Mem) (w : Int32) (q : Nat) : Mem := mput (mput M 40 0 0 w) 42 0 q (M 42 0 q + 1)
section
variable (L : Nat) (xs : Nat → Int32) (O : Int64)
theorem x6_needCell_in {D : Nat} (hD : 2 ≤ D) {n : Nat} (hn : n ≤ 40) (j : Nat) (M : Mem) (h0 : M 3 2 0 = nI n) (hj : j < n) : EX L xs (D) q_X6_needCell [.inr (.inr (0, 0)), .inl (nI j)] M O = (some (.inl none, M, O, 0, 0) : Res) := by
  obtain ⟨d, rfl⟩ : ∃ d, D = d + 2 := ⟨D - 2, by omega⟩
  refine (EX_in mi_X6_needCell rfl rfl rfl (ls := [some (.inr (.inr (0, 0))), some (.inl (nI j))]) rfl).trans ?_
  rw [e_X6_needCell_0, if_neg (nn_n j (by omega)), h0, if_pos ((hl_lt (by omega) (by omega)).mpr hj)]
theorem x6_needCell_out {D : Nat} (hD : 2 ≤ D) {n : Nat} (hn : n ≤ 40) (a : Int32) (M : Mem) (h0 : M 3 2 0 = nI n) (h : ¬ inN a n) : EX L xs (D) q_X6_needCell [.inr (.inr (0, 0)), .inl (a)] M O = (some (.inr 0, refC M 0, O, 1, 6) : Res) := by
  obtain ⟨d, rfl⟩ : ∃ d, D = d + 2 := ⟨D - 2, by omega⟩
  refine (EX_in mi_X6_needCell rfl rfl rfl (ls := [some (.inr (.inr (0, 0))), some (.inl (a))]) rfl).trans ?_
  rw [e_X6_needCell_0]
  by_cases c : a < 0
  · rw [if_pos c, e_X6_needCell_15]
    rfl
  · rw [if_neg c, h0, if_neg ((nin (by omega) h).resolve_left c), e_X6_needCell_15]
    rfl
theorem x6_needElement_in {D : Nat} (hD : 2 ≤ D) (m j : Nat) (hm : m ≤ 40) (M : Mem) (hj : j < m) : EX L xs (D) q_X6_needElement [.inr (.inr (0, 0)), .inl (nI j), .inl (nI m)] M O = (some (.inl none, M, O, 0, 0) : Res) := by
  obtain ⟨d, rfl⟩ : ∃ d, D = d + 2 := ⟨D - 2, by omega⟩
  refine (EX_in mi_X6_needElement rfl rfl rfl (ls := [some (.inr (.inr (0, 0))), some (.inl (nI j)), some (.inl (nI m))]) rfl).trans ?_
  rw [e_X6_needElement_0, if_neg (nn_n j (by omega)), if_pos ((hl_lt (by omega) (by omega)).mpr hj)]
theorem x6_needElement_out {D : Nat} (hD : 2 ≤ D) (m : Nat) (hm : m ≤ 40) (a : Int32) (M : Mem) (h : ¬ inN a m) : EX L xs (D) q_X6_needElement [.inr (.inr (0, 0)), .inl (a), .inl (nI m)] M O = (some (.inr 1, refC M 1, O, 1, 6) : Res) := by
  obtain ⟨d, rfl⟩ : ∃ d, D = d + 2 := ⟨D - 2, by omega⟩
  refine (EX_in mi_X6_needElement rfl rfl rfl (ls := [some (.inr (.inr (0, 0))), some (.inl (a)), some (.inl (nI m))]) rfl).trans ?_
  rw [e_X6_needElement_0]
  by_cases c : a < 0
  · rw [if_pos c, e_X6_needElement_9]
    rfl
  · rw [if_neg c, if_neg ((nin (by omega) h).resolve_left c), e_X6_needElement_9]
    rfl
theorem x6_needHouse_in {D : Nat} (hD : 3 ≤ D) {m : Nat} (hm : m ≤ 40) (j : Nat) (M : Mem) (h0 : M 3 2 4 = nI m) (hj : j < m) : EX L xs (D) q_X6_needHouse [.inr (.inr (0, 0)), .inl (nI j)] M O = (some (.inl none, M, O, 0, 0) : Res) := by
  obtain ⟨d, rfl⟩ : ∃ d, D = d + 2 := ⟨D - 2, by omega⟩
  refine (EX_in mi_X6_needHouse rfl rfl rfl (ls := [some (.inr (.inr (0, 0))), some (.inl (nI j))]) rfl).trans ?_
  rw [e_X6_needHouse_0, h0, x6_needElement_in L xs O (D := d + 1) (by omega) m j hm M hj]
  simp only [xr_n, Nat.reduceAdd, Nat.add_zero]
  rw [e_X6_needHouse_12]
theorem x6_needHouse_out {D : Nat} (hD : 3 ≤ D) {m : Nat} (hm : m ≤ 40) (a : Int32) (M : Mem) (h0 : M 3 2 4 = nI m) (h : ¬ inN a m) : EX L xs (D) q_X6_needHouse [.inr (.inr (0, 0)), .inl (a)] M O = (some (.inr 1, refC M 1, O, 1, 6) : Res) := by
  obtain ⟨d, rfl⟩ : ∃ d, D = d + 2 := ⟨D - 2, by omega⟩
  refine (EX_in mi_X6_needHouse rfl rfl rfl (ls := [some (.inr (.inr (0, 0))), some (.inl (a))]) rfl).trans ?_
  rw [e_X6_needHouse_0, h0, x6_needElement_out L xs O (D := d + 1) (by omega) m hm a M h, xr_t rfl]
theorem x6_needSource_in {D : Nat} (hD : 3 ≤ D) {m : Nat} (hm : m ≤ 40) (j : Nat) (M : Mem) (h0 : M 3 2 8 = nI m) (hj : j < m) : EX L xs (D) q_X6_needSource [.inr (.inr (0, 0)), .inl (nI j)] M O = (some (.inl none, M, O, 0, 0) : Res) := by
  obtain ⟨d, rfl⟩ : ∃ d, D = d + 2 := ⟨D - 2, by omega⟩
  refine (EX_in mi_X6_needSource rfl rfl rfl (ls := [some (.inr (.inr (0, 0))), some (.inl (nI j))]) rfl).trans ?_
  rw [e_X6_needSource_0, h0, x6_needElement_in L xs O (D := d + 1) (by omega) m j hm M hj]
  simp only [xr_n, Nat.reduceAdd, Nat.add_zero]
  rw [e_X6_needSource_12]
theorem x6_needSource_out {D : Nat} (hD : 3 ≤ D) {m : Nat} (hm : m ≤ 40) (a : Int32) (M : Mem) (h0 : M 3 2 8 = nI m) (h : ¬ inN a m) : EX L xs (D) q_X6_needSource [.inr (.inr (0, 0)), .inl (a)] M O = (some (.inr 1, refC M 1, O, 1, 6) : Res) := by
  obtain ⟨d, rfl⟩ : ∃ d, D = d + 2 := ⟨D - 2, by omega⟩
  refine (EX_in mi_X6_needSource rfl rfl rfl (ls := [some (.inr (.inr (0, 0))), some (.inl (a))]) rfl).trans ?_
  rw [e_X6_needSource_0, h0, x6_needElement_out L xs O (D := d + 1) (by omega) m hm a M h, xr_t rfl]
theorem x6_needAir_in {D : Nat} (hD : 3 ≤ D) {m : Nat} (hm : m ≤ 40) (j : Nat) (M : Mem) (h0 : M 0 0 6 = nI m) (hj : j < m) : EX L xs (D) q_X6_needAir [.inr (.inr (0, 0)), .inl (nI j)] M O = (some (.inl none, M, O, 0, 0) : Res) := by
  obtain ⟨d, rfl⟩ : ∃ d, D = d + 2 := ⟨D - 2, by omega⟩
  refine (EX_in mi_X6_needAir rfl rfl rfl (ls := [some (.inr (.inr (0, 0))), some (.inl (nI j))]) rfl).trans ?_
  rw [e_X6_needAir_0, h0, x6_needElement_in L xs O (D := d + 1) (by omega) m j hm M hj]
  simp only [xr_n, Nat.reduceAdd, Nat.add_zero]
  rw [e_X6_needAir_9]
theorem x6_needAir_out {D : Nat} (hD : 3 ≤ D) {m : Nat} (hm : m ≤ 40) (a : Int32) (M : Mem) (h0 : M 0 0 6 = nI m) (h : ¬ inN a m) : EX L xs (D) q_X6_needAir [.inr (.inr (0, 0)), .inl (a)] M O = (some (.inr 1, refC M 1, O, 1, 6) : Res) := by
  obtain ⟨d, rfl⟩ : ∃ d, D = d + 2 := ⟨D - 2, by omega⟩
  refine (EX_in mi_X6_needAir rfl rfl rfl (ls := [some (.inr (.inr (0, 0))), some (.inl (a))]) rfl).trans ?_
  rw [e_X6_needAir_0, h0, x6_needElement_out L xs O (D := d + 1) (by omega) m hm a M h, xr_t rfl]
theorem x6_needArg_1 {D : Nat} (hD : 2 ≤ D) (M : Mem) : EX L xs (D) q_X6_needArgument [.inr (.inr (0, 0)), .inl (1)] M O = (some (.inl none, M, O, 0, 0) : Res) := by
  obtain ⟨d, rfl⟩ : ∃ d, D = d + 2 := ⟨D - 2, by omega⟩
  refine (EX_in mi_X6_needArgument rfl rfl rfl (ls := [some (.inr (.inr (0, 0))), some (.inl (1))]) rfl).trans ?_
  rw [e_X6_needArgument_0, if_neg (by decide)]
theorem x6_needArg_0 {D : Nat} (hD : 2 ≤ D) (M : Mem) : EX L xs (D) q_X6_needArgument [.inr (.inr (0, 0)), .inl (0)] M O = (some (.inr 2, refC M 2, O, 1, 6) : Res) := by
  obtain ⟨d, rfl⟩ : ∃ d, D = d + 2 := ⟨D - 2, by omega⟩
  refine (EX_in mi_X6_needArgument rfl rfl rfl (ls := [some (.inr (.inr (0, 0))), some (.inl (0))]) rfl).trans ?_
  rw [e_X6_needArgument_0, if_pos rfl]
  rfl
theorem x6_needHour_in {D : Nat} (hD : 3 ≤ D) (j : Nat) (M : Mem) (hj : j < 24) : EX L xs (D) q_X6_needHour [.inr (.inr (0, 0)), .inl (nI j)] M O = (some (.inl none, M, O, 0, 0) : Res) := by
  obtain ⟨d, rfl⟩ : ∃ d, D = d + 2 := ⟨D - 2, by omega⟩
  refine (EX_in mi_X6_needHour rfl rfl rfl (ls := [some (.inr (.inr (0, 0))), some (.inl (nI j))]) rfl).trans ?_
  rw [e_X6_needHour_0, if_neg (nn_n j (by omega)), if_neg (by rw [yle_24 (by omega)]; omega), e_X6_needHour_16, x6_needArg_1 L xs O (D := d + 1) (by omega)]
  simp only [xr_n, Nat.reduceAdd, Nat.add_zero]
  rw [e_X6_needHour_19]
theorem x6_needHour_out {D : Nat} (hD : 3 ≤ D) (a : Int32) (M : Mem) (h : ¬ inN a 24) : EX L xs (D) q_X6_needHour [.inr (.inr (0, 0)), .inl (a)] M O = (some (.inr 2, refC M 2, O, 1, 6) : Res) := by
  obtain ⟨d, rfl⟩ : ∃ d, D = d + 2 := ⟨D - 2, by omega⟩
  refine (EX_in mi_X6_needHour rfl rfl rfl (ls := [some (.inr (.inr (0, 0))), some (.inl (a))]) rfl).trans ?_
  rw [e_X6_needHour_0]
  by_cases c : a < 0
  · rw [if_pos c, e_X6_needHour_15, e_X6_needHour_16, x6_needArg_0 L xs O (D := d + 1) (by omega), xr_t rfl]
  · have c2 : (24 : Int32) ≤ a := le_nlt ((nin (by omega) h).resolve_left c)
    rw [if_neg c, if_pos c2, e_X6_needHour_15, e_X6_needHour_16, x6_needArg_0 L xs O (D := d + 1) (by omega), xr_t rfl]
theorem x6_needWhat_in {D : Nat} (hD : 3 ≤ D) (m j : Nat) (hm : m ≤ 40) (M : Mem) (hj : j < m) : EX L xs (D) q_X6_needWhat [.inr (.inr (0, 0)), .inl (nI j), .inl (nI m)] M O = (some (.inl none, M, O, 0, 0) : Res) := by
  obtain ⟨d, rfl⟩ : ∃ d, D = d + 2 := ⟨D - 2, by omega⟩
  refine (EX_in mi_X6_needWhat rfl rfl rfl (ls := [some (.inr (.inr (0, 0))), some (.inl (nI j)), some (.inl (nI m))]) rfl).trans ?_
  rw [e_X6_needWhat_0, if_neg (nn_n j (by omega)), if_neg (by rw [hl_le (by omega) (by omega)]; omega), e_X6_needWhat_15, x6_needArg_1 L xs O (D := d + 1) (by omega)]
  simp only [xr_n, Nat.reduceAdd, Nat.add_zero]
  rw [e_X6_needWhat_18]
theorem x6_needWhat_out {D : Nat} (hD : 3 ≤ D) (m : Nat) (hm : m ≤ 40) (a : Int32) (M : Mem) (h : ¬ inN a m) : EX L xs (D) q_X6_needWhat [.inr (.inr (0, 0)), .inl (a), .inl (nI m)] M O = (some (.inr 2, refC M 2, O, 1, 6) : Res) := by
  obtain ⟨d, rfl⟩ : ∃ d, D = d + 2 := ⟨D - 2, by omega⟩
  refine (EX_in mi_X6_needWhat rfl rfl rfl (ls := [some (.inr (.inr (0, 0))), some (.inl (a)), some (.inl (nI m))]) rfl).trans ?_
  rw [e_X6_needWhat_0]
  by_cases c : a < 0
  · rw [if_pos c, e_X6_needWhat_14, e_X6_needWhat_15, x6_needArg_0 L xs O (D := d + 1) (by omega), xr_t rfl]
  · rw [if_neg c, if_pos (le_nlt ((nin (by omega) h).resolve_left c)), e_X6_needWhat_14, e_X6_needWhat_15, x6_needArg_0 L xs O (D := d + 1) (by omega), xr_t rfl]
theorem mask_b : ∀ m, m < 9 → ∀ i, i < 32 → bt (-(1 <<< (nI m &&& 31))) i = decide (m ≤ i) := by decide +kernel
theorem mask_0 {a : Int32} {m : Nat} (hm : m ≤ 8) : a &&& (-(1 <<< (nI m &&& 31))) = 0 ↔ inN a (2 ^ m) := by
  rw [and_0]
  refine ⟨fun h => ?_, fun ⟨j, hj, e⟩ i hi => ?_⟩
  · refine ⟨a.toBitVec.toNat, ?_, ?_⟩
    · refine Nat.lt_pow_two_of_testBit _ (fun i hi => ?_)
      by_cases c : i < 32
      · have := h i c
        rw [mask_b m (by omega) i c, decide_eq_true hi, Bool.and_true] at this
        exact this
      · exact BitVec.getLsbD_of_ge _ _ (by omega)
    · exact Int32.toBitVec_inj.mp (by show _ = BitVec.ofNat 32 _; simp)
  · rw [mask_b m (by omega) i hi]
    by_cases c : m ≤ i
    · have h2 : bt a i = false := by
        rw [e]
        show (BitVec.ofNat 32 j).getLsbD i = false
        rw [BitVec.getLsbD_ofNat, Nat.testBit_lt_two_pow (Nat.lt_of_lt_of_le hj (Nat.pow_le_pow_right (by omega) c)), Bool.and_false]
      rw [h2]
      rfl
    · rw [decide_eq_false c, Bool.and_false]
theorem x6_needBits_in {D : Nat} (hD : 3 ≤ D) (m : Nat) (hm : m ≤ 8) (a : Int32) (M : Mem) (h : inN a (2 ^ m)) : EX L xs (D) q_X6_needBits [.inr (.inr (0, 0)), .inl (a), .inl (nI m)] M O = (some (.inl none, M, O, 0, 0) : Res) := by
  obtain ⟨d, rfl⟩ : ∃ d, D = d + 2 := ⟨D - 2, by omega⟩
  refine (EX_in mi_X6_needBits rfl rfl rfl (ls := [some (.inr (.inr (0, 0))), some (.inl (a)), some (.inl (nI m))]) rfl).trans ?_
  rw [e_X6_needBits_0, if_pos ((mask_0 hm).mpr h), e_X6_needBits_15, x6_needArg_1 L xs O (D := d + 1) (by omega)]
  simp only [xr_n, Nat.reduceAdd, Nat.add_zero]
  rw [e_X6_needBits_18]
theorem x6_needBits_out {D : Nat} (hD : 3 ≤ D) (m : Nat) (hm : m ≤ 8) (a : Int32) (M : Mem) (h : ¬ inN a (2 ^ m)) : EX L xs (D) q_X6_needBits [.inr (.inr (0, 0)), .inl (a), .inl (nI m)] M O = (some (.inr 2, refC M 2, O, 1, 6) : Res) := by
  obtain ⟨d, rfl⟩ : ∃ d, D = d + 2 := ⟨D - 2, by omega⟩
  refine (EX_in mi_X6_needBits rfl rfl rfl (ls := [some (.inr (.inr (0, 0))), some (.inl (a)), some (.inl (nI m))]) rfl).trans ?_
  rw [e_X6_needBits_0, if_neg (fun e => h ((mask_0 hm).mp e)), e_X6_needBits_15, x6_needArg_0 L xs O (D := d + 1) (by omega), xr_t rfl]
/-! the reference -/
theorem x7_in_in {D : Nat} (hD : 2 ≤ D) (m j : Nat) (hm : m ≤ 100000) (M : Mem) (hj : j < m) : EX L xs (D) q_X7_in [.inl (nI j), .inl (0), .inl (nI (m - 1))] M O = (some (.inl (some (.inl (1))), M, O, 0, 0) : Res) := by
  rw [x7_in L xs O hD, if_neg (nn_n j (by omega)), if_neg (by rw [hl_lt (by omega) (by omega)]; omega)]
theorem nin_lt {a : Int32} {m : Nat} (hm : m < 2147483648) (c : ¬ a < 0) (h : ¬ a < nI m) : nI m - 1 < a := by
  by_cases h0 : m = 0
  · rw [h0]
    have e : (nI 0 - 1 : Int32).toInt = -1 := by decide
    have e0 : (0 : Int32).toInt = 0 := by decide
    rw [i_lt] at *
    omega
  · rw [zsub_1 (by omega)]
    rw [i_lt, hl_toInt (by omega)] at *
    omega
theorem x7_in_out {D : Nat} (hD : 2 ≤ D) (m : Nat) (hm : m ≤ 100000) (a : Int32) (M : Mem) (h : ¬ inN a m) : EX L xs (D) q_X7_in [.inl (a), .inl (0), .inl (nI m - 1)] M O = (some (.inl (some (.inl (0))), M, O, 0, 0) : Res) := by
  rw [x7_in L xs O hD]
  by_cases c : a < 0
  · rw [if_pos c]
  · rw [if_neg c, if_pos (nin_lt (by omega) c ((nin (by omega) h).resolve_left c))]
theorem x7_isHouse_i {D : Nat} (hD : 3 ≤ D) {m : Nat} (hm : m ≤ 40) (j : Nat) (M : Mem) (h0 : M 44 0 1 = nI m) (hj : j < m) : EX L xs (D) q_X7_isHouse [.inr (.inr (40, 0)), .inl (nI j)] M O = (some (.inl (some (.inl (1))), M, O, 0, 0) : Res) := by
  obtain ⟨d, rfl⟩ : ∃ d, D = d + 2 := ⟨D - 2, by omega⟩
  refine (EX_in mi_X7_isHouse rfl rfl rfl (ls := [some (.inr (.inr (40, 0))), some (.inl (nI j))]) rfl).trans ?_
  rw [e_X7_isHouse_0, h0, zsub_1 (by omega), x7_in_in L xs O (D := d + 1) (by omega) m j (by omega) M hj]
  simp only [xr_v, Nat.reduceAdd, Nat.add_zero]
  rw [e_X7_isHouse_13, if_pos (Or.inr rfl)]
theorem x7_isHouse_o {D : Nat} (hD : 3 ≤ D) {m : Nat} (hm : m ≤ 40) (a : Int32) (M : Mem) (h0 : M 44 0 1 = nI m) (h : ¬ inN a m) : EX L xs (D) q_X7_isHouse [.inr (.inr (40, 0)), .inl (a)] M O = (some (.inl (some (.inl (0))), M, O, 0, 0) : Res) := by
  obtain ⟨d, rfl⟩ : ∃ d, D = d + 2 := ⟨D - 2, by omega⟩
  refine (EX_in mi_X7_isHouse rfl rfl rfl (ls := [some (.inr (.inr (40, 0))), some (.inl (a))]) rfl).trans ?_
  rw [e_X7_isHouse_0, h0, x7_in_out L xs O (D := d + 1) (by omega) m (by omega) a M h]
  simp only [xr_v, Nat.reduceAdd, Nat.add_zero]
  rw [e_X7_isHouse_13, if_pos (Or.inl rfl)]
theorem x7_isSource_i {D : Nat} (hD : 3 ≤ D) {m : Nat} (hm : m ≤ 40) (j : Nat) (M : Mem) (h0 : M 44 0 2 = nI m) (hj : j < m) : EX L xs (D) q_X7_isSource [.inr (.inr (40, 0)), .inl (nI j)] M O = (some (.inl (some (.inl (1))), M, O, 0, 0) : Res) := by
  obtain ⟨d, rfl⟩ : ∃ d, D = d + 2 := ⟨D - 2, by omega⟩
  refine (EX_in mi_X7_isSource rfl rfl rfl (ls := [some (.inr (.inr (40, 0))), some (.inl (nI j))]) rfl).trans ?_
  rw [e_X7_isSource_0, h0, zsub_1 (by omega), x7_in_in L xs O (D := d + 1) (by omega) m j (by omega) M hj]
  simp only [xr_v, Nat.reduceAdd, Nat.add_zero]
  rw [e_X7_isSource_13, if_pos (Or.inr rfl)]
theorem x7_isSource_o {D : Nat} (hD : 3 ≤ D) {m : Nat} (hm : m ≤ 40) (a : Int32) (M : Mem) (h0 : M 44 0 2 = nI m) (h : ¬ inN a m) : EX L xs (D) q_X7_isSource [.inr (.inr (40, 0)), .inl (a)] M O = (some (.inl (some (.inl (0))), M, O, 0, 0) : Res) := by
  obtain ⟨d, rfl⟩ : ∃ d, D = d + 2 := ⟨D - 2, by omega⟩
  refine (EX_in mi_X7_isSource rfl rfl rfl (ls := [some (.inr (.inr (40, 0))), some (.inl (a))]) rfl).trans ?_
  rw [e_X7_isSource_0, h0, x7_in_out L xs O (D := d + 1) (by omega) m (by omega) a M h]
  simp only [xr_v, Nat.reduceAdd, Nat.add_zero]
  rw [e_X7_isSource_13, if_pos (Or.inl rfl)]
theorem x7_isAir_i {D : Nat} (hD : 3 ≤ D) {m : Nat} (hm : m ≤ 40) (j : Nat) (M : Mem) (h0 : M 40 0 26 = nI m) (hj : j < m) : EX L xs (D) q_X7_isAir [.inr (.inr (40, 0)), .inl (nI j)] M O = (some (.inl (some (.inl (1))), M, O, 0, 0) : Res) := by
  obtain ⟨d, rfl⟩ : ∃ d, D = d + 2 := ⟨D - 2, by omega⟩
  refine (EX_in mi_X7_isAir rfl rfl rfl (ls := [some (.inr (.inr (40, 0))), some (.inl (nI j))]) rfl).trans ?_
  rw [e_X7_isAir_0, h0, zsub_1 (by omega), x7_in_in L xs O (D := d + 1) (by omega) m j (by omega) M hj]
  simp only [xr_v, Nat.reduceAdd, Nat.add_zero]
  rw [e_X7_isAir_11, if_pos (Or.inr rfl)]
theorem x7_isAir_o {D : Nat} (hD : 3 ≤ D) {m : Nat} (hm : m ≤ 40) (a : Int32) (M : Mem) (h0 : M 40 0 26 = nI m) (h : ¬ inN a m) : EX L xs (D) q_X7_isAir [.inr (.inr (40, 0)), .inl (a)] M O = (some (.inl (some (.inl (0))), M, O, 0, 0) : Res) := by
  obtain ⟨d, rfl⟩ : ∃ d, D = d + 2 := ⟨D - 2, by omega⟩
  refine (EX_in mi_X7_isAir rfl rfl rfl (ls := [some (.inr (.inr (40, 0))), some (.inl (a))]) rfl).trans ?_
  rw [e_X7_isAir_0, h0, x7_in_out L xs O (D := d + 1) (by omega) m (by omega) a M h]
  simp only [xr_v, Nat.reduceAdd, Nat.add_zero]
  rw [e_X7_isAir_11, if_pos (Or.inl rfl)]
theorem x7_isCell_i {D : Nat} (hD : 3 ≤ D) {m : Nat} (hm : m ≤ 40) (j : Nat) (M : Mem) (h0 : M 44 0 0 = nI m) (hj : j < m) : EX L xs (D) q_X7_isCell [.inr (.inr (40, 0)), .inl (nI j)] M O = (some (.inl (some (.inl (1))), M, O, 0, 0) : Res) := by
  obtain ⟨d, rfl⟩ : ∃ d, D = d + 2 := ⟨D - 2, by omega⟩
  refine (EX_in mi_X7_isCell rfl rfl rfl (ls := [some (.inr (.inr (40, 0))), some (.inl (nI j))]) rfl).trans ?_
  rw [e_X7_isCell_0, h0, zsub_1 (by omega), x7_in_in L xs O (D := d + 1) (by omega) m j (by omega) M hj]
  simp only [xr_v, Nat.reduceAdd, Nat.add_zero]
  rw [e_X7_isCell_13, if_pos (Or.inr rfl)]
theorem x7_isCell_o {D : Nat} (hD : 3 ≤ D) {m : Nat} (hm : m ≤ 40) (a : Int32) (M : Mem) (h0 : M 44 0 0 = nI m) (h : ¬ inN a m) : EX L xs (D) q_X7_isCell [.inr (.inr (40, 0)), .inl (a)] M O = (some (.inl (some (.inl (0))), M, O, 0, 0) : Res) := by
  obtain ⟨d, rfl⟩ : ∃ d, D = d + 2 := ⟨D - 2, by omega⟩
  refine (EX_in mi_X7_isCell rfl rfl rfl (ls := [some (.inr (.inr (40, 0))), some (.inl (a))]) rfl).trans ?_
  rw [e_X7_isCell_0, h0, x7_in_out L xs O (D := d + 1) (by omega) m (by omega) a M h]
  simp only [xr_v, Nat.reduceAdd, Nat.add_zero]
  rw [e_X7_isCell_13, if_pos (Or.inl rfl)]
theorem x7_isHour_i {D : Nat} (hD : 3 ≤ D) (j : Nat) (M : Mem) (hj : j < 24) : EX L xs (D) q_X7_isHour [.inl (nI j)] M O = (some (.inl (some (.inl (1))), M, O, 0, 0) : Res) := by
  obtain ⟨d, rfl⟩ : ∃ d, D = d + 2 := ⟨D - 2, by omega⟩
  refine (EX_in mi_X7_isHour rfl rfl rfl (ls := [some (.inl (nI j))]) rfl).trans ?_
  rw [e_X7_isHour_0, show (23 : Int32) = nI (24 - 1) from rfl, x7_in_in L xs O (D := d + 1) (by omega) 24 j (by omega) M hj]
  simp only [xr_v, Nat.reduceAdd, Nat.add_zero]
  rw [e_X7_isHour_7, if_pos (Or.inr rfl)]
theorem x7_isHour_o {D : Nat} (hD : 3 ≤ D) (a : Int32) (M : Mem) (h : ¬ inN a 24) : EX L xs (D) q_X7_isHour [.inl (a)] M O = (some (.inl (some (.inl (0))), M, O, 0, 0) : Res) := by
  obtain ⟨d, rfl⟩ : ∃ d, D = d + 2 := ⟨D - 2, by omega⟩
  refine (EX_in mi_X7_isHour rfl rfl rfl (ls := [some (.inl (a))]) rfl).trans ?_
  rw [e_X7_isHour_0, show (23 : Int32) = nI 24 - 1 from by decide, x7_in_out L xs O (D := d + 1) (by omega) 24 (by omega) a M h]
  simp only [xr_v, Nat.reduceAdd, Nat.add_zero]
  rw [e_X7_isHour_7, if_pos (Or.inl rfl)]
theorem x7_bits_i {D : Nat} (hD : 3 ≤ D) {m : Nat} (hm : m ≤ 8) (a : Int32) (M : Mem) (h0 : M 44 0 1 = nI m) (h : inN a (2 ^ m)) : EX L xs (D) q_X7_areHouses [.inr (.inr (40, 0)), .inl (a)] M O = (some (.inl (some (.inl (1))), M, O, 0, 0) : Res) := by
  obtain ⟨j, hj, rfl⟩ := h
  have hp := pow_le8 hm
  obtain ⟨d, rfl⟩ : ∃ d, D = d + 2 := ⟨D - 2, by omega⟩
  refine (EX_in mi_X7_areHouses rfl rfl rfl (ls := [some (.inr (.inr (40, 0))), some (.inl (nI j))]) rfl).trans ?_
  rw [e_X7_areHouses_0, h0, shl1 m (by omega), zsub_1 (by omega), x7_in_in L xs O (D := d + 1) (by omega) (2 ^ m) j (by omega) M hj]
  simp only [xr_v, Nat.reduceAdd, Nat.add_zero]
  rw [e_X7_areHouses_15, if_pos (Or.inr rfl)]
theorem x7_bits_o {D : Nat} (hD : 3 ≤ D) {m : Nat} (hm : m ≤ 8) (a : Int32) (M : Mem) (h0 : M 44 0 1 = nI m) (h : ¬ inN a (2 ^ m)) : EX L xs (D) q_X7_areHouses [.inr (.inr (40, 0)), .inl (a)] M O = (some (.inl (some (.inl (0))), M, O, 0, 0) : Res) := by
  have hp := pow_le8 hm
  obtain ⟨d, rfl⟩ : ∃ d, D = d + 2 := ⟨D - 2, by omega⟩
  refine (EX_in mi_X7_areHouses rfl rfl rfl (ls := [some (.inr (.inr (40, 0))), some (.inl (a))]) rfl).trans ?_
  rw [e_X7_areHouses_0, h0, shl1 m (by omega), x7_in_out L xs O (D := d + 1) (by omega) (2 ^ m) (by omega) a M h]
  simp only [xr_v, Nat.reduceAdd, Nat.add_zero]
  rw [e_X7_areHouses_15, if_pos (Or.inl rfl)]
theorem x7_bad_0 {D : Nat} (hD : 2 ≤ D) (w q : Int32) (M : Mem) (h0 : M 40 0 0 = 0) : EX L xs (D) q_X7_bad [.inr (.inr (40, 0)), .inl (0), .inl (w), .inl (q)] M O = (some (.inl (some (.inl (0))), M, O, 0, 0) : Res) := by
  obtain ⟨d, rfl⟩ : ∃ d, D = d + 2 := ⟨D - 2, by omega⟩
  refine (EX_in mi_X7_bad rfl rfl rfl (ls := [some (.inr (.inr (40, 0))), some (.inl (0)), some (.inl (w)), some (.inl (q))]) rfl).trans ?_
  rw [e_X7_bad_0, if_pos rfl, e_X7_bad_26, if_pos h0, e_X7_bad_38, if_pos (Or.inl rfl)]
theorem x7_bad_1 {D : Nat} (hD : 2 ≤ D) (w : Int32) (q : Nat) (hq : q < 3) (hw : w ≠ 0) (M : Mem) (h0 : M 40 0 0 = 0) : EX L xs (D) q_X7_bad [.inr (.inr (40, 0)), .inl (1), .inl (w), .inl (nI q)] M O = (some (.inl (some (.inl (1))), refM M w q, O, 0, 0) : Res) := by
  obtain ⟨d, rfl⟩ : ∃ d, D = d + 2 := ⟨D - 2, by omega⟩
  refine (EX_in mi_X7_bad rfl rfl rfl (ls := [some (.inr (.inr (40, 0))), some (.inl (1)), some (.inl (w)), some (.inl (nI q))]) rfl).trans ?_
  rw [e_X7_bad_0, if_neg (by decide), if_pos h0, if_pos (in_3 hq), if_pos (in_3 hq), hl_cl (by omega), e_X7_bad_26, mp_g (by omega), mp_s, if_neg hw, e_X7_bad_38, if_pos (Or.inr rfl)]
  rfl
end
