/-! rows on bits, shifts and unsigned numbers, to paste: each family out of a closed proof of our own, whole with what it rests on; each by itself clean at Lean in its own claim (generation 39, form 5). Take a family whole -/
/-! ===== Int32 by its bits: bt x i ===== -/
def bt (x : Int32) (i : Nat) : Bool := x.toBitVec.getLsbD i
theorem b_ext {x y : Int32} (h : ∀ i, i < 32 → bt x i = bt y i) : x = y := Int32.toBitVec_inj.mp (BitVec.eq_of_getLsbD_eq (fun i hi => h i hi))
theorem b_or (x y : Int32) (i : Nat) : bt (x ||| y) i = (bt x i || bt y i) := by unfold bt; rw [Int32.toBitVec_or, BitVec.getLsbD_or]
theorem b_and (x y : Int32) (i : Nat) : bt (x &&& y) i = (bt x i && bt y i) := by unfold bt; rw [Int32.toBitVec_and, BitVec.getLsbD_and]
theorem b_xor (x y : Int32) (i : Nat) : bt (x ^^^ y) i = (bt x i ^^ bt y i) := by unfold bt; rw [Int32.toBitVec_xor, BitVec.getLsbD_xor]
theorem b_big {x : Int32} {i : Nat} (h : 32 ≤ i) : bt x i = false := BitVec.getLsbD_of_ge _ _ h
theorem b_255 (i : Nat) : bt 255 i = decide (i < 8) := by
  rcases Nat.lt_or_ge i 32 with h | h
  · exact (by decide +kernel : ∀ i, i < 32 → bt 255 i = decide (i < 8)) i h
  · rw [b_big h, decide_eq_false (by omega)]
theorem b_65535 (i : Nat) : bt 65535 i = decide (i < 16) := by
  rcases Nat.lt_or_ge i 32 with h | h
  · exact (by decide +kernel : ∀ i, i < 32 → bt 65535 i = decide (i < 16)) i h
  · rw [b_big h, decide_eq_false (by omega)]
theorem b_m1 : ∀ i, i < 32 → bt (-1) i = true := by decide +kernel
theorem b_0 (i : Nat) : bt 0 i = false := BitVec.getLsbD_zero
theorem s_l : ∀ n, n < 32 → ((nI n &&& 31).toBitVec.smod 32).toNat = n := by decide +kernel
theorem s_u : ∀ n, n < 32 → (((nI n).toUInt32 &&& Int32.toUInt32 31).toBitVec % 32).toNat = n := by decide +kernel
theorem b_shl (n : Nat) (hn : n < 32) (x : Int32) {i : Nat} (hi : i < 32) : bt (x <<< (nI n &&& 31)) i = (decide (n ≤ i) && bt x (i - n)) := by
  unfold bt
  rw [Int32.toBitVec_shiftLeft]
  show (x.toBitVec <<< ((nI n &&& 31).toBitVec.smod 32).toNat).getLsbD i = _
  rw [s_l n hn, BitVec.getLsbD_shiftLeft]
  rcases Nat.lt_or_ge i n with h | h
  · simp [h, Nat.not_le.mpr h]
  · simp [hi, h, Nat.not_lt.mpr h]
theorem b_ushr (n : Nat) (hn : n < 32) (x : Int32) (i : Nat) : bt ((x.toUInt32 >>> ((nI n).toUInt32 &&& Int32.toUInt32 31)).toInt32) i = bt x (n + i) := by
  show (x.toUInt32 >>> ((nI n).toUInt32 &&& Int32.toUInt32 31)).toBitVec.getLsbD i = x.toUInt32.toBitVec.getLsbD (n + i)
  rw [UInt32.toBitVec_shiftRight]
  show (x.toUInt32.toBitVec >>> (((nI n).toUInt32 &&& Int32.toUInt32 31).toBitVec % 32).toNat).getLsbD i = _
  rw [s_u n hn, BitVec.getLsbD_ushiftRight]
theorem b_sshr (n : Nat) (hn : n < 32) (x : Int32) {i : Nat} (hi : i < 32) : bt (x >>> (nI n &&& 31)) i = if n + i < 32 then bt x (n + i) else bt x 31 := by
  unfold bt
  rw [Int32.toBitVec_shiftRight]
  show (x.toBitVec.sshiftRight ((nI n &&& 31).toBitVec.smod 32).toNat).getLsbD i = _
  rw [s_l n hn, BitVec.getLsbD_sshiftRight, BitVec.msb_eq_getLsbD_last]
  simp [hi]
theorem bitB_bt (x : Int32) {k : Nat} (hk : k < 32) : bitB x k = bt x k := by
  have h0 : bt ((x >>> (nI k &&& 31)) &&& 1) 0 = bt x k := by
    rw [b_and, b_sshr k hk x (by omega), if_pos (by omega), show bt 1 0 = true from by decide, Bool.and_true, Nat.add_zero]
  have hi : ∀ i, i < 32 → i ≠ 0 → bt ((x >>> (nI k &&& 31)) &&& 1) i = false := by
    intro i h1 h2
    have h3 : ∀ i, i < 32 → i ≠ 0 → bt 1 i = false := by decide +kernel
    rw [b_and, h3 i h1 h2, Bool.and_false]
  unfold bitB
  cases c : bt x k with
  | false =>
    refine decide_eq_false (fun e => ?_)
    rw [e, c] at h0
    exact absurd h0 (by decide)
  | true =>
    refine decide_eq_true (b_ext (fun i h => ?_))
    by_cases e : i = 0
    · rw [e, h0, c]
      decide
    · rw [hi i h e]
      have h3 : ∀ i, i < 32 → i ≠ 0 → bt 1 i = false := by decide +kernel
      exact (h3 i h e).symm
theorem b_one (k : Nat) (hk : k < 32) {i : Nat} (hi : i < 32) : bt (1 <<< (nI k &&& 31)) i = decide (i = k) := by
  have h3 : ∀ i, i < 32 → bt 1 i = decide (i = 0) := by decide +kernel
  rw [b_shl k hk 1 hi]
  by_cases c : k ≤ i
  · rw [decide_eq_true c, Bool.true_and, h3 _ (by omega)]
    by_cases e : i = k
    · rw [decide_eq_true e, decide_eq_true (by omega)]
    · rw [decide_eq_false e, decide_eq_false (by omega)]
  · rw [decide_eq_false c, Bool.false_and, decide_eq_false (by omega)]
theorem and_0 {x y : Int32} : x &&& y = 0 ↔ ∀ i, i < 32 → (bt x i && bt y i) = false := by
  refine ⟨fun h i _ => ?_, fun h => b_ext (fun i hi => ?_)⟩
  · rw [← b_and, h, b_0]
  · rw [b_and, b_0]
    exact h i hi
theorem bt_bits (p : Nat → Bool) : ∀ m, m ≤ 32 → ∀ i, i < 32 → bt (bitsF p m) i = (decide (i < m) && p i) := by
  intro m
  induction m with
  | zero =>
    intro _ i _
    rw [decide_eq_false (by omega), Bool.false_and]
    exact b_0 i
  | succ m ih =>
    intro hm i hi
    have h := ih (by omega) i hi
    unfold bitsF
    by_cases c : p m = true
    · rw [if_pos c, b_or, h, b_one m (by omega) hi]
      by_cases e : i = m
      · rw [e, c, decide_eq_true rfl, decide_eq_true (show m < m + 1 by omega), Bool.or_true]
        rfl
      · rw [decide_eq_false e, Bool.or_false]
        by_cases e2 : i < m
        · rw [decide_eq_true e2, decide_eq_true (show i < m + 1 by omega)]
        · rw [decide_eq_false e2, decide_eq_false (show ¬ i < m + 1 by omega)]
    · rw [if_neg c, h]
      by_cases e : i = m
      · have c' : p m = false := by
          cases e3 : p m with
          | false => rfl
          | true => exact absurd e3 c
        rw [e, c', Bool.and_false, Bool.and_false]
      · by_cases e2 : i < m
        · rw [decide_eq_true e2, decide_eq_true (show i < m + 1 by omega)]
        · rw [decide_eq_false e2, decide_eq_false (show ¬ i < m + 1 by omega)]
/-- no told HOUSE among those that hear -/
def freeB (p : Nat → Bool) (b : Int32) : Nat → Bool
  | 0 => true
  | k + 1 => freeB p b k && !(bitB b k && p k)
theorem free_iff (p : Nat → Bool) (b : Int32) : ∀ m, freeB p b m = true ↔ ∀ k, k < m → (bitB b k && p k) = false := by
  intro m
  induction m with
  | zero => exact ⟨fun _ k hk => absurd hk (by omega), fun _ => rfl⟩
  | succ m ih =>
    unfold freeB
    rw [Bool.and_eq_true, ih]
    refine ⟨fun h k hk => ?_, fun h => ⟨fun k hk => h k (by omega), ?_⟩⟩
    · by_cases e : k = m
      · rw [e]
        have := h.2
        revert this
        cases bitB b m && p m <;> simp
      · exact h.1 k (by omega)
    · rw [h m (by omega)]
      rfl
theorem bits_free (p : Nat → Bool) (b : Int32) (m : Nat) (hm : m ≤ 32) : bitsF p m &&& b = 0 ↔ freeB p b m = true := by
  rw [and_0, free_iff]
  refine ⟨fun h k hk => ?_, fun h i hi => ?_⟩
  · have := h k (by omega)
    rw [bt_bits p m hm k (by omega), decide_eq_true hk, Bool.true_and] at this
    rw [bitB_bt b (by omega), Bool.and_comm]
    exact this
  · rw [bt_bits p m hm i hi]
    by_cases c : i < m
    · rw [decide_eq_true c, Bool.true_and, Bool.and_comm, ← bitB_bt b hi]
      exact h i c
    · rw [decide_eq_false c]
      rfl
